theorem Rel.heard {n d c : Nat} {S S' : Nat → Nat → Nat → Int32} {M M' : Nat → Nat → Int32} (R : Rel n d S M c) {j : Nat} (hj : j < d) {one oth mc fst cl : Int32} {un nw fi : Nat → Int32} (hS : S' = setD S j one oth un nw fi mc fst cl) (hM : ∀ a, a ≠ 13 → a ≠ 14 → a ≠ 15 → M' a = M a) (h13 : ∀ i, i ≠ j → M' 13 i = M 13 i) (h14 : ∀ i, i ≠ j → M' 14 i = M 14 i) (h15 : ∀ i x, i ≠ j → x < 2 → M' 15 (2 * i + x) = M 15 (2 * i + x)) (hr : RF S' M' (c + 1) j) : Rel n d S' M' (c + 1) := by
  refine R.file hj (fun a b h => by rw [hS]; exact setD_off a b (Or.inl h)) (by rw [hS, setD_off 16 0 (Or.inr (Or.inl (by decide)))]) (fun b hb => ?_) (fun a i h1 h2 h3 => by rw [hS]; exact setD_off a i (Or.inr (Or.inr h3))) (fun a h => hM a (by omega) (by omega) (by omega)) (fun a i h1 h2 h3 h4 h5 => ?_) (fun a i x h1 h2 h3 => ?_) hr
  · rw [hM 18 (by decide) (by decide) (by decide), hS, setD_off 15 0 (Or.inr (Or.inl (by decide)))]
    exact R.2.2.2.2.2.1 b hb
  · by_cases e : a = 13
    · subst e; exact h13 i h5
    · by_cases e2 : a = 14
      · subst e2; exact h14 i h5
      · rw [hM a e e2 h3]
  · rcases h1 with rfl | rfl
    · exact h15 i x h2 h3
    · rw [hM 16 (by decide) (by decide) (by decide)]
theorem bI_one : bI true = 1 := rfl
theorem step_tell {n d c : Nat} {S : Nat → Nat → Nat → Int32} {M : Nat → Nat → Int32} (R : Rel n d S M c) (hc : c < 1000) (p0 p1 p2 : Int32) : StepW (sp_X2_tell n d S p0 p1 p2).1 ((sp_X2_tell n d S p0 p1 p2).2.1) (bI (sp_X3_tell M p0 p1 p2).1) ((sp_X3_tell M p0 p1 p2).2.1) (Rel n d ((sp_X2_tell n d S p0 p1 p2).2.2) ((sp_X3_tell M p0 p1 p2).2.2) (c + 1)) (Rel n d S ((sp_X3_tell M p0 p1 p2).2.2) (c + 1)) := by
  unfold sp_X2_tell sp_X3_tell
  rw [R.mF, R.mT]
  by_cases h1 : tIn d p0 = true
  case neg => simp only [if_neg h1]; exact StepW.thr (by decide) R.mono
  by_cases h2 : tIn n p2 = true
  case neg => simp only [if_pos h1, if_neg h2]; exact StepW.thr (by decide) R.mono
  have hd := R.2.1
  have hn := R.1
  obtain ⟨j, hj, rfl⟩ := tIn_ex h1 (by omega)
  obtain ⟨t, ht, rfl⟩ := tIn_ex h2 (by omega)
  have ht30 : t < 30 := by omega
  have hj20 : j < 20 := by omega
  have r := R.rf hj
  have rr := r
  obtain ⟨a, b, mm, tt, ha, hb, hab, e7, e8, e10, e11, hmm, htt, e12, e13, e9, q12, q14, n0, n1, f0, f1, q17, z14, hnw, hfst⟩ := rr
  rw [m_isOf hj20 e7 e8 e10 e11]
  simp only [nI_clamp (show j < 2 ^ 31 by omega), ix2nz hj20, ix2n1 hj20]
  by_cases h3 : sp_X0_isOf (S 7 j 0) (S 8 j 0) p1 = true
  case neg => simp only [if_pos h1, if_pos h2, if_neg h3]; exact StepW.thr (by decide) R.mono
  unfold sp_X0_isClosed
  by_cases h4 : S 14 j 0 = 0
  case neg => simp only [if_pos h1, if_pos h2, if_pos h3, if_neg h4, if_neg (show ¬ M 17 j = 0 by rw [q17]; exact h4)]; exact StepW.thr (by decide) R.mono
  have h4' : M 17 j = 0 := by rw [q17]; exact h4
  have hx : ∃ x, x < 7 ∧ p1 = nI x ∧ (S 7 j 0 = nI x ∨ S 8 j 0 = nI x) := by
    rcases isOf_iff.mp h3 with h | h
    · exact ⟨a, ha, h.trans e7, Or.inl e7⟩
    · exact ⟨b, hb, h.trans e8, Or.inr e8⟩
  obtain ⟨x, hx7, rfl, hxs⟩ := hx
  have b12 := m_bit hmm ht30
  have b13 := m_bit htt ht30
  rw [← e12] at b12
  rw [← e13] at b13
  have u9 := e9 t ht30
  simp only [if_pos h1, if_pos h2, if_pos h3, if_pos h4, if_pos h4']
  have hun : S 9 j (nI t).toNatClampNeg = S 9 j t := by rw [nI_clamp (by omega)]
  by_cases hno : S 9 j t = 0
  · have hh : sp_X0_hear (S 9 j) (S 10 j) (S 13 j 0) (nI x) (nI t) = (false, S 9 j, S 10 j, S 13 j 0) := by unfold sp_X0_hear; rw [if_pos (hun.trans hno)]
    rw [hh]
    have RR : Rel n d (setD S j (S 7 j 0) (S 8 j 0) (S 9 j) (S 10 j) (S 11 j) (S 12 j 0) (S 13 j 0) (S 14 j 0)) M (c + 1) := by
      refine R.heard hj rfl (fun _ _ _ _ => rfl) (fun _ _ => rfl) (fun _ _ => rfl) (fun _ _ _ _ => rfl) ?_
      refine ⟨a, b, mm, tt, ha, hb, hab, by rw [setD_7]; exact e7, by rw [setD_8]; exact e8, e10, e11, hmm, htt, e12, e13, by rw [setD_9]; exact e9, by rw [setD_12]; exact q12, by rw [setD_13]; exact q14, by rw [setD_10]; exact n0, by rw [setD_10]; exact n1, by rw [setD_11]; exact f0, by rw [setD_11]; exact f1, by rw [setD_14]; exact q17, by rw [setD_14]; exact z14, fun y hy => ?_, by rw [setD_13]; exact hfst⟩
      rw [setD_10, setD_13]
      obtain ⟨v, v1, v2, v3⟩ := hnw y hy
      exact ⟨v, by omega, v2, v3⟩
    by_cases c1 : mm.testBit t = true
    · have c2 : tt.testBit t = true := by
        rw [hno] at u9
        by_cases z : tt.testBit t = true
        · exact z
        · rw [c1, (Bool.not_eq_true _).mp z] at u9; exact absurd u9 (by decide)
      rw [c1, if_pos rfl] at b12
      rw [c2, if_pos rfl] at b13
      simp only [b12, b13, if_pos (show (1 : Int32) = 1 from rfl), if_neg (show ¬ (1 : Int32) = 0 by decide)]
      exact StepW.ret rfl RR
    · rw [if_neg c1] at b12
      simp only [b12, if_neg (show ¬ (0 : Int32) = 1 by decide)]
      exact StepW.ret rfl RR
  · have cc : (mm.testBit t && !tt.testBit t) = true := by
      by_cases z : (mm.testBit t && !tt.testBit t) = true
      · exact z
      · rw [if_neg z] at u9; exact absurd u9 hno
    rw [Bool.and_eq_true, Bool.not_eq_true'] at cc
    rw [cc.1, if_pos rfl] at b12
    rw [cc.2, if_neg (by decide)] at b13
    have hh : sp_X0_hear (S 9 j) (S 10 j) (S 13 j 0) (nI x) (nI t) = (true, upd (S 9 j) t 0, upd (S 10 j) x (S 10 j x + 1), if S 13 j 0 = -1 then nI x else S 13 j 0) := by
      unfold sp_X0_hear
      rw [nI_clamp (show t < 2 ^ 31 by omega), nI_clamp (show x < 2 ^ 31 by omega), if_neg hno]
      by_cases z : S 13 j 0 = -1
      · rw [if_pos z, if_pos z]
      · rw [if_neg z, if_neg z]
    rw [hh]
    simp only [b12, b13, if_pos (show (1 : Int32) = 1 from rfl), if_pos (show (0 : Int32) = 0 from rfl)]
    have fin : ∀ (f1 : Int32) (g : Nat → Int32), f1 = (if S 13 j 0 = -1 then nI x else S 13 j 0) → (∀ i y, i ≠ j → y < 2 → g (2 * i + y) = M 15 (2 * i + y)) → (g (2 * j) = (if nI x = M 10 j then M 15 (2 * j) + 1 else M 15 (2 * j)) ∧ g (2 * j + 1) = if nI x = M 10 j then M 15 (2 * j + 1) else M 15 (2 * j + 1) + 1) → Rel n d (setD S j (S 7 j 0) (S 8 j 0) (upd (S 9 j) t 0) (upd (S 10 j) x (S 10 j x + 1)) (S 11 j) (S 12 j 0) (if S 13 j 0 = -1 then nI x else S 13 j 0) (S 14 j 0)) (um (um (um M 13 (upd (M 13) j (M 13 j ||| ((1 : Int32) <<< (nI t &&& 31))))) 14 (upd (M 14) j f1)) 15 g) (c + 1) := by
      intro f1 g hf hg hg2
      refine R.heard hj rfl (fun a h1 h2 h3 => by rw [um_off h3, um_off h2, um_off h1]) (fun i hi => by rw [um_off (by decide), um_off (by decide), um_at, upd_off hi]) (fun i hi => by rw [um_off (by decide), um_at, upd_off hi]) (fun i y hi hy => by rw [um_at]; exact hg i y hi hy) ?_
      refine m_heard r hc ht30 hxs hx7 setD_7 setD_8 setD_9 setD_10 setD_11 setD_12 setD_13 setD_14 (by rw [um_off (by decide), um_off (by decide), um_off (by decide)]) (by rw [um_off (by decide), um_off (by decide), um_off (by decide)]) (by rw [um_off (by decide), um_off (by decide), um_off (by decide)]) (by rw [um_off (by decide), um_off (by decide), um_at, upd_at]) (by rw [um_off (by decide), um_at, upd_at, setD_13, hf]) (by rw [um_at]; exact hg2) (by rw [um_off (by decide), um_off (by decide), um_off (by decide)]) (by rw [um_off (by decide), um_off (by decide), um_off (by decide)])
    by_cases z : S 13 j 0 = -1
    · have z' : M 14 j = -1 := by rw [q14]; exact z
      simp only [if_pos z']
      by_cases w : nI x = M 10 j
      · simp only [if_pos w]
        refine StepW.ret rfl (fin _ _ (by rw [if_pos z]) (fun i y hi hy => upd_off (by omega)) ⟨by rw [upd_at, if_pos w], by rw [upd_off (by omega), if_pos w]⟩)
      · simp only [if_neg w]
        refine StepW.ret rfl (fin _ _ (by rw [if_pos z]) (fun i y hi hy => upd_off (by omega)) ⟨by rw [upd_off (by omega), if_neg w], by rw [upd_at, if_neg w]⟩)
    · have z' : ¬ M 14 j = -1 := by rw [q14]; exact z
      simp only [if_neg z']
      by_cases w : nI x = M 10 j
      · simp only [if_pos w]
        refine StepW.ret rfl (fin _ _ (by rw [if_neg z, q14]) (fun i y hi hy => upd_off (by omega)) ⟨by rw [upd_at, if_pos w], by rw [upd_off (by omega), if_pos w]⟩)
      · simp only [if_neg w]
        refine StepW.ret rfl (fin _ _ (by rw [if_neg z, q14]) (fun i y hi hy => upd_off (by omega)) ⟨by rw [upd_off (by omega), if_neg w], by rw [upd_at, if_neg w]⟩)
