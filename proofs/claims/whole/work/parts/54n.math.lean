/-! step_file -/
theorem Rel.opened {n d c : Nat} {S : Nat → Nat → Nat → Int32} {M M' : Nat → Nat → Int32} (R : Rel n d S M c) (hd : d < 20) {one oth : Int32} {un nw fi : Nat → Int32} {mc fst cl : Int32} (hM : ∀ a, a < 9 ∨ a = 13 ∨ 15 ≤ a → M' a = M a) (h9 : M' 9 0 = M 9 0 + 1) (ho : ∀ a i, 10 ≤ a → a ≤ 14 → i ≠ d → M' a i = M a i) (hr : RF (setD S d one oth un nw fi mc fst cl) M' (c + 1) d) : Rel n (d + 1) (setD S d one oth un nw fi mc fst cl) M' (c + 1) := by
  obtain ⟨g1, g2, g3, g4, g5, g6, g7, g8, g9, g10⟩ := R.mono
  refine ⟨g1, by omega, by rw [hM 1 (by omega)]; exact g3, by rw [h9, g4, nI_1], by rw [hM 8 (by omega), setD_off 16 0 (Or.inr (Or.inl (by decide)))]; exact g5, fun b hb => by rw [hM 18 (by omega), setD_off 15 0 (Or.inr (Or.inl (by decide)))]; exact g6 b hb,
    fun k hk => (g7 k hk).congr (fun a ha => setD_off a k (Or.inl ha)) (by rw [hM 2 (by omega)]) (by rw [hM 3 (by omega)]) (by rw [hM 4 (by omega)]) (by rw [hM 5 (by omega)]) (fun b hb => ⟨by rw [hM 6 (by omega)], by rw [hM 7 (by omega)]⟩), fun k hk hk2 => ?_, fun i hi => ?_, fun i hi hi2 => ?_⟩
  · have := g8 k hk hk2
    unfold RN at this ⊢
    rw [hM 2 (by omega), hM 5 (by omega), hM 6 (by omega), hM 7 (by omega)]
    exact this
  · by_cases e : i = d
    · rw [e]; exact hr
    · exact (g9 i (by omega)).congr2 (fun a h1 h2 => setD_off a i (Or.inr (Or.inr e))) (ho 10 i (by decide) (by decide) e) (ho 11 i (by decide) (by decide) e) (ho 12 i (by decide) (by decide) e) (ho 13 i (by decide) (by decide) e) (ho 14 i (by decide) (by decide) e) ⟨by rw [hM 15 (by omega)], by rw [hM 15 (by omega)]⟩ ⟨by rw [hM 16 (by omega)], by rw [hM 16 (by omega)]⟩ (by rw [hM 17 (by omega)])
  · have e : i ≠ d := by omega
    obtain ⟨q1, q2, q3, q4, q5, q6, q7⟩ := g10 i (by omega) hi2
    exact ⟨(ho 12 i (by decide) (by decide) e).trans q1, (ho 13 i (by decide) (by decide) e).trans q2, by rw [hM 15 (by omega)]; exact q3, by rw [hM 15 (by omega)]; exact q4, by rw [hM 16 (by omega)]; exact q5, by rw [hM 16 (by omega)]; exact q6, by rw [hM 17 (by omega)]; exact q7⟩
theorem step_file {n d c : Nat} {S : Nat → Nat → Nat → Int32} {M : Nat → Nat → Int32} (R : Rel n d S M c) (hc : c < 1000) (p0 p1 : Int32) : StepW (sp_X2_file n d S p0 p1).1 ((sp_X2_file n d S p0 p1).2.1) ((sp_X3_file M n d p0 p1).1) ((sp_X3_file M n d p0 p1).2.1) (Rel n (d + 1) ((sp_X2_file n d S p0 p1).2.2) ((sp_X3_file M n d p0 p1).2.2) (c + 1)) (Rel n d S ((sp_X3_file M n d p0 p1).2.2) (c + 1)) := by
  unfold sp_X2_file sp_X3_file
  rw [mPr]
  by_cases h : sp_X2_isPair p0 p1 = true
  case neg => simp only [if_neg h]; exact StepW.thr (by decide) R.mono
  obtain ⟨x, y, hx, hy, hxy, rfl, rfl⟩ := isPair_ex h
  have hdd := R.2.1
  have h9 := R.2.2.2.1
  have h20 : (20 ≤ nI d) ↔ d = 20 := by
    rw [show (20 : Int32) = nI 20 from rfl, nI_le' (by decide) (by omega)]
    omega
  have h20' : (M 9 0 = 20) ↔ d = 20 := by rw [h9, show (20 : Int32) = nI 20 from rfl, nI_inj' (by omega) (by decide)]
  have hh := m_has R hx hy hxy
  by_cases c1 : d = 20
  · simp only [if_pos h, if_pos (h20.mpr c1), if_pos (h20'.mpr c1)]
    by_cases c2 : sp_X3_file_L48 M (nI x) (nI y) d = 0
    · simp only [if_pos c2]; exact StepW.thr (by decide) R.mono
    · simp only [if_neg c2]; exact StepW.thr (by decide) R.mono
  have c20 : ¬ (20 ≤ nI d) := fun q => c1 (h20.mp q)
  have c20' : ¬ (M 9 0 = 20) := fun q => c1 (h20'.mp q)
  by_cases c2 : sp_X3_file_L48 M (nI x) (nI y) d = 0
  case neg => simp only [if_pos h, if_neg c20, if_neg c2, if_pos (hh.mpr c2)]; exact StepW.thr (by decide) R.mono
  have c2' : ¬ sp_X2_hasDossier d S (nI x) (nI y) = true := fun q => hh.mp q c2
  have hsus := m_susp R hx hy
  have hmk := R.2.2.2.2.1
  by_cases c3 : S 16 0 0 ≤ sp_X2_suspicionOf n S (nI x) (nI y)
  case neg => simp only [if_pos h, if_neg c20, if_neg c20', if_pos c2, if_neg c2', if_neg c3, if_neg (show ¬ M 8 0 ≤ sp_X3_suspicionOf M n (nI x) (nI y) by rw [hmk, hsus]; exact c3)]; exact StepW.thr (by decide) R.mono
  have c3' : M 8 0 ≤ sp_X3_suspicionOf M n (nI x) (nI y) := by rw [hmk, hsus]; exact c3
  simp only [if_pos h, if_neg c20, if_neg c20', if_pos c2, if_neg c2', if_pos c3, if_pos c3']
  have hd : d < 20 := by omega
  have hg : (M 9 0).toNatClampNeg = d := by rw [h9, nI_clamp (by omega)]
  rw [hg]
  obtain ⟨mm, m1, m2, m3, m4⟩ := m_G R hd hx hy 30 (Nat.le_refl 30)
  have m30 : mm < 2 ^ 30 := Nat.lt_of_lt_of_le m1 (Nat.pow_le_pow_right (by decide) (Nat.min_le_left 30 n))
  rw [show min 30 n = n by have := R.1; omega] at m2
  obtain ⟨q1, q2, q3, q4, q5, q6, q7⟩ := R.2.2.2.2.2.2.2.2.2 d (Nat.le_refl d) hd
  refine StepW.ret (by rw [Int32.add_sub_cancel, h9]) (R.opened hd (fun a ha => by rw [um_off (by omega), um_off (by omega), um_off (by omega), um_off (by omega), um_off (by omega)]) (by rw [um_off (by decide), um_off (by decide), um_off (by decide), um_off (by decide), um_at]) (fun a i h1 h2 hi => ?_) ?_)
  · by_cases e4 : a = 14
    · subst e4; rw [um_at, upd_off hi]
    · rw [um_off e4]
      by_cases e2 : a = 12
      · subst e2; rw [um_at, upd_off hi]
      · rw [um_off e2]
        by_cases e1 : a = 11
        · subst e1; rw [um_at, upd_off hi]
        · rw [um_off e1]
          by_cases e0 : a = 10
          · subst e0; rw [um_at, upd_off hi]
          · rw [um_off e0, um_off (by omega)]
  · have n1 : ∀ z, z < 7 → ¬ (-1 : Int32) = nI z := fun z hz q => nI_ne1 (by omega) q.symm
    refine ⟨x, y, mm, 0, hx, hy, hxy, setD_7, setD_8, ?_, ?_, m30, by decide, ?_, ?_, fun t ht => ?_, ?_, ?_, ?_, ?_, ?_, ?_, ?_, ?_, fun z hz => ?_, ?_⟩
    · rw [um_off (by decide), um_off (by decide), um_off (by decide), um_at, upd_at, m_lo hx hy]
    · rw [um_off (by decide), um_off (by decide), um_at, upd_at, m_hi hx hy]
    · rw [um_off (by decide), um_at, upd_at, m2]
    · rw [um_off (by decide), um_off (by decide), um_off (by decide), um_off (by decide), um_off (by decide), q2]; rfl
    · rw [setD_9, m3 t, Nat.zero_testBit]; simp
    · rw [setD_12, um_off (by decide), um_at, upd_at, m2]; exact m4
    · rw [um_at, upd_at, setD_13]
    · rw [um_off (by decide), um_off (by decide), um_off (by decide), um_off (by decide), um_off (by decide), q3, setD_10]
    · rw [um_off (by decide), um_off (by decide), um_off (by decide), um_off (by decide), um_off (by decide), q4, setD_10]
    · rw [um_off (by decide), um_off (by decide), um_off (by decide), um_off (by decide), um_off (by decide), q5, setD_11]
    · rw [um_off (by decide), um_off (by decide), um_off (by decide), um_off (by decide), um_off (by decide), q6, setD_11]
    · rw [um_off (by decide), um_off (by decide), um_off (by decide), um_off (by decide), um_off (by decide), q7, setD_14]
    · rw [setD_14]; exact Or.inl rfl
    · rw [setD_10, setD_13]; exact ⟨0, Nat.zero_le _, rfl, fun q => absurd q (n1 z hz)⟩
    · rw [setD_13]; exact Or.inl rfl
