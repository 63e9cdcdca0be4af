theorem step_close {n d c : Nat} {S : Nat → Nat → Nat → Int32} {M : Nat → Nat → Int32} (R : Rel n d S M c) (hc : c < 1000) (p0 : Int32) : StepW (sp_X2_close n d S p0).1 ((sp_X2_close n d S p0).2.1) ((sp_X3_close M n p0).1) ((sp_X3_close M n p0).2.1) (Rel n d ((sp_X2_close n d S p0).2.2) ((sp_X3_close M n p0).2.2) (c + 1)) (Rel n d S ((sp_X3_close M n p0).2.2) (c + 1)) := by
  unfold sp_X2_close sp_X3_close
  rw [R.mF]
  by_cases h1 : tIn d p0 = true
  case neg => simp only [if_neg h1]; exact StepW.thr (by decide) R.mono
  have hd := R.2.1
  obtain ⟨j, hj, rfl⟩ := tIn_ex h1 (by omega)
  have hj20 : j < 20 := by omega
  obtain ⟨a, b, mm, tt, ha, hb, hab, e7, e8, e10, e11, hmm, htt, e12, e13, e9, q12, q14, n0, n1, f0, f1, q17, z14, hnw, hfst⟩ := R.rf hj
  simp only [nI_clamp (show j < 2 ^ 31 by omega), ix2n0 hj20, ix2n1 hj20]
  unfold sp_X0_isClosed
  by_cases h2 : S 14 j 0 = 0
  case neg => simp only [if_pos h1, if_neg h2, if_neg (show ¬ M 17 j = 0 by rw [q17]; exact h2)]; exact StepW.thr (by decide) R.mono
  simp only [if_pos h1, if_pos h2, if_pos (show M 17 j = 0 by rw [q17]; exact h2)]
  have hF : ∃ F : Nat → Int32, ∀ x, F x = sp_X0_lenientFine (S 10 j) (S 12 j 0) (S 13 j 0) (nI x) (sp_X2_turnoverOf n S (nI x) / 10) := ⟨_, fun _ => rfl⟩
  obtain ⟨F, hF⟩ := hF
  have hP : ∃ P : Nat → Int32, ∀ x, P x = if S 15 0 x < F x then S 15 0 x else F x := ⟨_, fun _ => rfl⟩
  obtain ⟨P, hP⟩ := hP
  obtain ⟨S3, w6, w16, w15, wo, w7, w8, w9, w10, w11, w12, w13, w14, r0, r1, r2⟩ := m_settle2 (n := n) ha hb hab e7 e8 hF hP
  have h18 := R.2.2.2.2.2.1
  have hlo : min a b < 7 := by omega
  have hhi : max a b < 7 := by omega
  have hne : max a b ≠ min a b := by omega
  obtain ⟨vl, vl1, vl2, vl3⟩ := hnw _ hlo
  obtain ⟨vh, vh1, vh2, vh3⟩ := hnw _ hhi
  have k1 : sp_X3_fineFor M n (nI j) (M 10 j) (M 15 (2 * j)) = (F (min a b) - P (min a b), um M 18 (upd (M 18) (min a b) (M 18 (min a b) - P (min a b)))) := by
    rw [e10, n0, vl2]
    exact m_ff hj20 hlo (by omega) q14 q12.symm (m_turnover R hlo) vl2 (fun q => vl3 q) (hF _).symm (by rw [hP, h18 _ hlo])
  rw [k1]
  dsimp only
  rw [um_at]
  have k2 : ∀ g : Nat → Int32, sp_X3_fineFor (um (um M 16 g) 18 (upd (M 18) (min a b) (M 18 (min a b) - P (min a b)))) n (nI j) (M 11 j) (M 15 (2 * j + 1)) = (F (max a b) - P (max a b), um (um (um M 16 g) 18 (upd (M 18) (min a b) (M 18 (min a b) - P (min a b)))) 18 (upd (upd (M 18) (min a b) (M 18 (min a b) - P (min a b))) (max a b) (M 18 (max a b) - P (max a b)))) := by
    intro g
    have u : ∀ q, q ≠ 16 → q ≠ 18 → um (um M 16 g) 18 (upd (M 18) (min a b) (M 18 (min a b) - P (min a b))) q = M q := fun q h1 h2 => by rw [um_off h2, um_off h1]
    rw [e11, n1, vh2]
    have k := m_ff (M := um (um M 16 g) 18 (upd (M 18) (min a b) (M 18 (min a b) - P (min a b)))) (n := n) (P := P (max a b)) hj20 hhi (show vh < 1001 by omega) (by rw [u 14 (by decide) (by decide)]; exact q14) (by rw [u 12 (by decide) (by decide)]; exact q12.symm) ((m3_turn (fun a h1 h2 => u a (by omega) (by omega)) n).trans (m_turnover R hhi)) vh2 vh3 (hF _).symm (by rw [um_at, upd_off hne, hP, h18 _ hhi])
    rw [k, um_at, upd_off hne]
  rw [k2]
  dsimp only
  rw [um_at]
  have hone : sp_X0_one (setD S j (S 7 j 0) (S 8 j 0) (S 9 j) (S 10 j) (S 11 j) (S 12 j 0) (S 13 j 0) 1 7 j 0) = nI a := by unfold sp_X0_one; rw [setD_7, e7]
  rw [hone]
  have hoth : sp_X0_other ((sp_X2_settle n (setD S j (S 7 j 0) (S 8 j 0) (S 9 j) (S 10 j) (S 11 j) (S 12 j 0) (S 13 j 0) 1) j (nI a)).2 8 j 0) = nI b := by unfold sp_X0_other; exact r0
  rw [hoth, r2, r1]
  dsimp only
  refine StepW.ret ?_ ?_
  · rw [upd_off (show 2 * j ≠ 2 * j + 1 by omega), upd_at, upd_at]
    exact mm_sum (fun x => F x - P x)
  · refine R.file hj w6 w16 (fun x hx => ?_) wo (fun q hq => ?_) (fun q i h1 h2 h3 h4 h5 => ?_) (fun q i x h1 h2 h3 => ?_) ?_
    · rw [um_at, w15]
      exact mm_upd hab (M 18) (S 15 0) (S 15 0) h18 ha hb (fun x v => v - P x) x hx
    · rw [um_off (by omega), um_off (by omega), um_off (by omega)]
    · rw [um_off (by omega)]
      by_cases e : q = 17
      · subst e; rw [um_at, upd_off h5]
      · rw [um_off e, um_off h4]
    · rw [um_off (by omega), um_off (by omega)]
      by_cases e : q = 16
      · subst e; rw [um_at, upd_off (by omega), upd_off (by omega)]
      · rw [um_off e]
    · have g11 : ∀ x, x = a ∨ x = b → S3 11 j x = F x - P x := fun x hx => by
        rw [w11]
        by_cases e : x = b
        · subst e; rw [upd_at]
        · have e2 : x = a := hx.elim id (fun q => absurd q e)
          subst e2; rw [upd_off e, upd_at]
      refine ⟨a, b, mm, tt, ha, hb, hab, w7, w8, ?_, ?_, hmm, htt, ?_, ?_, fun t ht => by rw [w9]; exact e9 t ht, ?_, ?_, ?_, ?_, ?_, ?_, ?_, Or.inr w14, fun x hx => ?_, by rw [w13]; exact hfst⟩
      · rw [um_off (by decide), um_off (by decide), um_off (by decide)]; exact e10
      · rw [um_off (by decide), um_off (by decide), um_off (by decide)]; exact e11
      · rw [um_off (by decide), um_off (by decide), um_off (by decide)]; exact e12
      · rw [um_off (by decide), um_off (by decide), um_off (by decide)]; exact e13
      · rw [um_off (by decide), um_off (by decide), um_off (by decide), w12]; exact q12
      · rw [um_off (by decide), um_off (by decide), um_off (by decide), w13]; exact q14
      · rw [um_off (by decide), um_off (by decide), um_off (by decide), w10]; exact n0
      · rw [um_off (by decide), um_off (by decide), um_off (by decide), w10]; exact n1
      · rw [um_off (by decide), um_off (by decide), um_at, upd_off (show 2 * j ≠ 2 * j + 1 by omega), upd_at, g11 _ (by omega)]
      · rw [um_off (by decide), um_off (by decide), um_at, upd_at, g11 _ (by omega)]
      · rw [um_off (by decide), um_at, upd_at, w14]
      · obtain ⟨v, v1, v2, v3⟩ := hnw x hx
        exact ⟨v, by omega, by rw [w10]; exact v2, by rw [w13]; exact v3⟩
