/-! the steps on files -/
theorem ix2n0 {j : Nat} (hj : j < 20) : (2 * nI j : Int32).toNatClampNeg = 2 * j := by
  rw [show (2 : Int32) = nI 2 from rfl, pk_mul, nI_clamp (by omega)]
theorem ix2n1 {j : Nat} (hj : j < 20) : (2 * nI j + 1 : Int32).toNatClampNeg = 2 * j + 1 := by
  rw [show (2 : Int32) = nI 2 from rfl, pk_mul, nI_1, nI_clamp (by omega)]
theorem ix2nz {j : Nat} (hj : j < 20) : (2 * nI j + 0 : Int32).toNatClampNeg = 2 * j := by
  rw [Int32.add_zero, ix2n0 hj]
theorem isOf_iff {x y p : Int32} : sp_X0_isOf x y p = true ↔ p = x ∨ p = y := by
  unfold sp_X0_isOf
  by_cases h : p = x
  · rw [if_pos h]; exact ⟨fun _ => Or.inl h, fun _ => rfl⟩
  · rw [if_neg h]
    by_cases h2 : p = y
    · rw [if_pos h2]; exact ⟨fun _ => Or.inr h2, fun _ => rfl⟩
    · rw [if_neg h2]; exact ⟨fun q => absurd q (by decide), fun q => q.elim (fun z => absurd z h) (fun z => absurd z h2)⟩
theorem isOf3_iff {M : Nat → Nat → Int32} {f p : Int32} : sp_X3_isOf M f p = true ↔ p = M 10 f.toNatClampNeg ∨ p = M 11 f.toNatClampNeg := by
  unfold sp_X3_isOf
  by_cases h : p = M 10 f.toNatClampNeg
  · rw [if_pos h]; exact ⟨fun _ => Or.inl h, fun _ => rfl⟩
  · rw [if_neg h]
    by_cases h2 : p = M 11 f.toNatClampNeg
    · rw [if_pos h2]; exact ⟨fun _ => Or.inr h2, fun _ => rfl⟩
    · rw [if_neg h2]; exact ⟨fun q => absurd q (by decide), fun q => q.elim (fun z => absurd z h) (fun z => absurd z h2)⟩
theorem mm_or {a b : Nat} {p : Int32} : (p = nI (min a b) ∨ p = nI (max a b)) ↔ (p = nI a ∨ p = nI b) := by
  rcases Nat.le_total a b with h | h
  · rw [Nat.min_eq_left h, Nat.max_eq_right h]
  · rw [Nat.min_eq_right h, Nat.max_eq_left h]; exact Or.comm
theorem m_isOf {S : Nat → Nat → Nat → Int32} {M : Nat → Nat → Int32} {j a b : Nat} (hj : j < 20) (e7 : S 7 j 0 = nI a) (e8 : S 8 j 0 = nI b) (e10 : M 10 j = nI (min a b)) (e11 : M 11 j = nI (max a b)) (p : Int32) : sp_X3_isOf M (nI j) p = sp_X0_isOf (S 7 j 0) (S 8 j 0) p := by
  rw [Bool.eq_iff_iff, isOf3_iff, isOf_iff, nI_clamp (by omega), e7, e8, e10, e11]
  exact mm_or
theorem step_fine {n d c : Nat} {S : Nat → Nat → Nat → Int32} {M : Nat → Nat → Int32} (R : Rel n d S M c) (hc : c < 1000) (p0 p1 : Int32) : StepW (sp_X2_fine d S p0 p1).1 ((sp_X2_fine d S p0 p1).2) ((sp_X3_fine M p0 p1).1) ((sp_X3_fine M p0 p1).2.1) (Rel n d (S) ((sp_X3_fine M p0 p1).2.2) (c + 1)) (Rel n d S ((sp_X3_fine M p0 p1).2.2) (c + 1)) := by
  unfold sp_X2_fine sp_X3_fine
  rw [R.mF]
  by_cases h1 : tIn d p0 = true
  case neg => simp only [if_neg h1]; exact StepW.thr (by decide) R.mono
  have hd := R.2.1
  obtain ⟨j, hj, rfl⟩ := tIn_ex h1 (by omega)
  obtain ⟨a, b, mm, tt, ha, hb, hab, e7, e8, e10, e11, -, -, -, -, -, -, -, -, -, f0, f1, -⟩ := R.rf hj
  rw [m_isOf (by omega) e7 e8 e10 e11, ix2nz (show j < 20 by omega), ix2n1 (show j < 20 by omega)]
  simp only [nI_clamp (show j < 2 ^ 31 by omega)]
  by_cases h2 : sp_X0_isOf (S 7 j 0) (S 8 j 0) p1 = true
  case neg => simp only [if_pos h1, if_neg h2]; exact StepW.thr (by decide) R.mono
  simp only [if_pos h1, if_pos h2]
  have hp : p1 = nI (min a b) ∨ p1 = nI (max a b) := by rw [mm_or, ← e7, ← e8]; exact isOf_iff.mp h2
  have hfo : ∀ x, x < 7 → sp_X0_fineOf (S 11 j) (nI x) = S 11 j x := fun x hx => by unfold sp_X0_fineOf; rw [if_pos (isB_nI hx), nI_clamp (by omega)]
  by_cases h3 : p1 = M 10 j
  · simp only [if_pos h3]
    refine StepW.ret ?_ R.mono
    rw [h3, e10, hfo _ (by omega), f0]
  · simp only [if_neg h3]
    refine StepW.ret ?_ R.mono
    rcases hp with h | h
    · exact absurd (h.trans e10.symm) h3
    · rw [h, hfo _ (by omega), f1]
