/-! files, as they are asked -/
section MC
variable {n d c : Nat} {S : Nat → Nat → Nat → Int32} {M : Nat → Nat → Int32}
theorem isOf_l {a b : Int32} : sp_X0_isOf a b a = true := by unfold sp_X0_isOf; rw [if_pos rfl]
theorem isOf_r {a b : Int32} : sp_X0_isOf a b b = true := by
  unfold sp_X0_isOf
  by_cases h : b = a
  · rw [if_pos h]
  · rw [if_neg h, if_pos rfl]
theorem m_fineOf {f : Nat → Int32} {a : Nat} (ha : a < 7) : sp_X0_fineOf f (nI a) = f a := by
  unfold sp_X0_fineOf
  rw [if_pos (isB_nI ha), nI_clamp (by omega)]
theorem Rel.matters (R : Rel n d S M c) {k : Nat} (hk : k < d) : sp_X2_matters S (nI k) = sp_L_bits (M 4 (((8 * nI k) + 2).toNatClampNeg)) := by
  have hd := R.2.1
  obtain ⟨a, b, mm, tt, -, -, -, -, -, -, -, e1, -, -, e2, -⟩ := R.rf hk
  unfold sp_X2_matters sp_X0_matterCount
  rw [nI_clamp (by omega), show (8 * nI k + 2 : Int32).toNatClampNeg = 8 * k + 2 from cl8 (b := 2) (by omega) (by decide), e1, e2]
theorem Rel.first (R : Rel n d S M c) {k : Nat} (hk : k < d) : sp_X2_firstTeller S (nI k) = M 4 (((8 * nI k) + 4).toNatClampNeg) := by
  have hd := R.2.1
  obtain ⟨a, b, mm, tt, -, -, -, -, -, -, -, -, -, -, -, e2, -⟩ := R.rf hk
  unfold sp_X2_firstTeller sp_X0_first
  rw [nI_clamp (by omega), show (8 * nI k + 4 : Int32).toNatClampNeg = 8 * k + 4 from cl8 (b := 4) (by omega) (by decide), e2]
theorem Rel.fine0 (R : Rel n d S M c) {k : Nat} (hk : k < d) : sp_X2_fine S (nI k) (M 4 ((8 * nI k).toNatClampNeg)) = M 5 ((2 * nI k).toNatClampNeg) := by
  have hd := R.2.1
  obtain ⟨a, b, mm, tt, hab, hb4, -, ea, eb, -, -, -, -, -, -, -, -, -, -, -, f1, f2, -⟩ := R.rf hk
  unfold sp_X2_fine
  rw [nI_clamp (by omega), cl80 (by omega), cl20 (by omega), ea, m_fineOf (by omega), f1]
theorem Rel.fine1 (R : Rel n d S M c) {k : Nat} (hk : k < d) : sp_X2_fine S (nI k) (M 4 ((8 * nI k + 1).toNatClampNeg)) = M 5 ((2 * nI k + 1).toNatClampNeg) := by
  have hd := R.2.1
  obtain ⟨a, b, mm, tt, hab, hb4, -, ea, eb, -, -, -, -, -, -, -, -, -, -, -, f1, f2, -⟩ := R.rf hk
  unfold sp_X2_fine
  rw [nI_clamp (by omega), show (8 * nI k + 1 : Int32).toNatClampNeg = 8 * k + 1 from cl8 (b := 1) (by omega) (by decide), show (2 * nI k + 1 : Int32).toNatClampNeg = 2 * k + 1 from cl2 (b := 1) (by omega) (by decide), eb, m_fineOf (by omega), f2]
theorem Rel.of0 (R : Rel n d S M c) {k : Nat} (hk : k < d) : sp_X0_isOf (S 7 (nI k).toNatClampNeg 0) (S 8 (nI k).toNatClampNeg 0) (M 4 ((8 * nI k).toNatClampNeg)) = true := by
  have hd := R.2.1
  obtain ⟨a, b, mm, tt, hab, hb4, h, ea, eb, -⟩ := R.rf hk
  rw [nI_clamp (by omega), cl80 (by omega), ea]
  rcases h with ⟨h1, h2⟩ | ⟨h1, h2⟩
  · rw [h1]; exact isOf_l
  · rw [h2]; exact isOf_r
theorem Rel.of1 (R : Rel n d S M c) {k : Nat} (hk : k < d) : sp_X0_isOf (S 7 (nI k).toNatClampNeg 0) (S 8 (nI k).toNatClampNeg 0) (M 4 ((8 * nI k + 1).toNatClampNeg)) = true := by
  have hd := R.2.1
  obtain ⟨a, b, mm, tt, hab, hb4, h, ea, eb, -⟩ := R.rf hk
  rw [nI_clamp (by omega), show (8 * nI k + 1 : Int32).toNatClampNeg = 8 * k + 1 from cl8 (b := 1) (by omega) (by decide), eb]
  rcases h with ⟨h1, h2⟩ | ⟨h1, h2⟩
  · rw [h2]; exact isOf_r
  · rw [h1]; exact isOf_l
end MC
