/-! the class's state and the reference's, side by side -/
def RT (S : Nat → Nat → Nat → Int32) (M : Nat → Nat → Int32) (k : Nat) : Prop :=
  (∀ b, b < 7 → M 6 (7 * k + b) = S 1 k b ∧ M 7 (7 * k + b) = S 2 k b ∧ 0 ≤ (S 1 k b).toInt ∧ (S 1 k b).toInt ≤ 100000) ∧
  M 2 k = (if S 3 k 0 = 0 then 0 else if S 4 k 0 = -1 then 2 else 1) ∧ (¬ S 3 k 0 = 0 → M 3 k = S 4 k 0) ∧ M 4 k = S 5 k 0 ∧ M 5 k = S 6 k 0 ∧
  (S 3 k 0 = 0 → S 4 k 0 = -1) ∧ (S 4 k 0 = -1 → S 5 k 0 = -1) ∧ (S 5 k 0 = -1 → S 6 k 0 = 0) ∧
  (S 4 k 0 = -1 ∨ ∃ w, w < 7 ∧ S 4 k 0 = nI w) ∧ (S 5 k 0 = -1 ∨ ∃ w, w < 7 ∧ S 5 k 0 = nI w ∧ ¬ S 4 k 0 = nI w)
def RN (M : Nat → Nat → Int32) (k : Nat) : Prop := (∀ b, b < 7 → M 6 (7 * k + b) = 0 ∧ M 7 (7 * k + b) = 0) ∧ M 2 k = 0 ∧ M 5 k = 0
def RF (S : Nat → Nat → Nat → Int32) (M : Nat → Nat → Int32) (c j : Nat) : Prop :=
  ∃ a b mm tt : Nat, a < 7 ∧ b < 7 ∧ a ≠ b ∧ S 7 j 0 = nI a ∧ S 8 j 0 = nI b ∧ M 10 j = nI (min a b) ∧ M 11 j = nI (max a b) ∧
  mm < 2 ^ 30 ∧ tt < 2 ^ 30 ∧ M 12 j = nI mm ∧ M 13 j = nI tt ∧ (∀ t, t < 30 → S 9 j t = if (mm.testBit t && !tt.testBit t) = true then 1 else 0) ∧
  S 12 j 0 = sp_X3_count (M 12 j) ∧ M 14 j = S 13 j 0 ∧ M 15 (2 * j) = S 10 j (min a b) ∧ M 15 (2 * j + 1) = S 10 j (max a b) ∧
  M 16 (2 * j) = S 11 j (min a b) ∧ M 16 (2 * j + 1) = S 11 j (max a b) ∧ M 17 j = S 14 j 0 ∧ (S 14 j 0 = 0 ∨ S 14 j 0 = 1) ∧
  (∀ x, x < 7 → ∃ v, v ≤ c ∧ S 10 j x = nI v ∧ (S 13 j 0 = nI x → v ≠ 0)) ∧ (S 13 j 0 = -1 ∨ ∃ x, x < 7 ∧ S 13 j 0 = nI x)
def RG (M : Nat → Nat → Int32) (j : Nat) : Prop := M 12 j = 0 ∧ M 13 j = 0 ∧ M 15 (2 * j) = 0 ∧ M 15 (2 * j + 1) = 0 ∧ M 16 (2 * j) = 0 ∧ M 16 (2 * j + 1) = 0 ∧ M 17 j = 0
def Rel (n d : Nat) (S : Nat → Nat → Nat → Int32) (M : Nat → Nat → Int32) (c : Nat) : Prop :=
  n ≤ 30 ∧ d ≤ 20 ∧ M 1 0 = nI n ∧ M 9 0 = nI d ∧ M 8 0 = S 16 0 0 ∧ (∀ b, b < 7 → M 18 b = S 15 0 b) ∧
  (∀ k, k < n → RT S M k) ∧ (∀ k, n ≤ k → k < 30 → RN M k) ∧ (∀ j, j < d → RF S M c j) ∧ ∀ j, d ≤ j → j < 20 → RG M j
/-- a step of both: the numbers of what is thrown are alike, and where nothing is, the answers -/
def StepW (cx rx rm tm : Int32) (R1 R0 : Prop) : Prop := tm = cx ∧ (cx = 0 → rm = rx ∧ R1) ∧ (¬ cx = 0 → R0)
theorem isB_nI {a : Nat} (h : a < 7) : sp_X2_isBidder (nI a) = true := isB_iff.mpr (by rw [nI_toInt (by omega)]; omega)
theorem Rel.mok {n d c : Nat} {S : Nat → Nat → Nat → Int32} {M : Nat → Nat → Int32} (R : Rel n d S M c) : MOK M n d := by
  obtain ⟨hn, hd, h1, h2, h3, h4, h5, h6, h7, h8⟩ := R
  refine ⟨h1, hn, h2, hd, fun k hk e => ?_, fun j hj => ?_⟩
  · rcases Nat.lt_or_ge k n with hkn | hkn
    · obtain ⟨-, g2, g3, -, -, -, -, -, g9, -⟩ := h5 k hkn
      rw [g2] at e
      by_cases e0 : S 3 k 0 = 0
      · rw [if_pos e0] at e; exact absurd e (by decide)
      · rw [if_neg e0] at e
        by_cases e1 : S 4 k 0 = -1
        · rw [if_pos e1] at e; exact absurd e (by decide)
        · rcases g9 with q | ⟨w, hw, q⟩
          · exact absurd q e1
          · rw [g3 e0, q]; exact vp_in_nI hw (by decide)
    · have := (h6 k hkn hk).2.1
      rw [this] at e; exact absurd e (by decide)
  · obtain ⟨a, b, mm, tt, ha, hb, -, -, -, e1, e2, -⟩ := h7 j hj
    rw [e1, e2]
    exact ⟨vp_in_nI (by omega) (by decide), vp_in_nI (by omega) (by decide)⟩
theorem Rel.hz {n d c : Nat} {S : Nat → Nat → Nat → Int32} {M : Nat → Nat → Int32} (R : Rel n d S M c) : ∀ j, j < d → narrow .boolean (.int (S 14 j 0)) = .int (S 14 j 0) := fun j hj => by
  obtain ⟨a, b, mm, tt, -, -, -, -, -, -, -, -, -, -, -, -, -, -, -, -, -, -, -, h, -⟩ := R.2.2.2.2.2.2.2.2.1 j hj
  rcases h with h | h <;> rw [h] <;> rfl
theorem Rel.hO {n d c : Nat} {S : Nat → Nat → Nat → Int32} {M : Nat → Nat → Int32} (R : Rel n d S M c) : ∀ j, j < d → sp_X2_isBidder (S 7 j 0) = true ∧ sp_X2_isBidder (S 8 j 0) = true := fun j hj => by
  obtain ⟨a, b, mm, tt, ha, hb, -, e1, e2, -⟩ := R.2.2.2.2.2.2.2.2.1 j hj
  rw [e1, e2]
  exact ⟨isB_nI ha, isB_nI hb⟩
