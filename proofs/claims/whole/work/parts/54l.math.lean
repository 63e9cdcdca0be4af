/-! a file is opened: is there one of the pair, and its matters -/
theorem nI_le' {a b : Nat} (ha : a < 2 ^ 31) (hb : b < 2 ^ 31) : nI a ≤ nI b ↔ a ≤ b := by
  rw [Int32.le_iff_toInt_le, nI_toInt ha, nI_toInt hb]
  omega
theorem m_lo {x y : Nat} (hx : x < 7) (hy : y < 7) : sp_X3_file_j21s0 (nI x) (nI y) = nI (min x y) := by
  unfold sp_X3_file_j21s0
  by_cases h : y ≤ x
  · rw [if_pos ((nI_le' (by omega) (by omega)).mpr h), Nat.min_eq_right h]
  · rw [if_neg (fun q => h ((nI_le' (by omega) (by omega)).mp q)), Nat.min_eq_left (by omega)]
theorem m_hi {x y : Nat} (hx : x < 7) (hy : y < 7) : sp_X3_file_j32s0 (nI x) (nI y) = nI (max x y) := by
  unfold sp_X3_file_j32s0
  by_cases h : y ≤ x
  · rw [if_pos ((nI_le' (by omega) (by omega)).mpr h), Nat.max_eq_left h]
  · rw [if_neg (fun q => h ((nI_le' (by omega) (by omega)).mp q)), Nat.max_eq_right (by omega)]
theorem m_hasA {d : Nat} {S : Nat → Nat → Nat → Int32} {x y : Int32} (hd : d ≤ 20) : ∀ f k, k + f = 20 → (sp_X2_hasDossier_A d S x y f k = true ↔ ∃ j, k ≤ j ∧ j < d ∧ sp_X0_isOf (S 7 j 0) (S 8 j 0) x = true ∧ sp_X0_isOf (S 7 j 0) (S 8 j 0) y = true) := by
  intro f
  induction f with
  | zero => intro k hk; exact ⟨fun q => absurd (show false = true from q) (by decide), fun ⟨j, h1, h2, _⟩ => by omega⟩
  | succ f ih =>
    intro k hk
    have ih := ih (k + 1) (by omega)
    rw [show sp_X2_hasDossier_A d S x y (f + 1) k = if tIn d (nI k) = true then (if sp_X0_isOf (S 7 ((nI k).toNatClampNeg) 0) (S 8 ((nI k).toNatClampNeg) 0) x = true then (if sp_X0_isOf (S 7 ((nI k).toNatClampNeg) 0) (S 8 ((nI k).toNatClampNeg) 0) y = true then true else (sp_X2_hasDossier_A d S x y f (k + 1))) else (sp_X2_hasDossier_A d S x y f (k + 1))) else (sp_X2_hasDossier_A d S x y f (k + 1)) from rfl, nI_clamp (show k < 2 ^ 31 by omega), tIn_nI (by omega)]
    by_cases c0 : k < d
    · rw [if_pos (decide_eq_true c0)]
      by_cases c1 : sp_X0_isOf (S 7 k 0) (S 8 k 0) x = true
      · by_cases c2 : sp_X0_isOf (S 7 k 0) (S 8 k 0) y = true
        · rw [if_pos c1, if_pos c2]; exact ⟨fun _ => ⟨k, Nat.le_refl k, c0, c1, c2⟩, fun _ => rfl⟩
        · rw [if_pos c1, if_neg c2, ih]
          exact ⟨fun ⟨j, h1, h2⟩ => ⟨j, by omega, h2⟩, fun ⟨j, h1, h2, h3, h4⟩ => ⟨j, by
            have : j ≠ k := fun e => c2 (e ▸ h4)
            omega, h2, h3, h4⟩⟩
      · rw [if_neg c1, ih]
        exact ⟨fun ⟨j, h1, h2⟩ => ⟨j, by omega, h2⟩, fun ⟨j, h1, h2, h3, h4⟩ => ⟨j, by
          have : j ≠ k := fun e => c1 (e ▸ h3)
          omega, h2, h3, h4⟩⟩
    · rw [if_neg (fun q => c0 (of_decide_eq_true q)), ih]
      exact ⟨fun ⟨j, h1, h2⟩ => ⟨j, by omega, h2⟩, fun ⟨j, h1, h2, h3⟩ => ⟨j, by omega, h2, h3⟩⟩
theorem m_L48 {M : Nat → Nat → Int32} {x y : Nat} (hx : x < 7) (hy : y < 7) : ∀ k, k ≤ 20 → (¬ sp_X3_file_L48 M (nI x) (nI y) k = 0 ↔ ∃ j, j < k ∧ M 10 j = nI (min x y) ∧ M 11 j = nI (max x y)) := by
  intro k
  induction k with
  | zero => intro _; exact ⟨fun q => absurd rfl q, fun ⟨j, h1, _⟩ => by omega⟩
  | succ k ih =>
    intro hk
    have ih := ih (by omega)
    rw [show sp_X3_file_L48 M (nI x) (nI y) (k + 1) = if (sp_X3_file_L48 M (nI x) (nI y) k) = 0 then (if ((M 10) ((nI k).toNatClampNeg)) = (sp_X3_file_j21s0 (nI x) (nI y)) then (if ((M 11) ((nI k).toNatClampNeg)) = (sp_X3_file_j32s0 (nI x) (nI y)) then 1 else 0) else 0) else 1 from rfl, nI_clamp (show k < 2 ^ 31 by omega), m_lo hx hy, m_hi hx hy]
    by_cases c0 : sp_X3_file_L48 M (nI x) (nI y) k = 0
    · have no : ∀ j, j < k → M 10 j = nI (min x y) → M 11 j = nI (max x y) → False := fun j h1 h2 h3 => ih.mpr ⟨j, h1, h2, h3⟩ c0
      rw [if_pos c0]
      by_cases c1 : M 10 k = nI (min x y)
      · by_cases c2 : M 11 k = nI (max x y)
        · rw [if_pos c1, if_pos c2]; exact ⟨fun _ => ⟨k, by omega, c1, c2⟩, fun _ => by decide⟩
        · rw [if_pos c1, if_neg c2]
          exact ⟨fun q => absurd rfl q, fun ⟨j, h1, h2, h3⟩ => by
            by_cases e : j = k
            · exact absurd (e ▸ h3) c2
            · exact (no j (by omega) h2 h3).elim⟩
      · rw [if_neg c1]
        exact ⟨fun q => absurd rfl q, fun ⟨j, h1, h2, h3⟩ => by
          by_cases e : j = k
          · exact absurd (e ▸ h2) c1
          · exact (no j (by omega) h2 h3).elim⟩
    · rw [if_neg c0]
      obtain ⟨j, h1, h2⟩ := ih.mp c0
      exact ⟨fun _ => ⟨j, by omega, h2⟩, fun _ => by decide⟩
theorem m_has {n d c : Nat} {S : Nat → Nat → Nat → Int32} {M : Nat → Nat → Int32} (R : Rel n d S M c) {x y : Nat} (hx : x < 7) (hy : y < 7) (hxy : x ≠ y) : sp_X2_hasDossier d S (nI x) (nI y) = true ↔ ¬ sp_X3_file_L48 M (nI x) (nI y) d = 0 := by
  unfold sp_X2_hasDossier
  rw [m_hasA R.2.1 20 0 rfl, m_L48 hx hy d R.2.1]
  have key : ∀ j, j < d → ((sp_X0_isOf (S 7 j 0) (S 8 j 0) (nI x) = true ∧ sp_X0_isOf (S 7 j 0) (S 8 j 0) (nI y) = true) ↔ (M 10 j = nI (min x y) ∧ M 11 j = nI (max x y))) := by
    intro j hj
    obtain ⟨a, b, mm, tt, ha, hb, hab, e7, e8, e10, e11, -⟩ := R.rf hj
    rw [isOf_iff, isOf_iff, e7, e8, e10, e11, nI_inj' (by omega) (by omega), nI_inj' (by omega) (by omega), nI_inj' (by omega) (by omega), nI_inj' (by omega) (by omega), nI_inj' (by omega) (by omega), nI_inj' (by omega) (by omega)]
    omega
  exact ⟨fun ⟨j, _, h2, h3⟩ => ⟨j, h2, (key j h2).mp h3⟩, fun ⟨j, h2, h3⟩ => ⟨j, Nat.zero_le _, h2, (key j h2).mpr h3⟩⟩
theorem m3_sign {M M' : Nat → Nat → Int32} (h : ∀ a, 2 ≤ a → a ≤ 7 → M' a = M a) (p q r : Int32) : sp_X3_signOf M' p q r = sp_X3_signOf M p q r := by
  have hs : ∀ u v, sp_X3_stands M' u v = sp_X3_stands M u v := fun u v => by unfold sp_X3_stands; rw [h 6 (by decide) (by decide), h 7 (by decide) (by decide)]
  have hp : ∀ k, sp_X3_price M' k = sp_X3_price M k := fun k => by unfold sp_X3_price; rw [h 6 (by decide) (by decide), h 3 (by decide) (by decide)]
  have ht : ∀ u v k, sp_X3_isTurn_L6 M' u v k = sp_X3_isTurn_L6 M u v k := fun u v k => by
    induction k with
    | zero => rfl
    | succ k ih =>
      unfold sp_X3_isTurn_L6
      rw [ih, hs, hs, h 2 (by decide) (by decide)]
  have hT : ∀ u v w, sp_X3_isTurn M' u v w = sp_X3_isTurn M u v w := fun u v w => by unfold sp_X3_isTurn; rw [ht, h 3 (by decide) (by decide)]
  unfold sp_X3_signOf sp_X3_signOf_j88s0 sp_X3_signOf_j128s0 sp_X3_signOf_j158s0 sp_X3_signOf_j173s0 sp_X3_signOf_j88s0_1 sp_X3_signOf_j128s0_1 sp_X3_signOf_j158s0_1 sp_X3_signOf_j173s0_1
  simp only [hs, hp, hT, h 2 (by decide) (by decide), h 3 (by decide) (by decide), h 4 (by decide) (by decide), h 6 (by decide) (by decide), h 7 (by decide) (by decide)]
