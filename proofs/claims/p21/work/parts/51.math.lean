/-! the class and the law agree: tenders -/
section MA
variable {n d c : Nat} {S : Nat → Nat → Nat → Int32} {M : Nat → Nat → Int32}
theorem m_in {k b : Nat} (r : RT S M k) (hk : k < 8) (hb : b < 4) : sp_L_in M (nI k) (nI b) = sp_X1_isStanding (S 1 k) (S 2 k) (nI b) := by
  obtain ⟨gg, hg, e3, e2⟩ := r.2.2.1
  unfold sp_L_in sp_X1_isStanding
  rw [if_pos (isB_nI (by omega)), cl4 hk hb, nI_clamp (show k < 2 ^ 31 by omega), nI_clamp (show b < 2 ^ 31 by omega), (r.1 b hb).1, e3, bit4 hg hb, e2 b hb]
theorem m_sum {b k : Nat} (hb : b < 7) : sp_X1_sumOf (S 1 k) (nI b) = S 1 k b := by
  unfold sp_X1_sumOf
  rw [if_pos (isB_nI hb), nI_clamp (by omega)]
/-- a tender was given away -/
theorem m_aw {k : Nat} (r : RT S M k) : (M 1 (4 * k) = 1 ↔ ¬ S 4 k 0 = -1) ∧ (M 1 (4 * k) = 0 ↔ S 3 k 0 = 0) ∧ (¬ S 4 k 0 = -1 → ∃ w, w < 4 ∧ S 4 k 0 = nI w ∧ M 1 (4 * k + 1) = nI w ∧ 1 ≤ (S 1 k w).toInt) := by
  obtain ⟨-, -, -, h2, h3, -, -, h4, -, -, h6, -⟩ := r
  refine ⟨?_, ?_, fun q => ?_⟩
  · rw [h2]
    by_cases e : S 3 k 0 = 0
    · rw [if_pos e]; exact ⟨fun q => absurd q (by decide), fun q => absurd (h4 e) q⟩
    · rw [if_neg e]
      by_cases e2 : S 4 k 0 = -1
      · rw [if_pos e2]; exact ⟨fun q => absurd q (by decide), fun q => absurd e2 q⟩
      · rw [if_neg e2]; exact ⟨fun _ => e2, fun _ => rfl⟩
  · rw [h2]
    by_cases e : S 3 k 0 = 0
    · rw [if_pos e]; exact ⟨fun _ => e, fun _ => rfl⟩
    · rw [if_neg e]
      refine ⟨fun q => ?_, fun q => absurd q e⟩
      by_cases e2 : S 4 k 0 = -1
      · rw [if_pos e2] at q; exact absurd q (by decide)
      · rw [if_neg e2] at q; exact absurd q (by decide)
  · rcases h6 with h | ⟨w, hw, h, h1⟩
    · exact absurd h q
    · exact ⟨w, hw, h, by rw [h3 (fun z => q (h4 z)), h], h1⟩
theorem m_awd {w : Int32} : sp_X1_isAwarded w = true ↔ ¬ w = -1 := by
  unfold sp_X1_isAwarded
  by_cases h : w = -1
  · rw [if_pos h]; exact ⟨fun q => by simp at q, fun q => absurd h q⟩
  · rw [if_neg h]; exact ⟨fun _ => h, fun _ => rfl⟩
theorem m_income {k b : Nat} (r : RT S M k) (hk : k < 8) (hb : b < 4) (acc : Int32) :
    ((acc + sp_L_turnover_j47s0 M (nI b) k) - sp_L_turnover_j69s0 M (nI b) k) + sp_L_turnover_j96s0 M (nI b) k = acc + sp_X1_incomeOf (S 1 k) (S 4 k 0) (S 5 k 0) (S 6 k 0) (nI b) := by
  obtain ⟨a1, a2, a3⟩ := m_aw r
  have r' := r
  obtain ⟨-, -, -, -, -, g4, g5, -, q1, -, -, q3⟩ := r'
  unfold sp_X1_incomeOf sp_L_turnover_j47s0 sp_L_turnover_j69s0 sp_L_turnover_j96s0 sp_L_turnover_j21s0
  rw [m_sum (by omega), cl40 hk, cl41 hk, cl42 hk, cl43 hk, cl4 hk hb, (r.1 b hb).1, g4, g5]
  by_cases h : S 4 k 0 = -1
  · rw [if_neg (fun q => a1.mp q h), if_neg (fun q => a1.mp q h), if_pos rfl, if_pos rfl, if_neg (show ¬ nI b = S 4 k 0 from fun q => nI_ne1 (by omega) (q.trans h)), if_neg (show ¬ nI b = S 5 k 0 from fun q => nI_ne1 (by omega) (q.trans (q1 h))), Int32.add_zero, Int32.sub_zero, Int32.add_zero]
  · rw [if_pos (a1.mpr h), if_pos (a1.mpr h)]
    obtain ⟨w, hw, e4, e3, -⟩ := a3 h
    rw [e3, e4]
    by_cases e : b = w
    · subst e
      have hne : ¬ S 5 k 0 = nI b := fun q => by
        rcases q3 with z | ⟨u, hu, z, z2⟩
        · rw [z] at q; exact nI_ne1 (by omega) q.symm
        · exact z2 (by rw [e4, ← q, z])
      rw [if_pos rfl, if_neg (by decide), if_neg (by decide), if_neg hne, if_pos rfl, Int32.add_zero, Int32.sub_eq_add_neg, Int32.sub_eq_add_neg, Int32.add_assoc]
    · have e1 : ¬ nI w = nI b := fun q => e ((nI_inj' (by omega) (by omega)).mp q).symm
      rw [if_neg e1, if_pos rfl, if_pos rfl, if_neg (show ¬ nI b = nI w from fun q => e1 q.symm), Int32.add_zero, Int32.sub_zero]
      by_cases e5 : S 5 k 0 = nI b
      · rw [if_pos e5, if_pos e5.symm]
      · rw [if_neg e5, if_neg (fun q => e5 q.symm)]
theorem m_incomeT (n : Nat) (S : Nat → Nat → Nat → Int32) (p0 : Int32) {k : Nat} (hk : k < n) (hn : n < 2 ^ 31) : sp_X2_turnoverOf_L14 n S p0 (k + 1) = sp_X2_turnoverOf_L14 n S p0 k + sp_X1_incomeOf (S 1 k) (S 4 k 0) (S 5 k 0) (S 6 k 0) p0 := by
  rw [show sp_X2_turnoverOf_L14 n S p0 (k + 1) = if tIn n (nI k) = true then ((sp_X2_turnoverOf_L14 n S p0 k) + (sp_X1_incomeOf (S 1 ((nI k).toNatClampNeg)) (S 4 ((nI k).toNatClampNeg) 0) (S 5 ((nI k).toNatClampNeg) 0) (S 6 ((nI k).toNatClampNeg) 0) p0)) else (sp_X2_turnoverOf_L14 n S p0 k) from rfl, if_pos (tIn_of hk hn), nI_clamp (by omega)]
theorem m_incomeF (n : Nat) (S : Nat → Nat → Nat → Int32) (p0 : Int32) {k : Nat} (hk : ¬ k < n) (hk2 : k < 2 ^ 31) : sp_X2_turnoverOf_L14 n S p0 (k + 1) = sp_X2_turnoverOf_L14 n S p0 k := by
  rw [show sp_X2_turnoverOf_L14 n S p0 (k + 1) = if tIn n (nI k) = true then ((sp_X2_turnoverOf_L14 n S p0 k) + (sp_X1_incomeOf (S 1 ((nI k).toNatClampNeg)) (S 4 ((nI k).toNatClampNeg) 0) (S 5 ((nI k).toNatClampNeg) 0) (S 6 ((nI k).toNatClampNeg) 0) p0)) else (sp_X2_turnoverOf_L14 n S p0 k) from rfl, if_neg (tIn_not hk hk2)]
theorem m_turnover (R : Rel n d S M c) {b : Nat} (hb : b < 4) : sp_X2_turnoverOf n S (nI b) = sp_L_turnover M n (nI b) := by
  have hn := R.1
  have key : ∀ k, k ≤ 30 → sp_X2_turnoverOf_L14 n S (nI b) k = sp_L_turnover_L6 M (nI b) (min k n) := by
    intro k
    induction k with
    | zero => intro _; rw [Nat.zero_min]; rfl
    | succ k ih =>
      intro hk
      have ih := ih (by omega)
      by_cases h : k < n
      · rw [show min (k + 1) n = k + 1 by omega]
        rw [show min k n = k by omega] at ih
        rw [m_incomeT n S _ h (by omega), ih, ← m_income (R.rt h) (by omega) hb]
        rfl
      · rw [show min (k + 1) n = n by omega]
        rw [show min k n = n by omega] at ih
        rw [m_incomeF n S _ h (by omega), ih]
  have := key 30 (Nat.le_refl _)
  rw [show min 30 n = n by omega] at this
  exact this
theorem Rel.turn (R : Rel n d S M c) {b : Nat} (hb : b < 4) : sp_X2_turnover n S (nI b) = sp_L_turnover M n (nI b) := m_turnover R hb
theorem Rel.t6 (R : Rel n d S M c) : sp_X2_turnover n S 6 = 0 := by
  have hn := R.1
  have key : ∀ k, k ≤ 30 → sp_X2_turnoverOf_L14 n S 6 k = 0 := by
    intro k
    induction k with
    | zero => intro _; rfl
    | succ k ih =>
      intro hk
      have ih := ih (by omega)
      by_cases h : k < n
      · rw [m_incomeT n S _ h (by omega), ih]
        obtain ⟨-, -, -, -, -, -, -, -, -, -, q2, q3⟩ := R.rt h
        have e1 : ¬ (6 : Int32) = S 4 k 0 := fun q => by
          rcases q2 with z | ⟨u, hu, z, -⟩
          · rw [z] at q; exact absurd q (by decide)
          · rw [z] at q; have := (nI_inj' (a := 6) (b := u) (by decide) (by omega)).mp q; omega
        have e2 : ¬ (6 : Int32) = S 5 k 0 := fun q => by
          rcases q3 with z | ⟨u, hu, z, -⟩
          · rw [z] at q; exact absurd q (by decide)
          · rw [z] at q; have := (nI_inj' (a := 6) (b := u) (by decide) (by omega)).mp q; omega
        unfold sp_X1_incomeOf
        rw [if_neg e1, if_neg e2, Int32.add_zero]
      · rw [m_incomeF n S _ h (by omega), ih]
  exact key 30 (Nat.le_refl _)
theorem m_wonT (n : Nat) (S : Nat → Nat → Nat → Int32) (p0 : Int32) {k : Nat} (hk : k < n) (hn : n < 2 ^ 31) : sp_X2_won_L31 n S p0 (k + 1) = if S 4 k 0 = p0 then sp_X2_won_L31 n S p0 k + 1 else sp_X2_won_L31 n S p0 k := by
  rw [show sp_X2_won_L31 n S p0 (k + 1) = if tIn n (nI k) = true then (if (sp_X1_winner (S 4 ((nI k).toNatClampNeg) 0)) = p0 then ((sp_X2_won_L31 n S p0 k) + 1) else (sp_X2_won_L31 n S p0 k)) else (sp_X2_won_L31 n S p0 k) from rfl, if_pos (tIn_of hk hn), nI_clamp (by omega)]
  rfl
theorem m_wonF (n : Nat) (S : Nat → Nat → Nat → Int32) (p0 : Int32) {k : Nat} (hk : ¬ k < n) (hk2 : k < 2 ^ 31) : sp_X2_won_L31 n S p0 (k + 1) = sp_X2_won_L31 n S p0 k := by
  rw [show sp_X2_won_L31 n S p0 (k + 1) = if tIn n (nI k) = true then (if (sp_X1_winner (S 4 ((nI k).toNatClampNeg) 0)) = p0 then ((sp_X2_won_L31 n S p0 k) + 1) else (sp_X2_won_L31 n S p0 k)) else (sp_X2_won_L31 n S p0 k) from rfl, if_neg (tIn_not hk hk2)]
theorem Rel.won (R : Rel n d S M c) {b : Nat} (hb : b < 4) : sp_X2_won n S (nI b) = sp_L_isSo_L42 M b n := by
  have hn := R.1
  have key : ∀ k, k ≤ 30 → sp_X2_won_L31 n S (nI b) k = sp_L_isSo_L42 M b (min k n) := by
    intro k
    induction k with
    | zero => intro _; rw [Nat.zero_min]; rfl
    | succ k ih =>
      intro hk
      have ih := ih (by omega)
      by_cases h : k < n
      · rw [show min (k + 1) n = k + 1 by omega]
        rw [show min k n = k by omega] at ih
        rw [m_wonT n S _ h (by omega), show sp_L_isSo_L42 M b (k + 1) = sp_L_isSo_L42 M b k + sp_L_isSo_j59s0 M b k from rfl, ih]
        unfold sp_L_isSo_j59s0
        rw [cl40 (by omega), cl41 (by omega)]
        obtain ⟨a1, a2, a3⟩ := m_aw (R.rt h)
        by_cases h4 : S 4 k 0 = -1
        · rw [if_neg (fun q => a1.mp q h4), h4, if_neg (fun q => nI_ne1 (by omega) q.symm), Int32.add_zero]
        · obtain ⟨w, hw, e4, e3, -⟩ := a3 h4
          rw [if_pos (a1.mpr h4), e3, e4]
          by_cases e : nI w = nI b
          · rw [if_pos e, if_pos e]
          · rw [if_neg e, if_neg e, Int32.add_zero]
      · rw [show min (k + 1) n = n by omega]
        rw [show min k n = n by omega] at ih
        rw [m_wonF n S _ h (by omega), ih]
  have := key 30 (Nat.le_refl _)
  rw [show min 30 n = n by omega] at this
  exact this
theorem Rel.w5 (R : Rel n d S M c) : sp_X2_won n S 5 = 0 := by
  have hn := R.1
  have key : ∀ k, k ≤ 30 → sp_X2_won_L31 n S 5 k = 0 := by
    intro k
    induction k with
    | zero => intro _; rfl
    | succ k ih =>
      intro hk
      have ih := ih (by omega)
      by_cases h : k < n
      · obtain ⟨-, -, -, -, -, -, -, -, -, -, q2, q3⟩ := R.rt h
        have e1 : ¬ S 4 k 0 = (5 : Int32) := fun q => by
          rcases q2 with z | ⟨u, hu, z, -⟩
          · rw [z] at q; exact absurd q (by decide)
          · rw [z] at q; have := (nI_inj' (a := u) (b := 5) (by omega) (by decide)).mp q; omega
        rw [m_wonT n S _ h (by omega), if_neg e1, ih]
      · rw [m_wonF n S _ h (by omega), ih]
  exact key 30 (Nat.le_refl _)
end MA
