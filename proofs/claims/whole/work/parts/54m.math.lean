/-! a file is opened: its matters are counted -/
theorem m_cnt {a b : Nat} (ha : a < 2 ^ 30) (hb : b < 2 ^ 30) : ∀ k, k ≤ 30 → (∀ t, t < k → a.testBit t = b.testBit t) → sp_X3_count_L4 (nI a) k = sp_X3_count_L4 (nI b) k := by
  intro k
  induction k with
  | zero => intro _ _; rfl
  | succ k ih =>
    intro hk h
    rw [show sp_X3_count_L4 (nI a) (k + 1) = (sp_X3_count_L4 (nI a) k) + ((nI a >>> ((nI k) &&& 31)) &&& 1) from rfl, show sp_X3_count_L4 (nI b) (k + 1) = (sp_X3_count_L4 (nI b) k) + ((nI b >>> ((nI k) &&& 31)) &&& 1) from rfl, ih (by omega) (fun t ht => h t (by omega)), m_bit ha (by omega), m_bit hb (by omega), h k (by omega)]
theorem m_cnt0 {a k : Nat} (ha : a < 2 ^ 30) (hk : k < 30) (h : a < 2 ^ k) : sp_X3_count_L4 (nI a) (k + 1) = sp_X3_count_L4 (nI a) k := by
  rw [show sp_X3_count_L4 (nI a) (k + 1) = (sp_X3_count_L4 (nI a) k) + ((nI a >>> ((nI k) &&& 31)) &&& 1) from rfl, m_bit ha hk, Nat.testBit_lt_two_pow h, if_neg (by decide), Int32.add_zero]
theorem m_G {n d c : Nat} {S : Nat → Nat → Nat → Int32} {M : Nat → Nat → Int32} (R : Rel n d S M c) (hd : d < 20) {x y : Nat} (hx : x < 7) (hy : y < 7) : ∀ k, k ≤ 30 → ∃ mm, mm < 2 ^ (min k n) ∧ sp_X3_file_G M n (nI x) (nI y) (min k n) = nI mm ∧ (∀ t, sp_X2_file_U n S (nI x) (nI y) k t = if mm.testBit t = true then 1 else 0) ∧ sp_X2_file_C n S (nI x) (nI y) k = sp_X3_count_L4 (nI mm) k := by
  have hn := R.1
  have h9 := R.2.2.2.1
  have hg : (M 9 0).toNatClampNeg = d := by rw [h9, nI_clamp (by omega)]
  intro k
  induction k with
  | zero =>
    intro _
    refine ⟨0, by rw [Nat.zero_min]; decide, ?_, fun t => ?_, rfl⟩
    · rw [Nat.zero_min]
      show M 12 ((M 9 0).toNatClampNeg) = nI 0
      rw [hg, (R.2.2.2.2.2.2.2.2.2 d (Nat.le_refl d) hd).1]
      rfl
    · rw [Nat.zero_testBit, if_neg (by decide)]; rfl
  | succ k ih =>
    intro hk
    obtain ⟨mm, m1, m2, m3, m4⟩ := ih (by omega)
    have hU : sp_X2_file_U n S (nI x) (nI y) (k + 1) = if (sp_X2_countOf n S (nI k) (nI x) (nI y)) ≤ 0 then sp_X2_file_U n S (nI x) (nI y) k else upd (sp_X2_file_U n S (nI x) (nI y) k) (nI k).toNatClampNeg 1 := rfl
    have hC : sp_X2_file_C n S (nI x) (nI y) (k + 1) = if (sp_X2_countOf n S (nI k) (nI x) (nI y)) ≤ 0 then sp_X2_file_C n S (nI x) (nI y) k else (sp_X2_file_C n S (nI x) (nI y) k) + 1 := rfl
    have mk : mm < 2 ^ k := Nat.lt_of_lt_of_le m1 (Nat.pow_le_pow_right (by decide) (Nat.min_le_left k n))
    have m30 : mm < 2 ^ 30 := Nat.lt_of_lt_of_le mk (Nat.pow_le_pow_right (by decide) (by omega))
    rw [nI_clamp (show k < 2 ^ 31 by omega)] at hU
    rw [hU, hC]
    by_cases hkn : k < n
    · rw [show min k n = k by omega] at m1 m2
      have hs : ∀ u v w z, sp_X3_signOf (um (um (um (um M 10 u) 11 v) 12 w) 14 z) (nI k) (nI x) (nI y) = sp_X2_countOf n S (nI k) (nI x) (nI y) := fun u v w z => by
        rw [← m_sign R hkn hx hy]
        exact m3_sign (fun a h1 h2 => by rw [um_off (by omega), um_off (by omega), um_off (by omega), um_off (by omega)]) _ _ _
      have hG : sp_X3_file_G M n (nI x) (nI y) (k + 1) = if (sp_X2_countOf n S (nI k) (nI x) (nI y)) ≤ 0 then nI mm ||| 0 else nI mm ||| ((1 : Int32) <<< ((nI k) &&& 31)) := by
        rw [show sp_X3_file_G M n (nI x) (nI y) (k + 1) = if (sp_X3_signOf (um (um (um (um M 10 (upd (M 10) ((M 9 0).toNatClampNeg) (sp_X3_file_j21s0 (nI x) (nI y)))) 11 (upd (M 11) ((M 9 0).toNatClampNeg) (sp_X3_file_j32s0 (nI x) (nI y)))) 12 (upd (M 12) ((M 9 0).toNatClampNeg) (sp_X3_file_G M n (nI x) (nI y) k))) 14 (upd (M 14) ((M 9 0).toNatClampNeg) (-1))) (nI k) (nI x) (nI y)) ≤ 0 then (((upd (M 12) ((M 9 0).toNatClampNeg) (sp_X3_file_G M n (nI x) (nI y) k)) ((M 9 0).toNatClampNeg)) ||| 0) else (((upd (M 12) ((M 9 0).toNatClampNeg) (sp_X3_file_G M n (nI x) (nI y) k)) ((M 9 0).toNatClampNeg)) ||| (1 <<< ((nI k) &&& 31))) from rfl, hs, upd_at, m2]
      rw [show min (k + 1) n = k + 1 by omega, hG]
      by_cases c0 : sp_X2_countOf n S (nI k) (nI x) (nI y) ≤ 0
      · rw [if_pos c0, if_pos c0, if_pos c0]
        exact ⟨mm, Nat.lt_of_lt_of_le mk (Nat.pow_le_pow_right (by decide) (by omega)), Int32.or_zero, m3, by rw [m4, m_cnt0 m30 (by omega) mk]⟩
      · rw [if_neg c0, if_neg c0, if_neg c0]
        have o30 := m_orlt m30 (show k < 30 by omega)
        refine ⟨mm ||| 2 ^ k, Nat.or_lt_two_pow (Nat.lt_of_lt_of_le mk (Nat.pow_le_pow_right (by decide) (by omega))) (Nat.pow_lt_pow_right (by decide) (by omega)), m_or (by omega), fun t => ?_, ?_⟩
        · rw [m_ortb]
          by_cases e : t = k
          · subst e; rw [upd_at]; simp
          · rw [upd_off e, m3 t, decide_eq_false (show ¬ k = t from fun q => e q.symm), Bool.or_false]
        · rw [show sp_X3_count_L4 (nI (mm ||| 2 ^ k)) (k + 1) = (sp_X3_count_L4 (nI (mm ||| 2 ^ k)) k) + ((nI (mm ||| 2 ^ k) >>> ((nI k) &&& 31)) &&& 1) from rfl, m_bit o30 (by omega), m_ortb, decide_eq_true rfl, Bool.or_true, if_pos rfl, m4,
            m_cnt o30 m30 k (by omega) (fun t ht => by rw [m_ortb, decide_eq_false (show ¬ k = t by omega), Bool.or_false])]
    · rw [show min k n = n by omega] at m1 m2
      have h0 : sp_X2_countOf n S (nI k) (nI x) (nI y) = 0 := by
        unfold sp_X2_countOf
        rw [if_neg (by rw [tIn_nI (by omega)]; simpa using hkn)]
      rw [h0, if_pos (by decide), if_pos (by decide), show min (k + 1) n = n by omega]
      exact ⟨mm, m1, m2, m3, by rw [m4, m_cnt0 m30 (by omega) mk]⟩
