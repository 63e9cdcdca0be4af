/-! a file changes; fines -/
theorem RF.congr2 {S S' : Nat → Nat → Nat → Int32} {M M' : Nat → Nat → Int32} {c j : Nat} (hS : ∀ a, 7 ≤ a → a ≤ 14 → S' a j = S a j) (h10 : M' 10 j = M 10 j) (h11 : M' 11 j = M 11 j) (h12 : M' 12 j = M 12 j) (h13 : M' 13 j = M 13 j) (h14 : M' 14 j = M 14 j) (h15 : M' 15 (2 * j) = M 15 (2 * j) ∧ M' 15 (2 * j + 1) = M 15 (2 * j + 1)) (h16 : M' 16 (2 * j) = M 16 (2 * j) ∧ M' 16 (2 * j + 1) = M 16 (2 * j + 1)) (h17 : M' 17 j = M 17 j) (r : RF S M c j) : RF S' M' c j := by
  unfold RF at r ⊢
  rw [h10, h11, h12, h13, h14, h15.1, h15.2, h16.1, h16.2, h17]
  rw [hS 7 (by decide) (by decide), hS 8 (by decide) (by decide), hS 9 (by decide) (by decide), hS 10 (by decide) (by decide), hS 11 (by decide) (by decide), hS 12 (by decide) (by decide), hS 13 (by decide) (by decide), hS 14 (by decide) (by decide)]
  exact r
theorem Rel.file {n d c : Nat} {S S' : Nat → Nat → Nat → Int32} {M M' : Nat → Nat → Int32} (R : Rel n d S M c) {j : Nat} (hj : j < d) (hS6 : ∀ a b, a ≤ 6 → S' a b = S a b) (h16 : S' 16 0 0 = S 16 0 0) (h15 : ∀ b, b < 7 → M' 18 b = S' 15 0 b) (hSo : ∀ a i, 7 ≤ a → a ≤ 14 → i ≠ j → S' a i = S a i) (hM : ∀ a, a < 10 → M' a = M a)
    (hMo : ∀ a i, 10 ≤ a → a ≤ 17 → a ≠ 15 → a ≠ 16 → i ≠ j → M' a i = M a i) (hM2 : ∀ a i x, a = 15 ∨ a = 16 → i ≠ j → x < 2 → M' a (2 * i + x) = M a (2 * i + x)) (hr : RF S' M' (c + 1) j) : Rel n d S' M' (c + 1) := by
  obtain ⟨g1, g2, g3, g4, g5, g6, g7, g8, g9, g10⟩ := R.mono
  refine ⟨g1, g2, by rw [hM 1 (by decide)]; exact g3, by rw [hM 9 (by decide)]; exact g4, by rw [hM 8 (by decide), h16]; exact g5, h15, fun k hk => (g7 k hk).congr (fun a ha => hS6 a k ha) (by rw [hM 2 (by decide)]) (by rw [hM 3 (by decide)]) (by rw [hM 4 (by decide)]) (by rw [hM 5 (by decide)]) (fun b hb => ⟨by rw [hM 6 (by decide)], by rw [hM 7 (by decide)]⟩), fun k hk hk2 => ?_, fun i hi => ?_, fun i hi hi2 => ?_⟩
  · have := g8 k hk hk2
    unfold RN at this ⊢
    rw [hM 2 (by decide), hM 5 (by decide), hM 6 (by decide), hM 7 (by decide)]
    exact this
  · by_cases e : i = j
    · rw [e]; exact hr
    · exact (g9 i hi).congr2 (fun a h1 h2 => hSo a i h1 h2 e) (hMo 10 i (by decide) (by decide) (by decide) (by decide) e) (hMo 11 i (by decide) (by decide) (by decide) (by decide) e) (hMo 12 i (by decide) (by decide) (by decide) (by decide) e) (hMo 13 i (by decide) (by decide) (by decide) (by decide) e) (hMo 14 i (by decide) (by decide) (by decide) (by decide) e) ⟨hM2 15 i 0 (Or.inl rfl) e (by decide), hM2 15 i 1 (Or.inl rfl) e (by decide)⟩ ⟨hM2 16 i 0 (Or.inr rfl) e (by decide), hM2 16 i 1 (Or.inr rfl) e (by decide)⟩ (hMo 17 i (by decide) (by decide) (by decide) (by decide) e)
  · have e : i ≠ j := by omega
    obtain ⟨q1, q2, q3, q4, q5, q6, q7⟩ := g10 i hi hi2
    exact ⟨(hMo 12 i (by decide) (by decide) (by decide) (by decide) e).trans q1, (hMo 13 i (by decide) (by decide) (by decide) (by decide) e).trans q2, (hM2 15 i 0 (Or.inl rfl) e (by decide)).trans q3, (hM2 15 i 1 (Or.inl rfl) e (by decide)).trans q4, (hM2 16 i 0 (Or.inr rfl) e (by decide)).trans q5, (hM2 16 i 1 (Or.inr rfl) e (by decide)).trans q6, (hMo 17 i (by decide) (by decide) (by decide) (by decide) e).trans q7⟩
theorem m_len {M : Nat → Nat → Int32} {n j x v : Nat} {nw : Nat → Int32} {mc fst T : Int32} (hj : j < 20) (hx : x < 7) (hv : v < 1001) (h14 : M 14 j = fst) (hcnt : sp_X3_count (M 12 j) = mc) (ht : sp_X3_turnoverOf M n (nI x) = T) (hw : nw x = nI v) (hf : fst = nI x → v ≠ 0) : sp_X3_fineFor_j17s0 M n (nI j) (nI x) (nI v) = sp_X0_lenientFine nw mc fst (nI x) (T / 10) := by
  unfold sp_X3_fineFor_j17s0 sp_X0_lenientFine sp_X0_lenientFine_j4s0
  rw [nI_clamp (show j < 2 ^ 31 by omega), nI_clamp (show x < 2 ^ 31 by omega), if_pos (isB_nI hx), h14, hcnt, ht, hw]
  by_cases e : v = 0
  · subst e
    rw [if_neg (fun q => hf q rfl), if_pos (show nI 0 ≤ 0 by decide), if_pos (show nI 0 = 0 from rfl), Int32.sub_zero]
  · have e0 : ¬ nI v = 0 := fun q => e ((nI_inj' (by omega) (show 0 < 2 ^ 31 by decide)).mp q)
    have e1 : ¬ nI v ≤ 0 := fun q => by
      have := Int32.le_iff_toInt_le.mp q
      rw [nI_toInt (by omega), show (0 : Int32).toInt = 0 from rfl] at this
      omega
    rw [if_neg e0, if_neg e1]
    by_cases e2 : fst = nI x
    · rw [if_pos e2, if_pos e2.symm]
    · rw [if_neg e2, if_neg (fun q => e2 q.symm)]
theorem m_pay {F m : Int32} : (if F ≤ m then F else m) = if m < F then m else F := by
  by_cases h : F ≤ m
  · rw [if_pos h, if_neg (fun q => by have := Int32.lt_iff_toInt_lt.mp q; have := Int32.le_iff_toInt_le.mp h; omega)]
  · rw [if_neg h, if_pos (Int32.lt_iff_toInt_lt.mpr (by have : ¬ F.toInt ≤ m.toInt := fun q => h (Int32.le_iff_toInt_le.mpr q); omega))]
theorem m3_turn {M M' : Nat → Nat → Int32} {p : Int32} (h : ∀ a, 2 ≤ a → a ≤ 6 → M' a = M a) (n : Nat) : sp_X3_turnoverOf M' n p = sp_X3_turnoverOf M n p := by
  have hp : ∀ k, sp_X3_price M' k = sp_X3_price M k := fun k => by unfold sp_X3_price; rw [h 6 (by decide) (by decide), h 3 (by decide) (by decide)]
  unfold sp_X3_turnoverOf
  induction n with
  | zero => rfl
  | succ k ih =>
    unfold sp_X3_turnoverOf_L4
    rw [ih, h 2 (by decide) (by decide), h 3 (by decide) (by decide), h 4 (by decide) (by decide), h 5 (by decide) (by decide), hp]
theorem m2_turn {S S' : Nat → Nat → Nat → Int32} {p : Int32} {n : Nat} (h : ∀ a b, a ≤ 6 → S' a b = S a b) : sp_X2_turnoverOf n S' p = sp_X2_turnoverOf n S p := by
  unfold sp_X2_turnoverOf
  generalize 30 = m
  induction m with
  | zero => rfl
  | succ k ih =>
    unfold sp_X2_turnoverOf_L14
    rw [ih, h 1 _ (by decide), h 4 _ (by decide), h 5 _ (by decide), h 6 _ (by decide)]
