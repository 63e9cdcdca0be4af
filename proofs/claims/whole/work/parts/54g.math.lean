/-! step_close -/
theorem m_settle2 {S : Nat → Nat → Nat → Int32} {n j a b : Nat} {F P : Nat → Int32} (ha : a < 7) (hb : b < 7) (hab : a ≠ b) (e7 : S 7 j 0 = nI a) (e8 : S 8 j 0 = nI b) (hF : ∀ x, F x = sp_X0_lenientFine (S 10 j) (S 12 j 0) (S 13 j 0) (nI x) (sp_X2_turnoverOf n S (nI x) / 10)) (hP : ∀ x, P x = if S 15 0 x < F x then S 15 0 x else F x) :
    ∃ S3 : Nat → Nat → Nat → Int32, (∀ a b, a ≤ 6 → S3 a b = S a b) ∧ S3 16 0 0 = S 16 0 0 ∧ S3 15 0 = upd (upd (S 15 0) a (S 15 0 a - P a)) b (S 15 0 b - P b) ∧ (∀ a i, 7 ≤ a → a ≤ 14 → i ≠ j → S3 a i = S a i) ∧ S3 7 j 0 = nI a ∧ S3 8 j 0 = nI b ∧ S3 9 j = S 9 j ∧ S3 10 j = S 10 j ∧ S3 11 j = upd (upd (S 11 j) a (F a - P a)) b (F b - P b) ∧ S3 12 j 0 = S 12 j 0 ∧ S3 13 j 0 = S 13 j 0 ∧ S3 14 j 0 = 1 ∧ (sp_X2_settle n (setD S j (S 7 j 0) (S 8 j 0) (S 9 j) (S 10 j) (S 11 j) (S 12 j 0) (S 13 j 0) 1) j (nI a)).2 8 j 0 = nI b ∧
      (sp_X2_settle n (setD S j (S 7 j 0) (S 8 j 0) (S 9 j) (S 10 j) (S 11 j) (S 12 j 0) (S 13 j 0) 1) j (nI a)).1 = F a - P a ∧
      sp_X2_settle n (sp_X2_settle n (setD S j (S 7 j 0) (S 8 j 0) (S 9 j) (S 10 j) (S 11 j) (S 12 j 0) (S 13 j 0) 1) j (nI a)).2 j (nI b) = (F b - P b, S3) := by
  generalize hS1 : setD S j (S 7 j 0) (S 8 j 0) (S 9 j) (S 10 j) (S 11 j) (S 12 j 0) (S 13 j 0) 1 = S1
  have o1 : ∀ a b, a ≤ 6 ∨ 15 ≤ a ∨ b ≠ j → S1 a b = S a b := fun a b h => by rw [← hS1]; exact setD_off a b h
  have t1 : ∀ p, sp_X2_turnoverOf n S1 p = sp_X2_turnoverOf n S p := fun p => m2_turn (fun a b h => o1 a b (Or.inl h))
  have s1 := m_st (S := S1) (n := n) (j := j) (x := a) (F := F a) (P := P a) ha (t1 _) (by rw [hF a, ← hS1, setD_10, setD_12, setD_13]) (by rw [hP a, o1 15 0 (Or.inr (Or.inl (by decide)))])
  rw [s1]
  dsimp only
  generalize hS2 : setD (us S1 15 0 (upd (S1 15 0) a (S1 15 0 a - P a))) j (S1 7 j 0) (S1 8 j 0) (S1 9 j) (S1 10 j) (upd (S1 11 j) a (F a - P a)) (S1 12 j 0) (S1 13 j 0) (S1 14 j 0) = S2
  have o2 : ∀ a b, a ≤ 6 ∨ 16 ≤ a ∨ (a ≠ 15 ∧ b ≠ j) → S2 a b = S1 a b := fun a b h => by rw [← hS2, setD_off a b (by omega), us_off (by omega)]
  have d15 : S2 15 0 = upd (S 15 0) a (S 15 0 a - P a) := by rw [← hS2, setD_off 15 0 (Or.inr (Or.inl (by decide))), us_at, o1 15 0 (Or.inr (Or.inl (by decide)))]
  have t2 : ∀ p, sp_X2_turnoverOf n S2 p = sp_X2_turnoverOf n S1 p := fun p => m2_turn (fun a b h => o2 a b (Or.inl h))
  have s2 := m_st (S := S2) (n := n) (j := j) (x := b) (F := F b) (P := P b) hb ((t2 _).trans (t1 _)) (by rw [hF b, ← hS2, setD_10, setD_12, setD_13, ← hS1, setD_10, setD_12, setD_13]) (by rw [hP b, d15, upd_off (fun q => hab q.symm)])
  rw [s2]
  refine ⟨_, ?_, ?_, ?_, ?_, ?_, ?_, ?_, ?_, ?_, ?_, ?_, ?_, ?_, rfl, rfl⟩
  · intro a b h; rw [setD_off a b (Or.inl h), us_off (by omega), o2 a b (Or.inl h), o1 a b (Or.inl h)]
  · rw [setD_off 16 0 (Or.inr (Or.inl (by decide))), us_off (by decide), o2 16 0 (Or.inr (Or.inl (by decide))), o1 16 0 (Or.inr (Or.inl (by decide)))]
  · rw [setD_off 15 0 (Or.inr (Or.inl (by decide))), us_at, d15, upd_off (fun q => hab q.symm)]
  · intro a i h1 h2 h3; rw [setD_off a i (Or.inr (Or.inr h3)), us_off (by omega), o2 a i (Or.inr (Or.inr ⟨by omega, h3⟩)), o1 a i (Or.inr (Or.inr h3))]
  · rw [setD_7, ← hS2, setD_7, ← hS1, setD_7, e7]
  · rw [setD_8, ← hS2, setD_8, ← hS1, setD_8, e8]
  · rw [setD_9, ← hS2, setD_9, ← hS1, setD_9]
  · rw [setD_10, ← hS2, setD_10, ← hS1, setD_10]
  · rw [setD_11, ← hS2, setD_11, ← hS1, setD_11]
  · rw [setD_12, ← hS2, setD_12, ← hS1, setD_12]
  · rw [setD_13, ← hS2, setD_13, ← hS1, setD_13]
  · rw [setD_14, ← hS2, setD_14, ← hS1, setD_14]
  · rw [← hS2, setD_8, ← hS1, setD_8, e8]
