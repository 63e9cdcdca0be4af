/-! a file is closed -/
theorem us_off {S : Nat → Nat → Nat → Int32} {a b : Nat} {f : Nat → Int32} (h : a ≠ 15) : us S 15 0 f a b = S a b := by unfold us; rw [if_neg (fun q => h q.1)]
theorem us_at {S : Nat → Nat → Nat → Int32} {f : Nat → Int32} : us S 15 0 f 15 0 = f := by unfold us; rw [if_pos ⟨rfl, rfl⟩]
theorem m_ff {M : Nat → Nat → Int32} {n j x v : Nat} {nw : Nat → Int32} {mc fst T F P : Int32} (hj : j < 20) (hx : x < 7) (hv : v < 1001) (h14 : M 14 j = fst) (hcnt : sp_X3_count (M 12 j) = mc) (ht : sp_X3_turnoverOf M n (nI x) = T) (hw : nw x = nI v) (hf : fst = nI x → v ≠ 0) (hF : sp_X0_lenientFine nw mc fst (nI x) (T / 10) = F) (hP : (if M 18 x < F then M 18 x else F) = P) :
    sp_X3_fineFor M n (nI j) (nI x) (nI v) = (F - P, um M 18 (upd (M 18) x (M 18 x - P))) := by
  unfold sp_X3_fineFor sp_X3_fineFor_j71s0
  rw [m_len hj hx hv h14 hcnt ht hw hf, hF, nI_clamp (show x < 2 ^ 31 by omega), m_pay, hP]
theorem m_st {S : Nat → Nat → Nat → Int32} {n j x : Nat} {F P T : Int32} (hx : x < 7) (ht : sp_X2_turnoverOf n S (nI x) = T) (hF : sp_X0_lenientFine (S 10 j) (S 12 j 0) (S 13 j 0) (nI x) (T / 10) = F) (hP : (if S 15 0 x < F then S 15 0 x else F) = P) :
    sp_X2_settle n S j (nI x) = (F - P, setD (us S 15 0 (upd (S 15 0) x (S 15 0 x - P))) j (S 7 j 0) (S 8 j 0) (S 9 j) (S 10 j) (upd (S 11 j) x (F - P)) (S 12 j 0) (S 13 j 0) (S 14 j 0)) := by
  unfold sp_X2_settle
  rw [ht, hF, nI_clamp (show x < 2 ^ 31 by omega), hP]
  rw [us_off (show (7 : Nat) ≠ 15 by decide), us_off (show (8 : Nat) ≠ 15 by decide), us_off (show (9 : Nat) ≠ 15 by decide), us_off (show (10 : Nat) ≠ 15 by decide), us_off (show (11 : Nat) ≠ 15 by decide), us_off (show (12 : Nat) ≠ 15 by decide), us_off (show (13 : Nat) ≠ 15 by decide), us_off (show (14 : Nat) ≠ 15 by decide)]
theorem setD_off {S : Nat → Nat → Nat → Int32} {k : Nat} {one oth mc fst cl : Int32} {un nw fi : Nat → Int32} (a b : Nat) (h : a ≤ 6 ∨ 15 ≤ a ∨ b ≠ k) : setD S k one oth un nw fi mc fst cl a b = S a b := by
  unfold setD
  by_cases e : b = k
  · rw [if_pos e]
    have : a ≤ 6 ∨ 15 ≤ a := by rcases h with h | h | h <;> first | exact Or.inl h | exact Or.inr h | exact absurd e h
    repeat rw [if_neg (by omega)]
  · rw [if_neg e]
section SD
variable {S : Nat → Nat → Nat → Int32} {k x : Nat} {one oth mc fst cl : Int32} {un nw fi : Nat → Int32}
theorem setD_7 : setD S k one oth un nw fi mc fst cl 7 k x = one := by simp [setD]
theorem setD_8 : setD S k one oth un nw fi mc fst cl 8 k x = oth := by simp [setD]
theorem setD_9 : setD S k one oth un nw fi mc fst cl 9 k = un := by simp [setD]
theorem setD_10 : setD S k one oth un nw fi mc fst cl 10 k = nw := by simp [setD]
theorem setD_11 : setD S k one oth un nw fi mc fst cl 11 k = fi := by simp [setD]
theorem setD_12 : setD S k one oth un nw fi mc fst cl 12 k x = mc := by simp [setD]
theorem setD_13 : setD S k one oth un nw fi mc fst cl 13 k x = fst := by simp [setD]
theorem setD_14 : setD S k one oth un nw fi mc fst cl 14 k x = cl := by simp [setD]
end SD
