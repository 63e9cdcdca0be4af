/-! bits of the matters and of what was told -/
theorem s31 (t : Nat) (ht : t < 32) : ((nI t &&& 31).toBitVec.smod 32).toNat = t := by
  have h : ∀ u : Fin 32, ((nI u.val &&& 31).toBitVec.smod 32).toNat = u.val := by decide +kernel
  exact h ⟨t, ht⟩
theorem fa_or (a b : Nat) : nI a ||| nI b = nI (a ||| b) := by
  apply Int32.toBitVec_inj.1
  show BitVec.ofNat 32 a ||| BitVec.ofNat 32 b = BitVec.ofNat 32 (a ||| b)
  apply BitVec.eq_of_getLsbD_eq
  intro i hi
  simp [hi]
/-- a remainder by a power of two, as a mask -/
theorem m_bit {a t : Nat} (ha : a < 2 ^ 30) (ht : t < 30) : ((nI a >>> (nI t &&& 31)) &&& 1) = if a.testBit t = true then 1 else 0 := by
  have hlt : a / 2 ^ t < 2 ^ 32 := by
    have := Nat.div_le_self a (2 ^ t)
    omega
  rw [pk_shrN (by omega) _ t (s31 t (by omega)), pk_andN hlt 1 (by decide), Nat.testBit_eq_decide_div_mod_eq]
  rcases Nat.mod_two_eq_zero_or_one (a / 2 ^ t) with h | h
  · rw [Nat.pow_one, h]; rfl
  · rw [Nat.pow_one, h]; rfl
theorem m_one {t : Nat} (ht : t < 30) : ((1 : Int32) <<< (nI t &&& 31)) = nI (2 ^ t) := by
  have h2 : 2 ^ t ≤ 2 ^ 30 := Nat.pow_le_pow_right (by decide) (by omega)
  have := pk_shlN (n := 1) (nI t &&& 31) t (s31 t (by omega)) (by omega)
  rw [Nat.one_mul] at this
  exact this
theorem m_or {a t : Nat} (ht : t < 30) : nI a ||| ((1 : Int32) <<< (nI t &&& 31)) = nI (a ||| 2 ^ t) := by rw [m_one ht, fa_or]
theorem m_orlt {a t : Nat} (ha : a < 2 ^ 30) (ht : t < 30) : a ||| 2 ^ t < 2 ^ 30 := Nat.or_lt_two_pow ha (Nat.pow_lt_pow_right (by decide) ht)
theorem m_ortb {a t i : Nat} : (a ||| 2 ^ t).testBit i = (a.testBit i || decide (t = i)) := by rw [Nat.testBit_or, Nat.testBit_two_pow]
