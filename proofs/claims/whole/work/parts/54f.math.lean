/-! step_close -/
theorem mm_sum {a b : Nat} (G : Nat → Int32) : G (min a b) + G (max a b) = G a + G b := by
  rcases Nat.le_total a b with h | h
  · rw [Nat.min_eq_left h, Nat.max_eq_right h]
  · rw [Nat.min_eq_right h, Nat.max_eq_left h]; exact Int32.add_comm _ _
theorem mm_upd {a b : Nat} (h : a ≠ b) (f g h2 : Nat → Int32) (e : ∀ x, x < 7 → f x = g x) (ha : a < 7) (hb : b < 7) (V : Nat → Int32 → Int32) : ∀ x, x < 7 → upd (upd f (min a b) (V (min a b) (f (min a b)))) (max a b) (V (max a b) (f (max a b))) x = upd (upd g a (V a (g a))) b (V b (g b)) x := by
  intro x hx
  by_cases x1 : x = a
  · subst x1
    rw [upd_off (show x ≠ b from h), upd_at]
    rcases Nat.le_total x b with q | q
    · rw [Nat.min_eq_left q, Nat.max_eq_right q, upd_off h, upd_at, e x hx]
    · rw [Nat.min_eq_right q, Nat.max_eq_left q, upd_at, e x hx]
  · by_cases x2 : x = b
    · subst x2
      rw [upd_at]
      rcases Nat.le_total a x with q | q
      · rw [Nat.min_eq_left q, Nat.max_eq_right q, upd_at, e x hx]
      · rw [Nat.min_eq_right q, Nat.max_eq_left q, upd_off x1, upd_at, e x hx]
    · rw [upd_off x2, upd_off x1]
      have u1 : x ≠ min a b := by omega
      have u2 : x ≠ max a b := by omega
      rw [upd_off u2, upd_off u1, e x hx]
