/-! step_tell -/
/-- a file's new telling, of x -/
theorem m_heard {S S' : Nat → Nat → Nat → Int32} {M M' : Nat → Nat → Int32} {c j t x : Nat} (r : RF S M c j) (hc : c < 1000) (ht : t < 30) (hx : S 7 j 0 = nI x ∨ S 8 j 0 = nI x) (hx7 : x < 7)
    (s7 : S' 7 j 0 = S 7 j 0) (s8 : S' 8 j 0 = S 8 j 0) (s9 : S' 9 j = upd (S 9 j) t 0) (s10 : S' 10 j = upd (S 10 j) x (S 10 j x + 1)) (s11 : S' 11 j = S 11 j) (s12 : S' 12 j 0 = S 12 j 0) (s13 : S' 13 j 0 = if S 13 j 0 = -1 then nI x else S 13 j 0) (s14 : S' 14 j 0 = S 14 j 0)
    (m10 : M' 10 j = M 10 j) (m11 : M' 11 j = M 11 j) (m12 : M' 12 j = M 12 j) (m13 : M' 13 j = M 13 j ||| ((1 : Int32) <<< (nI t &&& 31))) (m14 : M' 14 j = S' 13 j 0) (m15 : M' 15 (2 * j) = (if nI x = M 10 j then M 15 (2 * j) + 1 else M 15 (2 * j)) ∧ M' 15 (2 * j + 1) = if nI x = M 10 j then M 15 (2 * j + 1) else M 15 (2 * j + 1) + 1) (m16 : M' 16 = M 16) (m17 : M' 17 j = M 17 j) : RF S' M' (c + 1) j := by
  obtain ⟨a, b, mm, tt, ha, hb, hab, e7, e8, e10, e11, hmm, htt, e12, e13, e9, q12, q14, n0, n1, f0, f1, q17, z14, hnw, hfst⟩ := r
  have hxab : x = a ∨ x = b := by
    rcases hx with h | h
    · exact Or.inl ((nI_inj' (by omega) (by omega)).mp (e7.symm.trans h)).symm
    · exact Or.inr ((nI_inj' (by omega) (by omega)).mp (e8.symm.trans h)).symm
  have hlo : nI x = M 10 j ↔ x = min a b := by rw [e10]; exact nI_inj' (by omega) (by omega)
  refine ⟨a, b, mm, tt ||| 2 ^ t, ha, hb, hab, by rw [s7, e7], by rw [s8, e8], by rw [m10, e10], by rw [m11, e11], hmm, m_orlt htt ht, by rw [m12, e12], by rw [m13, e13, m_or ht], fun i hi => ?_, by rw [s12, m12, q12], m14, ?_, ?_, by rw [m16, s11, f0], by rw [m16, s11, f1], by rw [m17, s14, q17], by rw [s14]; exact z14, fun y hy => ?_, ?_⟩
  · rw [s9, m_ortb]
    by_cases e : i = t
    · subst e; rw [upd_at]; simp
    · rw [upd_off e, e9 i hi, decide_eq_false (show ¬ t = i from fun q => e q.symm), Bool.or_false]
  · rw [m15.1, s10, n0]
    by_cases e : x = min a b
    · rw [if_pos (hlo.mpr e), ← e, upd_at]
    · rw [if_neg (fun q => e (hlo.mp q)), upd_off (fun q => e q.symm)]
  · rw [m15.2, s10, n1]
    by_cases e : x = min a b
    · rw [if_pos (hlo.mpr e), upd_off (show max a b ≠ x by omega)]
    · rw [if_neg (fun q => e (hlo.mp q)), show x = max a b by omega, upd_at]
  · obtain ⟨v, v1, v2, v3⟩ := hnw y hy
    rw [s10, s13]
    by_cases e : y = x
    · subst e
      exact ⟨v + 1, by omega, by rw [upd_at, v2, nI_1], fun _ => by omega⟩
    · refine ⟨v, by omega, by rw [upd_off e]; exact v2, fun q => ?_⟩
      by_cases e1 : S 13 j 0 = -1
      · rw [if_pos e1] at q
        exact absurd ((nI_inj' (by omega) (by omega)).mp q).symm e
      · rw [if_neg e1] at q; exact v3 q
  · rw [s13]
    by_cases e1 : S 13 j 0 = -1
    · rw [if_pos e1]; exact Or.inr ⟨x, hx7, rfl⟩
    · rw [if_neg e1]; exact hfst
