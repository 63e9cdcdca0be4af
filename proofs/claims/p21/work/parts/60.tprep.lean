section TP
variable {n d c : Nat} {S : Nat → Nat → Nat → Int32} {M : Nat → Nat → Int32}
theorem best_in {x : Int32} (h : x = -1 ∨ ∃ i, i < 4 ∧ x = nI i) (h2 : ¬ x < 0) : vp_in x 4 := by
  rcases h with h | ⟨i, hi, h⟩
  · rw [h] at h2; exact absurd (by decide) h2
  · rw [h]; exact vp_in_nI hi (by decide)
/-- a tender that can be passed on has a winner, with a sum -/
theorem pw_ex (R : Rel n d S M c) {k : Nat} (hk : k < n) (h : ¬ sp_L_tenders_j508s0 M k = 0) : ∃ w, w < 4 ∧ S 4 k 0 = nI w ∧ M 1 (4 * k + 1) = nI w ∧ S 5 k 0 = -1 ∧ 1 ≤ (S 1 k w).toInt ∧ (S 1 k w).toInt ≤ 100000 ∧ M 2 (4 * k + w) = S 1 k w := by
  have hn := R.1
  obtain ⟨a1, a2, a3⟩ := m_aw (R.rt hk)
  obtain ⟨q0, -, -, -, -, q5, -, -, -, -, -, q7⟩ := R.rt hk
  unfold sp_L_tenders_j508s0 at h
  rw [cl40 (by omega), cl42 (by omega), q5] at h
  by_cases h1 : M 1 (4 * k) = 1
  · rw [if_pos h1] at h
    obtain ⟨w, hw, e4, e3, e1⟩ := a3 (a1.mp h1)
    refine ⟨w, hw, e4, e3, ?_, e1, (q0 w hw).2.2, (q0 w hw).1⟩
    by_cases h2 : 0 ≤ S 5 k 0
    · rw [if_pos h2] at h; exact absurd rfl h
    · rcases q7 with z | ⟨u, hu, z, -⟩
      · exact z
      · rw [z] at h2; exact absurd (nI_pos' (by omega)) h2
  · rw [if_neg h1] at h; exact absurd rfl h
theorem pw_in (R : Rel n d S M c) {k : Nat} (hk : k < n) (h : ¬ sp_L_tenders_j508s0 M k = 0) : vp_in (M 1 ((4 * nI k + 1).toNatClampNeg)) 4 := by
  have hn := R.1
  obtain ⟨w, hw, -, e, -⟩ := pw_ex R hk h
  rw [cl41 (by omega), e]; exact vp_in_nI hw (by decide)
theorem pw_nn (R : Rel n d S M c) {k : Nat} (hk : k < n) (h : ¬ sp_L_tenders_j508s0 M k = 0) : ¬ M 1 ((4 * nI k + 1).toNatClampNeg) < 0 := by
  have hn := R.1
  obtain ⟨w, hw, -, e, -⟩ := pw_ex R hk h
  rw [cl41 (by omega), e]; exact nI_pos (by omega)
theorem pt_N0 (x : Int32) : ∃ N, 0 < N ∧ N ≤ 10 ∧ (if x = 0 then ((9 : Int32) + 1) else 9) = nI N := by
  by_cases h : x = 0
  · exact ⟨10, by decide, by decide, by rw [if_pos h]; decide⟩
  · exact ⟨9, by decide, by decide, by rw [if_neg h]; rfl⟩
theorem nI_ofPos {x : Int32} (h : 0 ≤ x.toInt) : ∃ j, j < 2 ^ 31 ∧ x = nI j ∧ (j : Int) = x.toInt := by
  obtain ⟨j, hj, e⟩ := nI_of (x := x) (fun q => by
    have h1 := Int32.lt_iff_toInt_lt.mp q
    rw [show (0 : Int32).toInt = 0 from rfl] at h1
    omega)
  exact ⟨j, hj, e, by rw [e, nI_toInt hj]⟩
theorem pt_N1 (R : Rel n d S M c) {k : Nat} (hk : k < n) (h : ¬ sp_L_tenders_j508s0 M k = 0) (x : Int32) : ∃ N, 0 < N ∧ N ≤ 100001 ∧ (if x = 0 then ((M 2 (((4 * (nI k)) + (M 1 (((4 * (nI k)) + 1).toNatClampNeg))).toNatClampNeg)) + 1) else (M 2 (((4 * (nI k)) + (M 1 (((4 * (nI k)) + 1).toNatClampNeg))).toNatClampNeg))) = nI N := by
  have hn := R.1
  obtain ⟨w, hw, -, e, -, e1, e2, e3⟩ := pw_ex R hk h
  rw [cl41 (by omega), e, cl4 (by omega) hw, e3]
  obtain ⟨j, hj, ej, hj2⟩ := nI_ofPos (x := S 1 k w) (by omega)
  rw [ej]
  by_cases hx : x = 0
  · exact ⟨j + 1, by omega, by omega, by rw [if_pos hx, nI_1]⟩
  · exact ⟨j, by omega, by omega, by rw [if_neg hx]⟩
end TP
