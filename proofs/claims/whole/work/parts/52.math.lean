/-! the steps that read tenders' money -/
theorem m_price {S : Nat → Nat → Nat → Int32} {M : Nat → Nat → Int32} {k w : Nat} (r : RT S M k) (hk : k < 30) (hw : w < 7) (h : M 3 k = nI w) : sp_X3_price M (nI k) = S 1 k w := by
  unfold sp_X3_price
  rw [nI_clamp (by omega), h, ix7n hk hw, (r.1 w hw).1]
theorem m_income {S : Nat → Nat → Nat → Int32} {M : Nat → Nat → Int32} {k b : Nat} (r : RT S M k) (hk : k < 30) (hb : b < 7) (acc : Int32) :
    (if M 2 k = 1 then (if M 3 k = nI b then (if M 4 k = nI b then ((acc + (sp_X3_price M (nI k) - M 5 k)) + M 5 k) else ((acc + (sp_X3_price M (nI k) - M 5 k)) + 0)) else (if M 4 k = nI b then ((acc + 0) + M 5 k) else ((acc + 0) + 0))) else acc) =
    acc + sp_X1_incomeOf (S 1 k) (S 4 k 0) (S 5 k 0) (S 6 k 0) (nI b) := by
  obtain ⟨a1, a2, a3⟩ := m_aw r
  have r' := r
  obtain ⟨-, -, -, g4, g5, -, q1, -, -, q3⟩ := r'
  unfold sp_X1_incomeOf
  rw [m_sum hb]
  by_cases h : S 4 k 0 = -1
  · rw [if_neg (fun q => a1.mp q h), if_neg (fun q => nI_ne1 (by omega) (q.trans h)), if_neg (fun q => nI_ne1 (by omega) (q.trans (q1 h))), Int32.add_zero]
  · rw [if_pos (a1.mpr h)]
    obtain ⟨w, hw, e4, e3⟩ := a3 h
    rw [g4, g5, m_price r hk hw e3, e3, e4]
    by_cases e : b = w
    · subst e
      rw [if_pos rfl, if_pos rfl]
      have hne : ¬ S 5 k 0 = nI b := fun q => by
        rcases q3 with z | ⟨u, hu, z, z2⟩
        · rw [z] at q; exact nI_ne1 (by omega) q.symm
        · exact z2 (by rw [e4, ← q, z])
      rw [if_neg hne, Int32.add_zero]
    · have e1 : ¬ nI w = nI b := fun q => e ((nI_inj' (by omega) (by omega)).mp q).symm
      rw [if_neg e1, if_neg (show ¬ nI b = nI w from fun q => e1 q.symm)]
      by_cases e5 : S 5 k 0 = nI b
      · rw [if_pos e5, if_pos e5.symm, Int32.add_zero]
      · rw [if_neg e5, if_neg (fun q => e5 q.symm), Int32.add_zero]
theorem m_turnover {n d c : Nat} {S : Nat → Nat → Nat → Int32} {M : Nat → Nat → Int32} (R : Rel n d S M c) {b : Nat} (hb : b < 7) : sp_X3_turnoverOf M n (nI b) = sp_X2_turnoverOf n S (nI b) := by
  have hn := R.1
  have key : ∀ k, k ≤ 30 → sp_X2_turnoverOf_L14 n S (nI b) k = sp_X3_turnoverOf_L4 M (nI b) (min k n) := by
    intro k
    induction k with
    | zero => intro _; rw [Nat.zero_min]; rfl
    | succ k ih =>
      intro hk
      by_cases h : k < n
      · rw [show min (k + 1) n = k + 1 by omega]
        have ih := ih (by omega)
        rw [show min k n = k by omega] at ih
        rw [show sp_X2_turnoverOf_L14 n S (nI b) (k + 1) = if tIn n (nI k) = true then ((sp_X2_turnoverOf_L14 n S (nI b) k) + (sp_X1_incomeOf (S 1 ((nI k).toNatClampNeg)) (S 4 ((nI k).toNatClampNeg) 0) (S 5 ((nI k).toNatClampNeg) 0) (S 6 ((nI k).toNatClampNeg) 0) (nI b))) else (sp_X2_turnoverOf_L14 n S (nI b) k) from rfl, if_pos (by rw [tIn_nI (by omega)]; exact decide_eq_true h), nI_clamp (by omega), ih, ← m_income (R.rt h) (by omega) hb]
        rw [show sp_X3_turnoverOf_L4 M (nI b) (k + 1) = if ((M 2) ((nI k).toNatClampNeg)) = 1 then (if ((M 3) ((nI k).toNatClampNeg)) = (nI b) then (if ((M 4) ((nI k).toNatClampNeg)) = (nI b) then (((sp_X3_turnoverOf_L4 M (nI b) k) + ((sp_X3_price M (nI k)) - ((M 5) ((nI k).toNatClampNeg)))) + ((M 5) ((nI k).toNatClampNeg))) else (((sp_X3_turnoverOf_L4 M (nI b) k) + ((sp_X3_price M (nI k)) - ((M 5) ((nI k).toNatClampNeg)))) + 0)) else (if ((M 4) ((nI k).toNatClampNeg)) = (nI b) then (((sp_X3_turnoverOf_L4 M (nI b) k) + 0) + ((M 5) ((nI k).toNatClampNeg))) else (((sp_X3_turnoverOf_L4 M (nI b) k) + 0) + 0))) else (sp_X3_turnoverOf_L4 M (nI b) k) from rfl, nI_clamp (by omega)]
      · rw [show min (k + 1) n = n by omega]
        have ih := ih (by omega)
        rw [show min k n = n by omega] at ih
        rw [show sp_X2_turnoverOf_L14 n S (nI b) (k + 1) = if tIn n (nI k) = true then ((sp_X2_turnoverOf_L14 n S (nI b) k) + (sp_X1_incomeOf (S 1 ((nI k).toNatClampNeg)) (S 4 ((nI k).toNatClampNeg) 0) (S 5 ((nI k).toNatClampNeg) 0) (S 6 ((nI k).toNatClampNeg) 0) (nI b))) else (sp_X2_turnoverOf_L14 n S (nI b) k) from rfl, if_neg (by rw [tIn_nI (by omega)]; simpa using h), ih]
  have := key 30 (Nat.le_refl _)
  rw [show min 30 n = n by omega] at this
  exact this.symm
theorem m_won {n d c : Nat} {S : Nat → Nat → Nat → Int32} {M : Nat → Nat → Int32} (R : Rel n d S M c) {b : Nat} (hb : b < 7) : sp_X3_won_L22 M (nI b) n = sp_X2_won_L31 n S (nI b) 30 := by
  have hn := R.1
  have key : ∀ k, k ≤ 30 → sp_X2_won_L31 n S (nI b) k = sp_X3_won_L22 M (nI b) (min k n) := by
    intro k
    induction k with
    | zero => intro _; rw [Nat.zero_min]; rfl
    | succ k ih =>
      intro hk
      have ih := ih (by omega)
      rw [show sp_X2_won_L31 n S (nI b) (k + 1) = if tIn n (nI k) = true then (if (sp_X1_winner (S 4 ((nI k).toNatClampNeg) 0)) = nI b then ((sp_X2_won_L31 n S (nI b) k) + 1) else (sp_X2_won_L31 n S (nI b) k)) else (sp_X2_won_L31 n S (nI b) k) from rfl]
      by_cases h : k < n
      · rw [show min (k + 1) n = k + 1 by omega]
        rw [show min k n = k by omega] at ih
        rw [if_pos (by rw [tIn_nI (by omega)]; exact decide_eq_true h), nI_clamp (by omega), ih]
        rw [show sp_X3_won_L22 M (nI b) (k + 1) = if ((M 2) ((nI k).toNatClampNeg)) = 1 then (if ((M 3) ((nI k).toNatClampNeg)) = nI b then ((sp_X3_won_L22 M (nI b) k) + 1) else ((sp_X3_won_L22 M (nI b) k) + 0)) else ((sp_X3_won_L22 M (nI b) k) + 0) from rfl, nI_clamp (by omega)]
        unfold sp_X1_winner
        obtain ⟨a1, a2, a3⟩ := m_aw (R.rt h)
        by_cases h4 : S 4 k 0 = -1
        · rw [if_neg (fun q => a1.mp q h4), h4, if_neg (fun q => nI_ne1 (by omega) q.symm), Int32.add_zero]
        · obtain ⟨w, hw, e4, e3⟩ := a3 h4
          rw [if_pos (a1.mpr h4), e3, e4, Int32.add_zero]
      · rw [show min (k + 1) n = n by omega]
        rw [show min k n = n by omega] at ih
        rw [if_neg (by rw [tIn_nI (by omega)]; simpa using h), ih]
  have := key 30 (Nat.le_refl _)
  rw [show min 30 n = n by omega] at this
  exact this.symm
theorem step_turnover {n d c : Nat} {S : Nat → Nat → Nat → Int32} {M : Nat → Nat → Int32} (R : Rel n d S M c) (hc : c < 1000) (p0 : Int32) : StepW (sp_X2_turnover n S p0).1 ((sp_X2_turnover n S p0).2) ((sp_X3_turnover M n p0).1) ((sp_X3_turnover M n p0).2.1) (Rel n d (S) ((sp_X3_turnover M n p0).2.2) (c + 1)) (Rel n d S ((sp_X3_turnover M n p0).2.2) (c + 1)) := by
  unfold sp_X2_turnover sp_X3_turnover
  rw [mB]
  by_cases h : sp_X2_isBidder p0 = true
  · simp only [if_pos h]
    obtain ⟨b, hb, rfl⟩ := isB_ex h
    exact StepW.ret (m_turnover R hb) R.mono
  · simp only [if_neg h]
    exact StepW.thr (by decide) R.mono
theorem step_won {n d c : Nat} {S : Nat → Nat → Nat → Int32} {M : Nat → Nat → Int32} (R : Rel n d S M c) (hc : c < 1000) (p0 : Int32) : StepW (sp_X2_won n S p0).1 ((sp_X2_won n S p0).2) ((sp_X3_won M n p0).1) ((sp_X3_won M n p0).2.1) (Rel n d (S) ((sp_X3_won M n p0).2.2) (c + 1)) (Rel n d S ((sp_X3_won M n p0).2.2) (c + 1)) := by
  unfold sp_X2_won sp_X3_won
  rw [mB]
  by_cases h : sp_X2_isBidder p0 = true
  · simp only [if_pos h]
    obtain ⟨b, hb, rfl⟩ := isB_ex h
    exact StepW.ret (m_won R hb) R.mono
  · simp only [if_neg h]
    exact StepW.thr (by decide) R.mono
theorem step_matters {n d c : Nat} {S : Nat → Nat → Nat → Int32} {M : Nat → Nat → Int32} (R : Rel n d S M c) (hc : c < 1000) (p0 : Int32) : StepW (sp_X2_matters d S p0).1 ((sp_X2_matters d S p0).2) ((sp_X3_matters M p0).1) ((sp_X3_matters M p0).2.1) (Rel n d (S) ((sp_X3_matters M p0).2.2) (c + 1)) (Rel n d S ((sp_X3_matters M p0).2.2) (c + 1)) := by
  unfold sp_X2_matters sp_X3_matters
  rw [R.mF]
  by_cases h : tIn d p0 = true
  · simp only [if_pos h]
    obtain ⟨k, hk, rfl⟩ := tIn_ex h (by have := R.2.1; omega)
    rw [nI_clamp (by have := R.2.1; omega)]
    obtain ⟨a, b, mm, tt, -, -, -, -, -, -, -, -, -, -, -, -, e, -⟩ := R.rf hk
    exact StepW.ret e.symm R.mono
  · simp only [if_neg h]
    exact StepW.thr (by decide) R.mono
theorem step_firstTeller {n d c : Nat} {S : Nat → Nat → Nat → Int32} {M : Nat → Nat → Int32} (R : Rel n d S M c) (hc : c < 1000) (p0 : Int32) : StepW (sp_X2_firstTeller d S p0).1 ((sp_X2_firstTeller d S p0).2) ((sp_X3_firstTeller M p0).1) ((sp_X3_firstTeller M p0).2.1) (Rel n d (S) ((sp_X3_firstTeller M p0).2.2) (c + 1)) (Rel n d S ((sp_X3_firstTeller M p0).2.2) (c + 1)) := by
  unfold sp_X2_firstTeller sp_X3_firstTeller
  rw [R.mF]
  by_cases h : tIn d p0 = true
  · simp only [if_pos h]
    obtain ⟨k, hk, rfl⟩ := tIn_ex h (by have := R.2.1; omega)
    rw [nI_clamp (by have := R.2.1; omega)]
    obtain ⟨a, b, mm, tt, -, -, -, -, -, -, -, -, -, -, -, -, -, e, -⟩ := R.rf hk
    exact StepW.ret e R.mono
  · simp only [if_neg h]
    exact StepW.thr (by decide) R.mono
