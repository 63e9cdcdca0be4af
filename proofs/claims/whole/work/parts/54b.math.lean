/-! signs and suspicion -/
theorem m_near {s w : Int32} (hs : 0 ≤ s.toInt ∧ s.toInt ≤ 100000) (hw : 0 ≤ w.toInt ∧ w.toInt ≤ 100000) : s - w ≤ 0 ↔ s ≤ w := by
  rw [Int32.le_iff_toInt_le, Int32.le_iff_toInt_le, Int32.toInt_sub, Int.bmod_eq_of_le (by omega) (by omega), show (0 : Int32).toInt = 0 from rfl]
  omega
theorem m_loser {S : Nat → Nat → Nat → Int32} {M : Nat → Nat → Int32} {k x w : Nat} (r : RT S M k) (hk : k < 30) (hx : x < 7) (hw : w < 7) (e4 : S 4 k 0 = nI w) (e3 : M 3 k = nI w) :
    ((sp_X3_signOf_j88s0 M (nI k) (nI x) + sp_X3_signOf_j128s0 M (nI k) (nI x)) + sp_X3_signOf_j158s0 M (nI k) (nI x)) = sp_X1_signsOfLoser (S 1 k) (S 2 k) (S 4 k 0) (S 5 k 0) (nI x) := by
  have hb : (if S 1 k x ≤ 0 then (0 : Int32) else 3) = if sp_X1_hasBidOf (S 1 k) (nI x) = true then 3 else 0 := by
    by_cases h : S 1 k x ≤ 0
    · rw [if_pos h, if_neg (fun q => (m_hasBid hx).mp q h)]
    · rw [if_neg h, if_pos ((m_hasBid hx).mpr h)]
  have hg : sp_X1_hasWithdrawn (S 2 k) (nI x) = if S 2 k x = 0 then false else true := by
    unfold sp_X1_hasWithdrawn
    rw [if_pos (isB_nI hx), nI_clamp (by omega)]
  have hne : (if S 1 k x - S 1 k w ≤ 0 then (0 : Int32) else if ((S 1 k w * 5) / 100) < S 1 k x - S 1 k w then 0 else 2) = if sp_X1_isNear (S 1 k) (S 4 k 0) (sp_X1_sumOf (S 1 k) (nI x)) = true then 2 else 0 := by
    unfold sp_X1_isNear
    rw [m_sum hx, e4, m_sum hw]
    have := m_near (r.1 x hx).2.2 (r.1 w hw).2.2
    by_cases h : S 1 k x ≤ S 1 k w
    · rw [if_pos (this.mpr h), if_pos h]; rfl
    · rw [if_neg (fun q => h (this.mp q)), if_neg h]
      by_cases h2 : ((S 1 k w * 5) / 100) < S 1 k x - S 1 k w
      · rw [if_pos h2, if_pos h2]; rfl
      · rw [if_neg h2, if_neg h2]; rfl
  unfold sp_X3_signOf_j88s0 sp_X3_signOf_j128s0 sp_X3_signOf_j158s0 sp_X1_signsOfLoser sp_X1_signsOfLoser_j49l2 sp_X1_signsOfLoser_j30l2 sp_X1_signsOfLoser_j7l2
  rw [m_stand r hk hx, m_price r hk hw e3, ix7n hk hx, nI_clamp (show k < 2 ^ 31 by omega), (r.1 x hx).1, (r.1 x hx).2.1, r.2.2.2.1, hb, hg, hne]
  by_cases c1 : sp_X1_isStanding (S 1 k) (S 2 k) (nI x) = true <;> by_cases c2 : sp_X1_isNear (S 1 k) (S 4 k 0) (sp_X1_sumOf (S 1 k) (nI x)) = true <;> by_cases c3 : S 5 k 0 = nI x <;> by_cases c4 : sp_X1_hasBidOf (S 1 k) (nI x) = true <;> by_cases c5 : S 2 k x = 0 <;> simp [c1, c2, c3, c4, c5] <;> decide
theorem m_turnA {n d c : Nat} {S : Nat → Nat → Nat → Int32} {M : Nat → Nat → Int32} (R : Rel n d S M c) {w x : Nat} (hw : w < 7) (hx : x < 7) : ∀ j, j ≤ n → (sp_X3_isTurn_L6 M (nI w) (nI x) j = -1 ∧ sp_X2_lastWinnerBefore_A n S (nI w) (nI x) j = -1) ∨ ∃ i, i < j ∧ sp_X3_isTurn_L6 M (nI w) (nI x) j = nI i ∧ sp_X2_lastWinnerBefore_A n S (nI w) (nI x) j = M 3 i := by
  have hn := R.1
  intro j
  induction j with
  | zero => intro _; exact Or.inl ⟨rfl, rfl⟩
  | succ j ih =>
    intro hj
    have ih := (ih (by omega)).imp id (fun ⟨i, h1, h2⟩ => (⟨i, by omega, h2⟩ : ∃ i, i < j + 1 ∧ sp_X3_isTurn_L6 M (nI w) (nI x) j = nI i ∧ sp_X2_lastWinnerBefore_A n S (nI w) (nI x) j = M 3 i))
    have r := R.rt (show j < n by omega)
    obtain ⟨a1, a2, a3⟩ := m_aw r
    rw [show sp_X3_isTurn_L6 M (nI w) (nI x) (j + 1) = if ((M 2) ((nI j).toNatClampNeg)) = 1 then (if sp_X3_stands M (nI j) (nI w) = true then (if sp_X3_stands M (nI j) (nI x) = true then (nI j) else (sp_X3_isTurn_L6 M (nI w) (nI x) j)) else (sp_X3_isTurn_L6 M (nI w) (nI x) j)) else (sp_X3_isTurn_L6 M (nI w) (nI x) j) from rfl,
      show sp_X2_lastWinnerBefore_A n S (nI w) (nI x) (j + 1) = if tIn n (nI j) = true then (if sp_X1_isAwarded (S 4 ((nI j).toNatClampNeg) 0) = true then (if sp_X1_isStanding (S 1 ((nI j).toNatClampNeg)) (S 2 ((nI j).toNatClampNeg)) (nI w) = true then (if sp_X1_isStanding (S 1 ((nI j).toNatClampNeg)) (S 2 ((nI j).toNatClampNeg)) (nI x) = true then (sp_X1_winner (S 4 ((nI j).toNatClampNeg) 0)) else (sp_X2_lastWinnerBefore_A n S (nI w) (nI x) j)) else (sp_X2_lastWinnerBefore_A n S (nI w) (nI x) j)) else (sp_X2_lastWinnerBefore_A n S (nI w) (nI x) j)) else (sp_X2_lastWinnerBefore_A n S (nI w) (nI x) j) from rfl,
      nI_clamp (show j < 2 ^ 31 by omega), m_stand r (by omega) hw, m_stand r (by omega) hx, if_pos (show tIn n (nI j) = true by rw [tIn_nI (by omega)]; exact decide_eq_true (by omega))]
    by_cases h4 : S 4 j 0 = -1
    · rw [if_neg (fun q => a1.mp q h4), if_neg (fun q => m_awd.mp q h4)]; exact ih
    · rw [if_pos (a1.mpr h4), if_pos (m_awd.mpr h4)]
      by_cases c1 : sp_X1_isStanding (S 1 j) (S 2 j) (nI w) = true
      · by_cases c2 : sp_X1_isStanding (S 1 j) (S 2 j) (nI x) = true
        · rw [if_pos c1, if_pos c2, if_pos c1, if_pos c2]
          obtain ⟨v, hv, e4, e3⟩ := a3 h4
          exact Or.inr ⟨j, by omega, rfl, by unfold sp_X1_winner; rw [e4, e3]⟩
        · rw [if_pos c1, if_neg c2, if_pos c1, if_neg c2]; exact ih
      · rw [if_neg c1, if_neg c1]; exact ih
theorem m_side {n d c : Nat} {S : Nat → Nat → Nat → Int32} {M : Nat → Nat → Int32} (R : Rel n d S M c) {k x w : Nat} (hk : k < n) (hx : x < 7) (hw : w < 7) (e4 : S 4 k 0 = nI w) (e3 : M 3 k = nI w) :
    (((sp_X3_signOf_j88s0 M (nI k) (nI x) + sp_X3_signOf_j128s0 M (nI k) (nI x)) + sp_X3_signOf_j158s0 M (nI k) (nI x)) + sp_X3_signOf_j173s0 M (nI k) (nI x)) = if sp_X1_isStanding (S 1 k) (S 2 k) (nI x) = true then (if (sp_X2_lastWinnerBefore n S (nI k) (sp_X1_winner (S 4 k 0)) (nI x)) = nI x then ((sp_X1_signsOfLoser (S 1 k) (S 2 k) (S 4 k 0) (S 5 k 0) (nI x)) + 4) else (sp_X1_signsOfLoser (S 1 k) (S 2 k) (S 4 k 0) (S 5 k 0) (nI x))) else (sp_X1_signsOfLoser (S 1 k) (S 2 k) (S 4 k 0) (S 5 k 0) (nI x)) := by
  have hn := R.1
  rw [m_loser (R.rt hk) (by omega) hx hw e4 e3]
  generalize sp_X1_signsOfLoser (S 1 k) (S 2 k) (S 4 k 0) (S 5 k 0) (nI x) = g
  unfold sp_X3_signOf_j173s0 sp_X2_lastWinnerBefore sp_X1_winner sp_X3_isTurn
  rw [nI_clamp (show k < 2 ^ 31 by omega), m_stand (R.rt hk) (by omega) hx, e3, e4]
  by_cases c1 : sp_X1_isStanding (S 1 k) (S 2 k) (nI x) = true
  · rw [if_pos c1, if_pos c1]
    rcases m_turnA R hw hx k (by omega) with ⟨h1, h2⟩ | ⟨i, hi, h1, h2⟩
    · rw [h1, h2, if_pos rfl, if_neg (show ¬ (-1 : Int32) = nI x from fun q => nI_ne1 (by omega) q.symm), if_neg (by decide), Int32.add_zero]
    · rw [h1, h2, if_neg (nI_ne1 (show i < 2 ^ 31 by omega)), nI_clamp (show i < 2 ^ 31 by omega)]
      by_cases c2 : M 3 i = nI x
      · rw [if_pos c2, if_pos c2, if_pos rfl]
      · rw [if_neg c2, if_neg c2, if_neg (by decide), Int32.add_zero]
  · rw [if_neg c1, if_neg c1, Int32.add_zero]
theorem m_sign {n d c : Nat} {S : Nat → Nat → Nat → Int32} {M : Nat → Nat → Int32} (R : Rel n d S M c) {k x y : Nat} (hk : k < n) (hx : x < 7) (hy : y < 7) : sp_X3_signOf M (nI k) (nI x) (nI y) = sp_X2_countOf n S (nI k) (nI x) (nI y) := by
  have hn := R.1
  obtain ⟨a1, a2, a3⟩ := m_aw (R.rt hk)
  unfold sp_X3_signOf sp_X2_countOf
  rw [nI_clamp (show k < 2 ^ 31 by omega), if_pos (show tIn n (nI k) = true by rw [tIn_nI (by omega)]; exact decide_eq_true hk)]
  rw [show sp_X3_signOf_j88s0_1 M (nI k) (nI x) = sp_X3_signOf_j88s0 M (nI k) (nI x) from rfl, show sp_X3_signOf_j128s0_1 M (nI k) (nI x) = sp_X3_signOf_j128s0 M (nI k) (nI x) from rfl, show sp_X3_signOf_j158s0_1 M (nI k) (nI x) = sp_X3_signOf_j158s0 M (nI k) (nI x) from rfl, show sp_X3_signOf_j173s0_1 M (nI k) (nI x) = sp_X3_signOf_j173s0 M (nI k) (nI x) from rfl]
  by_cases h4 : S 4 k 0 = -1
  · have hz : ∀ z, z < 7 → ¬ sp_X1_winner (S 4 k 0) = nI z := fun z hz q => nI_ne1 (by omega) (q.symm.trans h4)
    rw [if_neg (fun q => a1.mp q h4), if_neg (hz x hx), if_neg (hz y hy)]
  · obtain ⟨w, hw, e4, e3⟩ := a3 h4
    rw [if_pos (a1.mpr h4), m_side R hk hy hw e4 e3, m_side R hk hx hw e4 e3, e3, show sp_X1_winner (S 4 k 0) = nI w from e4]
theorem m_susp {n d c : Nat} {S : Nat → Nat → Nat → Int32} {M : Nat → Nat → Int32} (R : Rel n d S M c) {x y : Nat} (hx : x < 7) (hy : y < 7) : sp_X3_suspicionOf M n (nI x) (nI y) = sp_X2_suspicionOf n S (nI x) (nI y) := by
  have hn := R.1
  have key : ∀ k, k ≤ 30 → sp_X2_suspicionOf_L5 n S (nI x) (nI y) k = sp_X3_suspicionOf_L5 M (nI x) (nI y) (min k n) := by
    intro k
    induction k with
    | zero => intro _; rw [Nat.zero_min]; rfl
    | succ k ih =>
      intro hk
      have ih := ih (by omega)
      rw [show sp_X2_suspicionOf_L5 n S (nI x) (nI y) (k + 1) = (sp_X2_suspicionOf_L5 n S (nI x) (nI y) k) + (sp_X2_countOf n S (nI k) (nI x) (nI y)) from rfl]
      by_cases h : k < n
      · rw [show min k n = k by omega] at ih
        rw [show min (k + 1) n = k + 1 by omega, ih, ← m_sign R h hx hy]
        rfl
      · rw [show min k n = n by omega] at ih
        rw [show min (k + 1) n = n by omega, ih]
        unfold sp_X2_countOf
        rw [if_neg (by rw [tIn_nI (by omega)]; simpa using h), Int32.add_zero]
  have := key 30 (Nat.le_refl _)
  rw [show min 30 n = n by omega] at this
  exact this.symm
theorem isPair_ex {p q : Int32} (h : sp_X2_isPair p q = true) : ∃ x y, x < 7 ∧ y < 7 ∧ x ≠ y ∧ p = nI x ∧ q = nI y := by
  unfold sp_X2_isPair at h
  by_cases h1 : sp_X2_isBidder p = true
  · by_cases h2 : sp_X2_isBidder q = true
    · rw [if_pos h1, if_pos h2] at h
      obtain ⟨x, hx, rfl⟩ := isB_ex h1
      obtain ⟨y, hy, rfl⟩ := isB_ex h2
      refine ⟨x, y, hx, hy, fun e => ?_, rfl, rfl⟩
      rw [if_pos (by rw [e])] at h
      exact absurd h (by decide)
    · rw [if_pos h1, if_neg h2] at h; exact absurd h (by decide)
  · rw [if_neg h1] at h; exact absurd h (by decide)
theorem step_suspicion {n d c : Nat} {S : Nat → Nat → Nat → Int32} {M : Nat → Nat → Int32} (R : Rel n d S M c) (hc : c < 1000) (p0 p1 : Int32) : StepW (sp_X2_suspicion n S p0 p1).1 ((sp_X2_suspicion n S p0 p1).2) ((sp_X3_suspicion M n p0 p1).1) ((sp_X3_suspicion M n p0 p1).2.1) (Rel n d (S) ((sp_X3_suspicion M n p0 p1).2.2) (c + 1)) (Rel n d S ((sp_X3_suspicion M n p0 p1).2.2) (c + 1)) := by
  unfold sp_X2_suspicion sp_X3_suspicion
  rw [mPr]
  by_cases h : sp_X2_isPair p0 p1 = true
  · simp only [if_pos h]
    obtain ⟨x, y, hx, hy, -, rfl, rfl⟩ := isPair_ex h
    exact StepW.ret (m_susp R hx hy) R.mono
  · simp only [if_neg h]; exact StepW.thr (by decide) R.mono
theorem step_sign {n d c : Nat} {S : Nat → Nat → Nat → Int32} {M : Nat → Nat → Int32} (R : Rel n d S M c) (hc : c < 1000) (p0 p1 p2 : Int32) : StepW (sp_X2_sign n S p0 p1 p2).1 ((sp_X2_sign n S p0 p1 p2).2) ((sp_X3_sign M p0 p1 p2).1) ((sp_X3_sign M p0 p1 p2).2.1) (Rel n d (S) ((sp_X3_sign M p0 p1 p2).2.2) (c + 1)) (Rel n d S ((sp_X3_sign M p0 p1 p2).2.2) (c + 1)) := by
  unfold sp_X2_sign sp_X3_sign
  rw [R.mT, mPr]
  by_cases h0 : tIn n p0 = true
  case neg => simp only [if_neg h0]; exact StepW.thr (by decide) R.mono
  by_cases h : sp_X2_isPair p1 p2 = true
  case neg => simp only [if_pos h0, if_neg h]; exact StepW.thr (by decide) R.mono
  simp only [if_pos h0, if_pos h]
  obtain ⟨x, y, hx, hy, -, rfl, rfl⟩ := isPair_ex h
  obtain ⟨k, hk, rfl⟩ := tIn_ex h0 (by have := R.1; omega)
  exact StepW.ret (m_sign R hk hx hy) R.mono
theorem wIn_congr {f g : Int32 → Int32 → Int32} {k : Nat} {i : Int32 × Int32} : ∀ j, k + j ≤ 6 → (∀ x y, x < 7 → y < 7 → f (nI x) (nI y) = g (nI x) (nI y)) → wIn f k i j = wIn g k i j := by
  intro j
  induction j with
  | zero => intro _ _; rfl
  | succ j ih =>
    intro hj h
    rw [show wIn f k i (j + 1) = if f (nI k) (nI (k + 1 + j)) ≤ (wIn f k i j).2 then wIn f k i j else ((10 * (nI k)) + (nI (k + 1 + j)), f (nI k) (nI (k + 1 + j))) from rfl, show wIn g k i (j + 1) = if g (nI k) (nI (k + 1 + j)) ≤ (wIn g k i j).2 then wIn g k i j else ((10 * (nI k)) + (nI (k + 1 + j)), g (nI k) (nI (k + 1 + j))) from rfl, ih (by omega) h, h k (k + 1 + j) (by omega) (by omega)]
theorem wOut_congr {f g : Int32 → Int32 → Int32} (h : ∀ x y, x < 7 → y < 7 → f (nI x) (nI y) = g (nI x) (nI y)) : ∀ k, k ≤ 7 → wOut f k = wOut g k := by
  intro k
  induction k with
  | zero => intro _; rfl
  | succ k ih =>
    intro hk
    rw [show wOut f (k + 1) = wIn f k (wOut f k) (6 - k) from rfl, show wOut g (k + 1) = wIn g k (wOut g k) (6 - k) from rfl, ih (by omega), wIn_congr (6 - k) (by omega) h]
theorem step_worst {n d c : Nat} {S : Nat → Nat → Nat → Int32} {M : Nat → Nat → Int32} (R : Rel n d S M c) (hc : c < 1000) : (sp_X3_worst M n).1 = sp_X2_worst n S ∧ Rel n d S ((sp_X3_worst M n).2.2) (c + 1) := by
  refine ⟨?_, R.mono⟩
  unfold sp_X3_worst sp_X2_worst
  have hw : wOut (sp_X3_suspicionOf M n) 7 = wOut (sp_X2_suspicionOf n S) 7 := wOut_congr (fun x y hx hy => m_susp R hx hy) 7 (Nat.le_refl _)
  generalize wOut (sp_X3_suspicionOf M n) 7 = u at hw ⊢
  rw [hw]
