/-! signs and suspicion -/
section MB
variable {n d c : Nat} {S : Nat → Nat → Nat → Int32} {M : Nat → Nat → Int32}
theorem m_hasBid {k x : Nat} (hx : x < 7) : sp_X1_hasBidOf (S 1 k) (nI x) = true ↔ ¬ S 1 k x ≤ 0 := by
  unfold sp_X1_hasBidOf
  rw [if_pos (isB_nI hx), nI_clamp (by omega)]
  by_cases h : S 1 k x ≤ 0
  · rw [if_pos h]; exact ⟨fun q => by simp at q, fun q => absurd h q⟩
  · rw [if_neg h]; exact ⟨fun _ => h, fun _ => rfl⟩
theorem t_bmod (x : Int) (h1 : -2147483648 ≤ x) (h2 : x ≤ 2147483647) : x.bmod (2 ^ 32) = x := Int.bmod_eq_of_le (by omega) (by omega)
/-- five hundredths, either way -/
theorem m_near5 {s w : Int32} (hs : 0 ≤ s.toInt ∧ s.toInt ≤ 100000) (hw : 0 ≤ w.toInt ∧ w.toInt ≤ 100000) : (5 * w < 100 * (s - w)) ↔ ((w * 5) / 100 < s - w) := by
  have e5 : (5 : Int32).toInt = 5 := rfl
  have e100 : (100 : Int32).toInt = 100 := rfl
  have es : (s - w).toInt = s.toInt - w.toInt := by rw [Int32.toInt_sub]; exact t_bmod _ (by omega) (by omega)
  have e1 : (5 * w).toInt = 5 * w.toInt := by rw [Int32.toInt_mul, e5]; exact t_bmod _ (by omega) (by omega)
  have e1' : (w * 5).toInt = w.toInt * 5 := by rw [Int32.toInt_mul, e5]; exact t_bmod _ (by omega) (by omega)
  have e2 : (100 * (s - w)).toInt = 100 * (s.toInt - w.toInt) := by rw [Int32.toInt_mul, e100, es]; exact t_bmod _ (by omega) (by omega)
  have e3 : ((w * 5) / 100).toInt = (w.toInt * 5) / 100 := by
    rw [Int32.toInt_div, e1', e100, Int.tdiv_eq_ediv_of_nonneg (by omega)]; exact t_bmod _ (by omega) (by omega)
  rw [Int32.lt_iff_toInt_lt, Int32.lt_iff_toInt_lt, e1, e2, e3, es]
  omega
theorem m_loser {k x w : Nat} {p1 p2 : Int32} (r : RT S M k) (hk : k < 8) (hx : x < 4) (hw : w < 4) (e4 : S 4 k 0 = nI w) (e3 : M 1 (4 * k + 1) = nI w) (eo : p1 + p2 - nI w = nI x) :
    sp_X1_signsOfLoser (S 1 k) (S 2 k) (S 4 k 0) (S 5 k 0) (nI x) = if sp_X1_isStanding (S 1 k) (S 2 k) (nI x) = true then (sp_L_sign_j72s0 M (nI k) p1 p2 + sp_L_sign_j93s0 M (nI k) p1 p2) + sp_L_sign_j128s0 M (nI k) p1 p2 else sp_L_sign_j72s0 M (nI k) p1 p2 + sp_L_sign_j93s0 M (nI k) p1 p2 := by
  obtain ⟨gg, hg, eg, e2⟩ := r.2.2.1
  have hb : (if S 1 k x ≤ 0 then (0 : Int32) else 3) = if sp_X1_hasBidOf (S 1 k) (nI x) = true then 3 else 0 := by
    by_cases h : S 1 k x ≤ 0
    · rw [if_pos h, if_neg (fun q => (m_hasBid (by omega)).mp q h)]
    · rw [if_neg h, if_pos ((m_hasBid (by omega)).mpr h)]
  have hgo : (if ((nI gg >>> (nI x &&& 31)) &&& 1) = 1 then (1 : Int32) else 0) = if sp_X1_hasWithdrawn (S 2 k) (nI x) = true then 1 else 0 := by
    unfold sp_X1_hasWithdrawn
    rw [if_pos (isB_nI (by omega)), nI_clamp (show x < 2 ^ 31 by omega), bit4 hg hx, e2 x hx]
    cases gg.testBit x <;> rfl
  have hne : (if S 1 k x ≤ S 1 k w then (0 : Int32) else if 5 * S 1 k w < 100 * (S 1 k x - S 1 k w) then 0 else 2) = if sp_X1_isNear (S 1 k) (S 4 k 0) (sp_X1_sumOf (S 1 k) (nI x)) = true then 2 else 0 := by
    unfold sp_X1_isNear
    rw [m_sum (by omega), e4, m_sum (by omega)]
    by_cases h : S 1 k x ≤ S 1 k w
    · rw [if_pos h, if_pos h]; rfl
    · rw [if_neg h, if_neg h]
      have h9 := m_near5 (r.1 x hx).2 (r.1 w hw).2
      by_cases h2 : ((S 1 k w * 5) / 100) < S 1 k x - S 1 k w
      · rw [if_pos (h9.mpr h2), if_pos h2]; rfl
      · rw [if_neg (fun q => h2 (h9.mp q)), if_neg h2]; rfl
  unfold sp_L_sign_j72s0 sp_L_sign_j93s0 sp_L_sign_j128s0 sp_X1_signsOfLoser sp_X1_signsOfLoser_j49l2 sp_X1_signsOfLoser_j30l2 sp_X1_signsOfLoser_j7l2
  rw [cl41 hk, e3, eo, cl42 hk, cl4 hk hx, cl4 hk hw, nI_clamp (show k < 2 ^ 31 by omega), (r.1 x hx).1, (r.1 w hw).1, r.2.2.2.2.2.1, eg, hb, hgo, hne]
  by_cases c1 : sp_X1_isStanding (S 1 k) (S 2 k) (nI x) = true <;> by_cases c2 : sp_X1_isNear (S 1 k) (S 4 k 0) (sp_X1_sumOf (S 1 k) (nI x)) = true <;> by_cases c3 : S 5 k 0 = nI x <;> by_cases c4 : sp_X1_hasBidOf (S 1 k) (nI x) = true <;> by_cases c5 : sp_X1_hasWithdrawn (S 2 k) (nI x) = true <;> simp [c1, c2, c3, c4, c5] <;> decide
theorem m_lwT (n : Nat) (S : Nat → Nat → Nat → Int32) (p1 p2 : Int32) {j : Nat} (hj : j < n) (hn : n < 2 ^ 31) : sp_X2_lastWinnerBefore_A n S p1 p2 (j + 1) = if ¬ S 4 j 0 = -1 ∧ sp_X1_isStanding (S 1 j) (S 2 j) p1 = true ∧ sp_X1_isStanding (S 1 j) (S 2 j) p2 = true then S 4 j 0 else sp_X2_lastWinnerBefore_A n S p1 p2 j := by
  rw [show sp_X2_lastWinnerBefore_A n S p1 p2 (j + 1) = if tIn n (nI j) = true then (if sp_X1_isAwarded (S 4 ((nI j).toNatClampNeg) 0) = true then (if sp_X1_isStanding (S 1 ((nI j).toNatClampNeg)) (S 2 ((nI j).toNatClampNeg)) p1 = true then (if sp_X1_isStanding (S 1 ((nI j).toNatClampNeg)) (S 2 ((nI j).toNatClampNeg)) p2 = true then (sp_X1_winner (S 4 ((nI j).toNatClampNeg) 0)) else (sp_X2_lastWinnerBefore_A n S p1 p2 j)) else (sp_X2_lastWinnerBefore_A n S p1 p2 j)) else (sp_X2_lastWinnerBefore_A n S p1 p2 j)) else (sp_X2_lastWinnerBefore_A n S p1 p2 j) from rfl, if_pos (tIn_of hj hn), nI_clamp (by omega)]
  by_cases h4 : S 4 j 0 = -1
  · rw [if_neg (fun q => m_awd.mp q h4), if_neg (fun q => q.1 h4)]
  · rw [if_pos (m_awd.mpr h4)]
    by_cases c1 : sp_X1_isStanding (S 1 j) (S 2 j) p1 = true
    · by_cases c2 : sp_X1_isStanding (S 1 j) (S 2 j) p2 = true
      · rw [if_pos c1, if_pos c2, if_pos ⟨h4, c1, c2⟩]; rfl
      · rw [if_pos c1, if_neg c2, if_neg (fun q => c2 q.2.2)]
    · rw [if_neg c1, if_neg (fun q => c1 q.2.1)]
theorem m_A (R : Rel n d S M c) {w x y z : Nat} (hw : w < 4) (hx : x < 4) (hyz : (y = w ∧ z = x) ∨ (y = x ∧ z = w)) (sm : Int32) : ∀ j, j ≤ n → sp_L_sign_A M (nI y) (nI z) (nI x) j sm = if sp_X2_lastWinnerBefore_A n S (nI w) (nI x) j = nI x then sm + 4 else sm := by
  have hn := R.1
  intro j
  induction j with
  | zero =>
    intro _
    rw [show sp_X2_lastWinnerBefore_A n S (nI w) (nI x) 0 = -1 from rfl, if_neg (fun q => nI_ne1 (show x < 2 ^ 31 by omega) q.symm)]
    rfl
  | succ j ih =>
    intro hj
    have ih := ih (by omega)
    have r := R.rt (show j < n by omega)
    obtain ⟨a1, a2, a3⟩ := m_aw r
    rw [show sp_L_sign_A M (nI y) (nI z) (nI x) (j + 1) sm = if (M 1 ((4 * (nI j)).toNatClampNeg)) = 1 then (if sp_L_in M (nI j) (nI y) = true then (if sp_L_in M (nI j) (nI z) = true then (if (M 1 (((4 * (nI j)) + 1).toNatClampNeg)) = (nI x) then (if ((nI j) - 1) < 0 then (sm + 4) else (sm + 4)) else (if ((nI j) - 1) < 0 then (sm + 0) else (sm + 0))) else (sp_L_sign_A M (nI y) (nI z) (nI x) j (sm + 0))) else (sp_L_sign_A M (nI y) (nI z) (nI x) j (sm + 0))) else (sp_L_sign_A M (nI y) (nI z) (nI x) j (sm + 0)) from rfl]
    rw [Int32.add_zero, ite_self, ite_self, ih, cl40 (by omega), cl41 (by omega), m_in r (by omega) (show y < 4 by omega), m_in r (by omega) (show z < 4 by omega), m_lwT n S _ _ (show j < n by omega) (by omega)]
    by_cases h4 : S 4 j 0 = -1
    · rw [if_neg (fun q => a1.mp q h4)]
      rw [if_neg (show ¬ (¬ S 4 j 0 = -1 ∧ sp_X1_isStanding (S 1 j) (S 2 j) (nI w) = true ∧ sp_X1_isStanding (S 1 j) (S 2 j) (nI x) = true) from fun q => q.1 h4)]
    · rw [if_pos (a1.mpr h4)]
      obtain ⟨v, hv, e4, e3, -⟩ := a3 h4
      by_cases c1 : sp_X1_isStanding (S 1 j) (S 2 j) (nI w) = true
      · by_cases c2 : sp_X1_isStanding (S 1 j) (S 2 j) (nI x) = true
        · have cy : sp_X1_isStanding (S 1 j) (S 2 j) (nI y) = true := by rcases hyz with ⟨rfl, rfl⟩ | ⟨rfl, rfl⟩ <;> assumption
          have cz : sp_X1_isStanding (S 1 j) (S 2 j) (nI z) = true := by rcases hyz with ⟨rfl, rfl⟩ | ⟨rfl, rfl⟩ <;> assumption
          rw [if_pos cy, if_pos cz]
          rw [if_pos (show ¬ S 4 j 0 = -1 ∧ sp_X1_isStanding (S 1 j) (S 2 j) (nI w) = true ∧ sp_X1_isStanding (S 1 j) (S 2 j) (nI x) = true from ⟨h4, c1, c2⟩), e3, e4]
        · rw [if_neg (show ¬ (¬ S 4 j 0 = -1 ∧ sp_X1_isStanding (S 1 j) (S 2 j) (nI w) = true ∧ sp_X1_isStanding (S 1 j) (S 2 j) (nI x) = true) from fun q => c2 q.2.2)]
          rcases hyz with ⟨rfl, rfl⟩ | ⟨rfl, rfl⟩
          · rw [if_pos c1, if_neg c2]
          · rw [if_neg c2]
      · rw [if_neg (show ¬ (¬ S 4 j 0 = -1 ∧ sp_X1_isStanding (S 1 j) (S 2 j) (nI w) = true ∧ sp_X1_isStanding (S 1 j) (S 2 j) (nI x) = true) from fun q => c1 q.2.1)]
        rcases hyz with ⟨rfl, rfl⟩ | ⟨rfl, rfl⟩
        · rw [if_neg c1]
        · by_cases c2 : sp_X1_isStanding (S 1 j) (S 2 j) (nI y) = true
          · rw [if_pos c2, if_neg c1]
          · rw [if_neg c2]
theorem m_side (R : Rel n d S M c) {k x y w z : Nat} (hk : k < n) (hx : x < 4) (hw : w < 4) (hyz : (y = w ∧ z = x) ∨ (y = x ∧ z = w)) (e4 : S 4 k 0 = nI w) (e3 : M 1 (4 * k + 1) = nI w) :
    (if sp_L_in M (nI k) (nI y + nI z - M 1 ((4 * nI k + 1).toNatClampNeg)) = true then sp_L_sign_A M (nI y) (nI z) (nI y + nI z - M 1 ((4 * nI k + 1).toNatClampNeg)) (nI k).toNatClampNeg ((sp_L_sign_j72s0 M (nI k) (nI y) (nI z) + sp_L_sign_j93s0 M (nI k) (nI y) (nI z)) + sp_L_sign_j128s0 M (nI k) (nI y) (nI z)) else sp_L_sign_j72s0 M (nI k) (nI y) (nI z) + sp_L_sign_j93s0 M (nI k) (nI y) (nI z)) =
    if sp_X1_isStanding (S 1 k) (S 2 k) (nI x) = true then (if (sp_X2_lastWinnerBefore n S (nI k) (sp_X1_winner (S 4 k 0)) (nI x)) = nI x then ((sp_X1_signsOfLoser (S 1 k) (S 2 k) (S 4 k 0) (S 5 k 0) (nI x)) + 4) else (sp_X1_signsOfLoser (S 1 k) (S 2 k) (S 4 k 0) (S 5 k 0) (nI x))) else (sp_X1_signsOfLoser (S 1 k) (S 2 k) (S 4 k 0) (S 5 k 0) (nI x)) := by
  have hn := R.1
  have eo : nI y + nI z - nI w = nI x := by
    rcases hyz with ⟨rfl, rfl⟩ | ⟨rfl, rfl⟩
    · rw [add_sub_l]
    · rw [Int32.add_sub_cancel]
  rw [m_loser (R.rt hk) (by omega) hx hw e4 e3 eo, cl41 (by omega), e3, eo, m_in (R.rt hk) (by omega) hx]
  unfold sp_X2_lastWinnerBefore sp_X1_winner
  rw [nI_clamp (show k < 2 ^ 31 by omega), e4, m_A R hw hx hyz _ k (by omega)]
  by_cases c1 : sp_X1_isStanding (S 1 k) (S 2 k) (nI x) = true
  · simp only [if_pos c1]
  · simp only [if_neg c1]
theorem m_sign (R : Rel n d S M c) {k x y : Nat} (hk : k < n) (hx : x < 4) (hy : y < 4) : sp_X2_countOf n S (nI k) (nI x) (nI y) = sp_L_sign M (nI k) (nI x) (nI y) := by
  have hn := R.1
  obtain ⟨a1, a2, a3⟩ := m_aw (R.rt hk)
  unfold sp_X2_countOf sp_L_sign
  rw [if_pos (tIn_of hk R.n31), cl40 (by omega)]
  by_cases h4 : S 4 k 0 = -1
  · have hz : ∀ z, z < 4 → ¬ sp_X1_winner (S 4 (nI k).toNatClampNeg 0) = nI z := fun z hz q => by
      rw [nI_clamp (by omega)] at q
      exact nI_ne1 (by omega) (q.symm.trans h4)
    rw [if_neg (fun q => a1.mp q h4), if_neg (hz x hx), if_neg (hz y hy)]
  · obtain ⟨w, hw, e4, e3, -⟩ := a3 h4
    rw [if_pos (a1.mpr h4)]
    have e3' : M 1 ((4 * nI k + 1).toNatClampNeg) = nI w := by rw [cl41 (by omega)]; exact e3
    have ew : sp_X1_winner (S 4 (nI k).toNatClampNeg 0) = nI w := by rw [nI_clamp (by omega)]; exact e4
    have kk : (nI k).toNatClampNeg = k := nI_clamp (by omega)
    by_cases c1 : nI w = nI x
    · have c1' := (nI_inj' (by omega) (by omega)).mp c1
      subst c1'
      have h9 := m_side (y := w) (z := y) R hk hy hw (Or.inl ⟨rfl, rfl⟩) e4 e3
      rw [if_pos (show sp_X1_winner (S 4 (nI k).toNatClampNeg 0) = nI w from ew), if_pos (show M 1 ((4 * nI k + 1).toNatClampNeg) = nI w from e3'), h9, kk]
    · by_cases c2 : nI w = nI y
      · have c2' := (nI_inj' (by omega) (by omega)).mp c2
        subst c2'
        have h9 := m_side (y := x) (z := w) R hk hx hw (Or.inr ⟨rfl, rfl⟩) e4 e3
        rw [if_neg (fun q => c1 (ew.symm.trans q)), if_neg (fun q => c1 (e3'.symm.trans q)), if_pos ew, if_pos e3', h9, kk]
      · rw [if_neg (fun q => c1 (ew.symm.trans q)), if_neg (fun q => c2 (ew.symm.trans q)), if_neg (fun q => c1 (e3'.symm.trans q)), if_neg (fun q => c2 (e3'.symm.trans q))]
theorem Rel.sign (R : Rel n d S M c) {k x y : Nat} (hk : k < n) (hx : x < 4) (hy : y < 4) (h : ¬ y = x) : sp_X2_sign n S (nI k) (nI x) (nI y) = sp_L_sign M (nI k) (nI x) (nI y) := m_sign R hk hx hy
theorem m_countF {k : Nat} (S : Nat → Nat → Nat → Int32) (p q : Int32) (hk : ¬ k < n) (hk2 : k < 2 ^ 31) : sp_X2_countOf n S (nI k) p q = 0 := by
  unfold sp_X2_countOf
  rw [if_neg (tIn_not hk hk2)]
theorem m_susp (R : Rel n d S M c) {x y : Nat} (hx : x < 4) (hy : y < 4) : sp_X2_suspicionOf n S (nI x) (nI y) = sp_L_suspicion M n (nI x) (nI y) := by
  have hn := R.1
  have key : ∀ k, k ≤ 30 → sp_X2_suspicionOf_L5 n S (nI x) (nI y) k = sp_L_suspicion_L6 M (nI x) (nI y) (min k n) := by
    intro k
    induction k with
    | zero => intro _; rw [Nat.zero_min]; rfl
    | succ k ih =>
      intro hk
      have ih := ih (by omega)
      rw [show sp_X2_suspicionOf_L5 n S (nI x) (nI y) (k + 1) = (sp_X2_suspicionOf_L5 n S (nI x) (nI y) k) + (sp_X2_countOf n S (nI k) (nI x) (nI y)) from rfl]
      by_cases h : k < n
      · rw [show min k n = k by omega] at ih
        rw [show min (k + 1) n = k + 1 by omega, ih, m_sign R h hx hy]
        rfl
      · rw [show min k n = n by omega] at ih
        rw [show min (k + 1) n = n by omega, ih, m_countF S _ _ h (by omega), Int32.add_zero]
  have := key 30 (Nat.le_refl _)
  rw [show min 30 n = n by omega] at this
  exact this
theorem Rel.susp (R : Rel n d S M c) {x y : Nat} (hx : x < 4) (hy : y < 4) (h : ¬ y = x) : sp_X2_suspicion n S (nI x) (nI y) = sp_L_suspicion M n (nI x) (nI y) := m_susp R hx hy
/-- bidders above the law's four have no signs -/
theorem m_zero (R : Rel n d S M c) {x y : Nat} (hxy : x < y) (hy : y < 7) (hy4 : 4 ≤ y) (k : Nat) (hk2 : k < 30) : sp_X2_countOf n S (nI k) (nI x) (nI y) = 0 := by
  by_cases hk : k < n
  case neg => exact m_countF S _ _ hk (by omega)
  obtain ⟨-, g2, -, -, -, -, -, -, -, -, q2, q3⟩ := R.rt hk
  unfold sp_X2_countOf
  rw [if_pos (tIn_of hk R.n31), nI_clamp (show k < 2 ^ 31 by omega)]
  have ey : ¬ sp_X1_winner (S 4 k 0) = nI y := fun q => by
    have q : S 4 k 0 = nI y := q
    rcases q2 with z | ⟨u, hu, z, -⟩
    · rw [z] at q; exact nI_ne1 (by omega) q.symm
    · rw [z] at q; have := (nI_inj' (by omega) (by omega)).mp q; omega
  have ep : ¬ S 5 k 0 = nI y := fun q => by
    rcases q3 with z | ⟨u, hu, z, -⟩
    · rw [z] at q; exact nI_ne1 (by omega) q.symm
    · rw [z] at q; have := (nI_inj' (by omega) (by omega)).mp q; omega
  have s1 := (g2 y hy).1 hy4
  have s2 := (g2 y hy).2 s1
  have es : ¬ sp_X1_isStanding (S 1 k) (S 2 k) (nI y) = true := fun q => by
    unfold sp_X1_isStanding at q
    rw [if_pos (isB_nI hy), nI_clamp (by omega), s1, if_pos (by decide)] at q
    exact absurd q (by decide)
  have eg : ¬ sp_X1_hasWithdrawn (S 2 k) (nI y) = true := fun q => by
    unfold sp_X1_hasWithdrawn at q
    rw [if_pos (isB_nI hy), nI_clamp (by omega), s2, if_pos rfl] at q
    exact absurd q (by decide)
  rw [if_neg ey, if_neg es]
  by_cases c1 : sp_X1_winner (S 4 k 0) = nI x
  · rw [if_pos c1]
    unfold sp_X1_signsOfLoser sp_X1_signsOfLoser_j49l2 sp_X1_signsOfLoser_j30l2 sp_X1_signsOfLoser_j7l2
    rw [if_neg eg, if_neg ep, if_neg es]
  · rw [if_neg c1]
theorem m_suspZ (R : Rel n d S M c) {x y : Nat} (hxy : x < y) (hy : y < 7) (hy4 : 4 ≤ y) : sp_X2_suspicionOf n S (nI x) (nI y) = 0 := by
  have key : ∀ k, k ≤ 30 → sp_X2_suspicionOf_L5 n S (nI x) (nI y) k = 0 := by
    intro k
    induction k with
    | zero => intro _; rfl
    | succ k ih =>
      intro hk
      rw [show sp_X2_suspicionOf_L5 n S (nI x) (nI y) (k + 1) = (sp_X2_suspicionOf_L5 n S (nI x) (nI y) k) + (sp_X2_countOf n S (nI k) (nI x) (nI y)) from rfl, ih (by omega), m_zero R hxy hy hy4 k (by omega)]
      rfl
  exact key 30 (Nat.le_refl _)
end MB
/-! the worst pair -/
def wS (u : Int32 × Int32) (z v : Int32) : Int32 × Int32 := if v ≤ u.2 then u else (z, v)
theorem wS0 {u : Int32 × Int32} {z : Int32} (h : 0 ≤ u.2) : wS u z 0 = u := if_pos h
theorem wSn {u : Int32 × Int32} {z v : Int32} (h : 0 ≤ u.2) : 0 ≤ (wS u z v).2 := by
  unfold wS
  by_cases h1 : v ≤ u.2
  · rw [if_pos h1]; exact h
  · rw [if_neg h1]
    rw [Int32.le_iff_toInt_le] at h h1 ⊢
    show (0 : Int32).toInt ≤ v.toInt
    omega
def wU (g : Nat → Nat → Int32) : Int32 × Int32 := wS (wS (wS (wS (wS (wS (-1, 0) 1 (g 0 1)) 2 (g 0 2)) 3 (g 0 3)) 12 (g 1 2)) 13 (g 1 3)) 23 (g 2 3)
theorem wIn_s (f : Int32 → Int32 → Int32) (k : Nat) (i : Int32 × Int32) (j : Nat) : wIn f k i (j + 1) = wS (wIn f k i j) (10 * nI k + nI (k + 1 + j)) (f (nI k) (nI (k + 1 + j))) := rfl
theorem wIn_nop {f : Int32 → Int32 → Int32} {k : Nat} {i : Int32 × Int32} {j0 : Nat} (h : 0 ≤ (wIn f k i j0).2) : ∀ r, (∀ j, j0 ≤ j → j < j0 + r → f (nI k) (nI (k + 1 + j)) = 0) → wIn f k i (j0 + r) = wIn f k i j0 := by
  intro r
  induction r with
  | zero => intro _; rfl
  | succ r ih =>
    intro hz
    have ih := ih (fun j h1 h2 => hz j h1 (by omega))
    rw [show j0 + (r + 1) = (j0 + r) + 1 from rfl, wIn_s, hz (j0 + r) (by omega) (by omega), ih]
    exact wS0 h
theorem wIn_c {f : Int32 → Int32 → Int32} (k : Nat) (i : Int32 × Int32) (j : Nat) (z : Int32) (y : Nat) (hz : 10 * nI k + nI y = z) (hy : k + 1 + j = y) : wIn f k i (j + 1) = wS (wIn f k i j) z (f (nI k) (nI y)) := by
  subst hz
  subst hy
  rfl
theorem wO_1 {f : Int32 → Int32 → Int32} (hz : ∀ x y, x < y → y < 7 → 4 ≤ y → f (nI x) (nI y) = 0) (i : Int32 × Int32) (h0 : 0 ≤ i.2) : wIn f 0 i (3 + 3) = wS (wS (wS i 1 (f (nI 0) (nI 1))) 2 (f (nI 0) (nI 2))) 3 (f (nI 0) (nI 3)) := by
  have a : wIn f 0 i 3 = wS (wS (wS i 1 (f (nI 0) (nI 1))) 2 (f (nI 0) (nI 2))) 3 (f (nI 0) (nI 3)) :=
    (wIn_c 0 i 2 3 3 (by decide) rfl).trans (congrArg (fun u => wS u 3 (f (nI 0) (nI 3))) ((wIn_c 0 i 1 2 2 (by decide) rfl).trans (congrArg (fun u => wS u 2 (f (nI 0) (nI 2))) (wIn_c 0 i 0 1 1 (by decide) rfl))))
  have p : 0 ≤ (wIn f 0 i 3).2 := by rw [a]; exact wSn (wSn (wSn h0))
  exact (wIn_nop (f := f) (k := 0) (i := i) (j0 := 3) p 3 (fun j h1 h2 => hz 0 (0 + 1 + j) (by omega) (by omega) (by omega))).trans a
theorem wO_2 {f : Int32 → Int32 → Int32} (hz : ∀ x y, x < y → y < 7 → 4 ≤ y → f (nI x) (nI y) = 0) (i : Int32 × Int32) (h0 : 0 ≤ i.2) : wIn f 1 i (2 + 3) = wS (wS i 12 (f (nI 1) (nI 2))) 13 (f (nI 1) (nI 3)) := by
  have a : wIn f 1 i 2 = wS (wS i 12 (f (nI 1) (nI 2))) 13 (f (nI 1) (nI 3)) :=
    (wIn_c 1 i 1 13 3 (by decide) rfl).trans (congrArg (fun u => wS u 13 (f (nI 1) (nI 3))) (wIn_c 1 i 0 12 2 (by decide) rfl))
  have p : 0 ≤ (wIn f 1 i 2).2 := by rw [a]; exact wSn (wSn h0)
  exact (wIn_nop (f := f) (k := 1) (i := i) (j0 := 2) p 3 (fun j h1 h2 => hz 1 (1 + 1 + j) (by omega) (by omega) (by omega))).trans a
theorem wO_3 {f : Int32 → Int32 → Int32} (hz : ∀ x y, x < y → y < 7 → 4 ≤ y → f (nI x) (nI y) = 0) (i : Int32 × Int32) (h0 : 0 ≤ i.2) : wIn f 2 i (1 + 3) = wS i 23 (f (nI 2) (nI 3)) := by
  have a : wIn f 2 i 1 = wS i 23 (f (nI 2) (nI 3)) := wIn_c 2 i 0 23 3 (by decide) rfl
  have p : 0 ≤ (wIn f 2 i 1).2 := by rw [a]; exact wSn h0
  exact (wIn_nop (f := f) (k := 2) (i := i) (j0 := 1) p 3 (fun j h1 h2 => hz 2 (2 + 1 + j) (by omega) (by omega) (by omega))).trans a
theorem wO_4 {f : Int32 → Int32 → Int32} (hz : ∀ x y, x < y → y < 7 → 4 ≤ y → f (nI x) (nI y) = 0) (k r : Nat) (hk : 3 ≤ k) (hr : k + r = 6) (i : Int32 × Int32) (h0 : 0 ≤ i.2) : wIn f k i (0 + r) = i :=
  wIn_nop (f := f) (k := k) (i := i) (j0 := 0) h0 r (fun j h1 h2 => hz k (k + 1 + j) (by omega) (by omega) (by omega))
theorem wOut_U {f : Int32 → Int32 → Int32} (hz : ∀ x y, x < y → y < 7 → 4 ≤ y → f (nI x) (nI y) = 0) : wOut f 7 = wU (fun x y => f (nI x) (nI y)) := by
  have h0 : (0 : Int32) ≤ ((-1 : Int32), (0 : Int32)).2 := by decide
  have st : ∀ k, wOut f (k + 1) = wIn f k (wOut f k) (6 - k) := fun _ => rfl
  have e1 : wOut f 1 = wS (wS (wS (-1, 0) 1 (f (nI 0) (nI 1))) 2 (f (nI 0) (nI 2))) 3 (f (nI 0) (nI 3)) := (st 0).trans (wO_1 hz (-1, 0) h0)
  have p1 : 0 ≤ (wOut f 1).2 := by rw [e1]; exact wSn (wSn (wSn h0))
  have e2 : wOut f 2 = wS (wS (wOut f 1) 12 (f (nI 1) (nI 2))) 13 (f (nI 1) (nI 3)) := (st 1).trans (wO_2 hz (wOut f 1) p1)
  have p2 : 0 ≤ (wOut f 2).2 := by rw [e2]; exact wSn (wSn p1)
  have e3 : wOut f 3 = wS (wOut f 2) 23 (f (nI 2) (nI 3)) := (st 2).trans (wO_3 hz (wOut f 2) p2)
  have p3 : 0 ≤ (wOut f 3).2 := by rw [e3]; exact wSn p2
  have e4 : wOut f 4 = wOut f 3 := (st 3).trans (wO_4 hz 3 3 (by decide) rfl (wOut f 3) p3)
  have p4 : 0 ≤ (wOut f 4).2 := by rw [e4]; exact p3
  have e5 : wOut f 5 = wOut f 4 := (st 4).trans (wO_4 hz 4 2 (by decide) rfl (wOut f 4) p4)
  have p5 : 0 ≤ (wOut f 5).2 := by rw [e5]; exact p4
  have e6 : wOut f 6 = wOut f 5 := (st 5).trans (wO_4 hz 5 1 (by decide) rfl (wOut f 5) p5)
  have p6 : 0 ≤ (wOut f 6).2 := by rw [e6]; exact p5
  have e7 : wOut f 7 = wOut f 6 := (st 6).trans (wO_4 hz 6 0 (by decide) rfl (wOut f 6) p6)
  rw [e7, e6, e5, e4, e3, e2, e1]
  rfl
theorem wL_nop {M : Nat → Nat → Int32} {n j0 : Nat} (h : 0 ≤ (sp_L_worst_L9 M n j0).2) : ∀ r, (∀ j, j0 ≤ j → j < j0 + r → sp_L_worst_j34s0 M n j = 0) → sp_L_worst_L9 M n (j0 + r) = sp_L_worst_L9 M n j0 := by
  intro r
  induction r with
  | zero => intro _; rfl
  | succ r ih =>
    intro hz
    have ih := ih (fun j h1 h2 => hz j h1 (by omega))
    rw [show j0 + (r + 1) = (j0 + r) + 1 from rfl, show sp_L_worst_L9 M n (j0 + r + 1) = wS (sp_L_worst_L9 M n (j0 + r)) (nI (j0 + r + 1)) (sp_L_worst_j34s0 M n (j0 + r)) from rfl, hz (j0 + r) (by omega) (by omega), ih]
    exact wS0 h
theorem wL_z {M : Nat → Nat → Int32} {n k : Nat} (hk : k < 23) (h : k ≠ 0 ∧ k ≠ 1 ∧ k ≠ 2 ∧ k ≠ 11 ∧ k ≠ 12 ∧ k ≠ 22) : sp_L_worst_j34s0 M n k = 0 := by
  have : ∀ k : Fin 23, (k.val ≠ 0 ∧ k.val ≠ 1 ∧ k.val ≠ 2 ∧ k.val ≠ 11 ∧ k.val ≠ 12 ∧ k.val ≠ 22) → ((nI (k.val + 1)) - (nI (k.val + 1)) / 10 * 10) ≤ ((nI (k.val + 1)) / 10) ∨ 4 ≤ ((nI (k.val + 1)) - (nI (k.val + 1)) / 10 * 10) := by decide +kernel
  unfold sp_L_worst_j34s0
  rcases this ⟨k, hk⟩ h with q | q
  · rw [if_pos q]
  · rw [if_pos (show 4 ≤ ((nI (k + 1)) - (nI (k + 1)) / 10 * 10) from q), ite_self]
theorem wL_v {M : Nat → Nat → Int32} {n : Nat} (k a b : Nat) (h1 : ¬ ((nI (k + 1)) - (nI (k + 1)) / 10 * 10) ≤ ((nI (k + 1)) / 10)) (h2 : ¬ 4 ≤ ((nI (k + 1)) - (nI (k + 1)) / 10 * 10)) (ha : (nI (k + 1)) / 10 = nI a) (hb : ((nI (k + 1)) - (nI (k + 1)) / 10 * 10) = nI b) : sp_L_worst_j34s0 M n k = sp_L_suspicion M n (nI a) (nI b) := by
  unfold sp_L_worst_j34s0
  rw [if_neg h1, if_neg h2, hb, ha]
theorem wL_U {M : Nat → Nat → Int32} {n : Nat} : sp_L_worst_L9 M n 23 = wU (fun x y => sp_L_suspicion M n (nI x) (nI y)) := by
  have h0 : (0 : Int32) ≤ ((-1 : Int32), (0 : Int32)).2 := by decide
  have st : ∀ k, sp_L_worst_L9 M n (k + 1) = wS (sp_L_worst_L9 M n k) (nI (k + 1)) (sp_L_worst_j34s0 M n k) := fun k => rfl
  have e3 : sp_L_worst_L9 M n 3 = wS (wS (wS (-1, 0) 1 (sp_L_suspicion M n (nI 0) (nI 1))) 2 (sp_L_suspicion M n (nI 0) (nI 2))) 3 (sp_L_suspicion M n (nI 0) (nI 3)) := by
    rw [st 2, st 1, st 0, wL_v 0 0 1 (by decide) (by decide) (by decide) (by decide), wL_v 1 0 2 (by decide) (by decide) (by decide) (by decide), wL_v 2 0 3 (by decide) (by decide) (by decide) (by decide)]
    rfl
  have p3 : 0 ≤ (sp_L_worst_L9 M n 3).2 := by rw [e3]; exact wSn (wSn (wSn h0))
  have e11 : sp_L_worst_L9 M n 11 = sp_L_worst_L9 M n 3 := wL_nop (j0 := 3) p3 8 (fun j h1 h2 => wL_z (by omega) (by omega))
  have e13 : sp_L_worst_L9 M n 13 = wS (wS (sp_L_worst_L9 M n 11) 12 (sp_L_suspicion M n (nI 1) (nI 2))) 13 (sp_L_suspicion M n (nI 1) (nI 3)) := by
    rw [st 12, st 11, wL_v 11 1 2 (by decide) (by decide) (by decide) (by decide), wL_v 12 1 3 (by decide) (by decide) (by decide) (by decide)]
    rfl
  have p13 : 0 ≤ (sp_L_worst_L9 M n 13).2 := by rw [e13, e11]; exact wSn (wSn p3)
  have e22 : sp_L_worst_L9 M n 22 = sp_L_worst_L9 M n 13 := wL_nop (j0 := 13) p13 9 (fun j h1 h2 => wL_z (by omega) (by omega))
  rw [st 22, wL_v 22 2 3 (by decide) (by decide) (by decide) (by decide), e22, e13, e11, e3]
  rfl
theorem Rel.worst {n d c : Nat} {S : Nat → Nat → Nat → Int32} {M : Nat → Nat → Int32} (R : Rel n d S M c) : sp_X2_worst n S = sp_L_worst M n := by
  unfold sp_X2_worst sp_L_worst
  rw [wOut_U (fun x y h1 h2 h3 => m_suspZ R h1 h2 h3), wL_U]
  unfold wU
  dsimp only
  rw [m_susp R (show 0 < 4 by decide) (show 1 < 4 by decide), m_susp R (show 0 < 4 by decide) (show 2 < 4 by decide), m_susp R (show 0 < 4 by decide) (show 3 < 4 by decide), m_susp R (show 1 < 4 by decide) (show 2 < 4 by decide), m_susp R (show 1 < 4 by decide) (show 3 < 4 by decide), m_susp R (show 2 < 4 by decide) (show 3 < 4 by decide)]
