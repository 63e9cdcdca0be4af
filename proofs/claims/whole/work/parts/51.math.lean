/-! the class and the reference agree: numbers -/
theorem Rel.mono {n d c : Nat} {S : Nat → Nat → Nat → Int32} {M : Nat → Nat → Int32} (R : Rel n d S M c) : Rel n d S M (c + 1) := by
  obtain ⟨h1, h2, h3, h4, h5, h6, h7, h8, h9, h10⟩ := R
  refine ⟨h1, h2, h3, h4, h5, h6, h7, h8, fun j hj => ?_, h10⟩
  obtain ⟨a, b, mm, tt, g1, g2, g3, g4, g5, g6, g7, g8, g9, g10, g11, g12, g13, g14, g15, g16, g17, g18, g19, g20, g21, g22⟩ := h9 j hj
  refine ⟨a, b, mm, tt, g1, g2, g3, g4, g5, g6, g7, g8, g9, g10, g11, g12, g13, g14, g15, g16, g17, g18, g19, g20, fun x hx => ?_, g22⟩
  obtain ⟨v, v1, v2⟩ := g21 x hx
  exact ⟨v, Nat.le_succ_of_le v1, v2⟩
theorem StepW.thr {cx rx rm : Int32} {R1 R0 : Prop} (h : ¬ cx = 0) (r : R0) : StepW cx rx rm cx R1 R0 := ⟨rfl, fun q => absurd q h, fun _ => r⟩
theorem StepW.ret {rx rm : Int32} {R1 R0 : Prop} (h : rm = rx) (r : R1) : StepW 0 rx rm 0 R1 R0 := ⟨rfl, fun _ => ⟨h, r⟩, fun q => absurd rfl q⟩
theorem nI_sub1 {n : Nat} (hn : n ≤ 1000) : (nI n - 1).toInt = (n : Int) - 1 := by
  rw [Int32.toInt_sub, nI_toInt (by omega), show (1 : Int32).toInt = 1 from rfl]
  exact Int.bmod_eq_of_le (by omega) (by omega)
theorem in_iff {x lo hi : Int32} : sp_X3_in x lo hi = true ↔ lo.toInt ≤ x.toInt ∧ x.toInt ≤ hi.toInt := by
  unfold sp_X3_in
  by_cases h : x < lo
  · rw [if_pos h]
    have := Int32.lt_iff_toInt_lt.mp h
    exact ⟨fun q => by simp at q, fun q => by omega⟩
  · rw [if_neg h]
    have h1 : ¬ x.toInt < lo.toInt := fun q => h (Int32.lt_iff_toInt_lt.mpr q)
    by_cases h2 : hi < x
    · rw [if_pos h2]
      have := Int32.lt_iff_toInt_lt.mp h2
      exact ⟨fun q => by simp at q, fun q => by omega⟩
    · rw [if_neg h2]
      have h3 : ¬ hi.toInt < x.toInt := fun q => h2 (Int32.lt_iff_toInt_lt.mpr q)
      exact ⟨fun _ => by omega, fun _ => rfl⟩
theorem mB (x : Int32) : sp_X3_isBidder x = sp_X2_isBidder x := by
  unfold sp_X3_isBidder
  rw [Bool.eq_iff_iff, in_iff, isB_iff]
  have h0 : (0 : Int32).toInt = 0 := rfl
  have h6 : (6 : Int32).toInt = 6 := rfl
  rw [h0, h6]
  omega
theorem mM (x : Int32) : sp_X3_in x 1 100000 = sp_X2_isMoney x := rfl
theorem mPr (x y : Int32) : sp_X3_isPair x y = sp_X2_isPair x y := by
  unfold sp_X3_isPair sp_X2_isPair
  rw [mB, mB]
theorem mIn {v : Int32} {n : Nat} (h : v = nI n) (hn : n ≤ 1000) (x : Int32) : sp_X3_in x 0 (v - 1) = tIn n x := by
  subst h
  rw [Bool.eq_iff_iff, in_iff, nI_sub1 hn]
  have h0 : (0 : Int32).toInt = 0 := rfl
  unfold tIn
  rw [h0, decide_eq_true_iff]
  omega
theorem Rel.mT {n d c : Nat} {S : Nat → Nat → Nat → Int32} {M : Nat → Nat → Int32} (R : Rel n d S M c) (x : Int32) : sp_X3_isTender M x = tIn n x := mIn R.2.2.1 (by have := R.1; omega) x
theorem Rel.mF {n d c : Nat} {S : Nat → Nat → Nat → Int32} {M : Nat → Nat → Int32} (R : Rel n d S M c) (x : Int32) : sp_X3_isFile M x = tIn d x := mIn R.2.2.2.1 (by have := R.2.1; omega) x
theorem Rel.rt {n d c : Nat} {S : Nat → Nat → Nat → Int32} {M : Nat → Nat → Int32} (R : Rel n d S M c) {k : Nat} (hk : k < n) : RT S M k := R.2.2.2.2.2.2.1 k hk
theorem Rel.rf {n d c : Nat} {S : Nat → Nat → Nat → Int32} {M : Nat → Nat → Int32} (R : Rel n d S M c) {k : Nat} (hk : k < d) : RF S M c k := R.2.2.2.2.2.2.2.2.1 k hk
theorem ix7n {k b : Nat} (hk : k < 30) (hb : b < 7) : (7 * nI k + nI b : Int32).toNatClampNeg = 7 * k + b := by
  rw [show (7 : Int32) = nI 7 from rfl, pk_mul, nI_add, nI_clamp (by omega)]
theorem isB_ex {x : Int32} (h : sp_X2_isBidder x = true) : ∃ b, b < 7 ∧ x = nI b := vp_in_of (vp_in_iff.mpr (isB_iff.mp h)) (by decide)
theorem m_stand {S : Nat → Nat → Nat → Int32} {M : Nat → Nat → Int32} {k b : Nat} (r : RT S M k) (hk : k < 30) (hb : b < 7) : sp_X3_stands M (nI k) (nI b) = sp_X1_isStanding (S 1 k) (S 2 k) (nI b) := by
  unfold sp_X3_stands sp_X1_isStanding
  rw [if_pos (isB_nI hb), ix7n hk hb, nI_clamp (by omega), (r.1 b hb).1, (r.1 b hb).2.1]
theorem m_sum {S : Nat → Nat → Nat → Int32} {b k : Nat} (hb : b < 7) : sp_X1_sumOf (S 1 k) (nI b) = S 1 k b := by
  unfold sp_X1_sumOf
  rw [if_pos (isB_nI hb), nI_clamp (by omega)]
/-- a tender was given away -/
theorem m_aw {S : Nat → Nat → Nat → Int32} {M : Nat → Nat → Int32} {k : Nat} (r : RT S M k) : (M 2 k = 1 ↔ ¬ S 4 k 0 = -1) ∧ (M 2 k = 0 ↔ S 3 k 0 = 0) ∧ (¬ S 4 k 0 = -1 → ∃ w, w < 7 ∧ S 4 k 0 = nI w ∧ M 3 k = nI w) := by
  obtain ⟨-, h2, h3, -, -, h4, -, -, h6, -⟩ := r
  refine ⟨?_, ?_, fun q => ?_⟩
  · rw [h2]
    by_cases e : S 3 k 0 = 0
    · rw [if_pos e]; exact ⟨fun q => absurd q (by decide), fun q => absurd (h4 e) q⟩
    · rw [if_neg e]
      by_cases e2 : S 4 k 0 = -1
      · rw [if_pos e2]; exact ⟨fun q => absurd q (by decide), fun q => absurd e2 q⟩
      · rw [if_neg e2]; exact ⟨fun _ => e2, fun _ => rfl⟩
  · rw [h2]
    by_cases e : S 3 k 0 = 0
    · rw [if_pos e]; exact ⟨fun _ => e, fun _ => rfl⟩
    · rw [if_neg e]
      refine ⟨fun q => ?_, fun q => absurd q e⟩
      by_cases e2 : S 4 k 0 = -1
      · rw [if_pos e2] at q; exact absurd q (by decide)
      · rw [if_neg e2] at q; exact absurd q (by decide)
  · rcases h6 with h | ⟨w, hw, h⟩
    · exact absurd h q
    · exact ⟨w, hw, h, by rw [h3 (fun z => q (h4 z)), h]⟩
theorem m_awd {w : Int32} : sp_X1_isAwarded w = true ↔ ¬ w = -1 := by
  unfold sp_X1_isAwarded
  by_cases h : w = -1
  · rw [if_pos h]; exact ⟨fun q => by simp at q, fun q => absurd h q⟩
  · rw [if_neg h]; exact ⟨fun _ => h, fun _ => rfl⟩
theorem nI_ne1 {w : Nat} (hw : w < 2 ^ 31) : ¬ nI w = -1 := fun q => by
  have := congrArg Int32.toInt q
  rw [nI_toInt hw, show (-1 : Int32).toInt = -1 from rfl] at this
  omega
theorem nI_inj' {a b : Nat} (ha : a < 2 ^ 31) (hb : b < 2 ^ 31) : nI a = nI b ↔ a = b := ⟨fun q => by
  have := congrArg Int32.toInt q
  rw [nI_toInt ha, nI_toInt hb] at this
  omega, fun q => by rw [q]⟩
