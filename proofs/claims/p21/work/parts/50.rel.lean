/-! the watch's state and the law's arrays, side by side -/
def RT (S : Nat → Nat → Nat → Int32) (M : Nat → Nat → Int32) (k : Nat) : Prop :=
  (∀ b, b < 4 → M 2 (4 * k + b) = S 1 k b ∧ 0 ≤ (S 1 k b).toInt ∧ (S 1 k b).toInt ≤ 100000) ∧
  (∀ b, b < 7 → (4 ≤ b → S 1 k b = 0) ∧ (S 1 k b = 0 → S 2 k b = 0)) ∧
  (∃ gg : Nat, gg < 16 ∧ M 3 k = nI gg ∧ ∀ b, b < 4 → S 2 k b = if gg.testBit b = true then 1 else 0) ∧
  M 1 (4 * k) = (if S 3 k 0 = 0 then 0 else if S 4 k 0 = -1 then 2 else 1) ∧ (¬ S 3 k 0 = 0 → M 1 (4 * k + 1) = S 4 k 0) ∧ M 1 (4 * k + 2) = S 5 k 0 ∧ M 1 (4 * k + 3) = S 6 k 0 ∧
  (S 3 k 0 = 0 → S 4 k 0 = -1) ∧ (S 4 k 0 = -1 → S 5 k 0 = -1) ∧ (S 5 k 0 = -1 → S 6 k 0 = 0) ∧
  (S 4 k 0 = -1 ∨ ∃ w, w < 4 ∧ S 4 k 0 = nI w ∧ 1 ≤ (S 1 k w).toInt) ∧ (S 5 k 0 = -1 ∨ ∃ w, w < 4 ∧ S 5 k 0 = nI w ∧ ¬ S 4 k 0 = nI w)
def RN (M : Nat → Nat → Int32) (k : Nat) : Prop := (∀ b, b < 4 → M 2 (4 * k + b) = 0) ∧ M 3 k = 0 ∧ ∀ b, b < 4 → M 1 (4 * k + b) = 0
def RF (S : Nat → Nat → Nat → Int32) (M : Nat → Nat → Int32) (c j : Nat) : Prop :=
  ∃ a b mm tt : Nat, a < b ∧ b < 4 ∧ ((S 7 j 0 = nI a ∧ S 8 j 0 = nI b) ∨ (S 7 j 0 = nI b ∧ S 8 j 0 = nI a)) ∧ M 4 (8 * j) = nI a ∧ M 4 (8 * j + 1) = nI b ∧
  mm < 256 ∧ tt < 256 ∧ M 4 (8 * j + 2) = nI mm ∧ M 4 (8 * j + 3) = nI tt ∧ (∀ t, t < 30 → S 9 j t = if (mm.testBit t && !tt.testBit t) = true then 1 else 0) ∧
  S 12 j 0 = sp_L_bits (nI mm) ∧ M 4 (8 * j + 4) = S 13 j 0 ∧ M 4 (8 * j + 5) = S 10 j a ∧ M 4 (8 * j + 6) = S 10 j b ∧ M 4 (8 * j + 7) = S 14 j 0 ∧ (S 14 j 0 = 0 ∨ S 14 j 0 = 1) ∧
  M 5 (2 * j) = S 11 j a ∧ M 5 (2 * j + 1) = S 11 j b ∧ (∀ x, x < 4 → ∃ v, v ≤ c ∧ S 10 j x = nI v ∧ (S 13 j 0 = nI x → v ≠ 0)) ∧ (S 13 j 0 = -1 ∨ S 13 j 0 = nI a ∨ S 13 j 0 = nI b)
def RG (M : Nat → Nat → Int32) (j : Nat) : Prop := (∀ i, i < 8 → M 4 (8 * j + i) = 0) ∧ M 5 (2 * j) = 0 ∧ M 5 (2 * j + 1) = 0
def Rel (n d : Nat) (S : Nat → Nat → Nat → Int32) (M : Nat → Nat → Int32) (c : Nat) : Prop :=
  n ≤ 8 ∧ d ≤ 6 ∧ M 0 0 = nI n ∧ M 0 1 = S 16 0 0 ∧ M 0 2 = nI d ∧ (∀ b, b < 4 → M 0 (3 + b) = S 15 0 b) ∧
  (∀ k, k < n → RT S M k) ∧ (∀ k, n ≤ k → k < 8 → RN M k) ∧ (∀ j, j < d → RF S M c j) ∧ (∀ j, d ≤ j → j < 6 → RG M j) ∧
  ∀ i j, i < j → j < d → ¬ (M 4 (8 * i) = M 4 (8 * j) ∧ M 4 (8 * i + 1) = M 4 (8 * j + 1))
section RELA
variable {n d c : Nat} {S : Nat → Nat → Nat → Int32} {M : Nat → Nat → Int32}
theorem Rel.n8 (R : Rel n d S M c) : n ≤ 8 := R.1
theorem Rel.d6 (R : Rel n d S M c) : d ≤ 6 := R.2.1
theorem Rel.n31 (R : Rel n d S M c) : n < 2 ^ 31 := by have := R.1; omega
theorem Rel.d31 (R : Rel n d S M c) : d < 2 ^ 31 := by have := R.2.1; omega
theorem Rel.n0 (R : Rel n d S M c) : M 0 0 = nI n := R.2.2.1
theorem Rel.d2 (R : Rel n d S M c) : M 0 2 = nI d := R.2.2.2.2.1
theorem Rel.rt (R : Rel n d S M c) {k : Nat} (hk : k < n) : RT S M k := R.2.2.2.2.2.2.1 k hk
theorem Rel.rf (R : Rel n d S M c) {k : Nat} (hk : k < d) : RF S M c k := R.2.2.2.2.2.2.2.2.1 k hk
theorem Rel.mono (R : Rel n d S M c) : Rel n d S M (c + 1) := by
  obtain ⟨h1, h2, h3, h4, h5, h6, h7, h8, h9, h10⟩ := R
  refine ⟨h1, h2, h3, h4, h5, h6, h7, h8, fun j hj => ?_, h10⟩
  obtain ⟨a, b, mm, tt, g1, g2, g3, g4, g5, g6, g7, g8, g9, g10, g11, g12, g13, g14, g15, g16, g17, g18, g19, g20⟩ := h9 j hj
  refine ⟨a, b, mm, tt, g1, g2, g3, g4, g5, g6, g7, g8, g9, g10, g11, g12, g13, g14, g15, g16, g17, g18, fun x hx => ?_, g20⟩
  obtain ⟨v, v1, v2⟩ := g19 x hx
  exact ⟨v, Nat.le_succ_of_le v1, v2⟩
end RELA
theorem isB_nI {a : Nat} (h : a < 7) : sp_X2_isBidder (nI a) = true := isB_iff.mpr (by rw [nI_toInt (by omega)]; omega)
theorem tIn_of {n k : Nat} (hk : k < n) (hn : n < 2 ^ 31) : tIn n (nI k) = true := by rw [tIn_nI (by omega)]; exact decide_eq_true hk
theorem tIn_not {n k : Nat} (hk : ¬ k < n) (hn : k < 2 ^ 31) : ¬ tIn n (nI k) = true := by rw [tIn_nI hn]; simpa using hk
theorem nI_ne1 {w : Nat} (hw : w < 2 ^ 31) : ¬ nI w = -1 := fun q => by
  have := congrArg Int32.toInt q
  rw [nI_toInt hw, show (-1 : Int32).toInt = -1 from rfl] at this
  omega
theorem nI_inj' {a b : Nat} (ha : a < 2 ^ 31) (hb : b < 2 ^ 31) : nI a = nI b ↔ a = b := ⟨fun q => by
  have := congrArg Int32.toInt q
  rw [nI_toInt ha, nI_toInt hb] at this
  omega, fun q => by rw [q]⟩
theorem isB_ex {x : Int32} (h : sp_X2_isBidder x = true) : ∃ b, b < 7 ∧ x = nI b := vp_in_of (vp_in_iff.mpr (isB_iff.mp h)) (by decide)
theorem pairX {a b : Nat} (ha : a < 7) (hb : b < 7) (h : ¬ b = a) : sp_X2_isPair (nI a) (nI b) = true := by
  unfold sp_X2_isPair
  rw [if_pos (isB_nI ha), if_pos (isB_nI hb)]
  rw [if_neg (fun q => h ((nI_inj' (by omega) (by omega)).mp q).symm)]
theorem cl4 {k b : Nat} (hk : k < 8) (hb : b < 4) : (4 * nI k + nI b : Int32).toNatClampNeg = 4 * k + b := by
  rw [show (4 : Int32) = nI 4 from rfl, pk_mul, nI_add, nI_clamp (by omega)]
theorem cl40 {k : Nat} (hk : k < 8) : (4 * nI k : Int32).toNatClampNeg = 4 * k := by
  rw [show (4 : Int32) = nI 4 from rfl, pk_mul, nI_clamp (by omega)]
theorem cl41 {k : Nat} (hk : k < 8) : (4 * nI k + 1 : Int32).toNatClampNeg = 4 * k + 1 := cl4 (b := 1) hk (by decide)
theorem cl42 {k : Nat} (hk : k < 8) : (4 * nI k + 2 : Int32).toNatClampNeg = 4 * k + 2 := cl4 (b := 2) hk (by decide)
theorem cl43 {k : Nat} (hk : k < 8) : (4 * nI k + 3 : Int32).toNatClampNeg = 4 * k + 3 := cl4 (b := 3) hk (by decide)
theorem cl8 {k b : Nat} (hk : k < 6) (hb : b < 8) : (8 * nI k + nI b : Int32).toNatClampNeg = 8 * k + b := by
  rw [show (8 : Int32) = nI 8 from rfl, pk_mul, nI_add, nI_clamp (by omega)]
theorem cl80 {k : Nat} (hk : k < 6) : (8 * nI k : Int32).toNatClampNeg = 8 * k := by
  rw [show (8 : Int32) = nI 8 from rfl, pk_mul, nI_clamp (by omega)]
theorem cl2 {k b : Nat} (hk : k < 6) (hb : b < 2) : (2 * nI k + nI b : Int32).toNatClampNeg = 2 * k + b := by
  rw [show (2 : Int32) = nI 2 from rfl, pk_mul, nI_add, nI_clamp (by omega)]
theorem cl20 {k : Nat} (hk : k < 6) : (2 * nI k : Int32).toNatClampNeg = 2 * k := by
  rw [show (2 : Int32) = nI 2 from rfl, pk_mul, nI_clamp (by omega)]
theorem bit4 {g b : Nat} (hg : g < 16) (hb : b < 4) : ((nI g >>> (nI b &&& 31)) &&& 1) = if g.testBit b = true then 1 else 0 := by
  have h : ∀ g : Fin 16, ∀ b : Fin 4, ((nI g.val >>> (nI b.val &&& 31)) &&& 1) = if g.val.testBit b.val = true then 1 else 0 := by decide +kernel
  exact h ⟨g, hg⟩ ⟨b, hb⟩
theorem bit8 {g b : Nat} (hg : g < 256) (hb : b < 8) : ((nI g >>> (nI b &&& 31)) &&& 1) = if g.testBit b = true then 1 else 0 := by
  have h : ∀ g : Fin 256, ∀ b : Fin 8, ((nI g.val >>> (nI b.val &&& 31)) &&& 1) = if g.val.testBit b.val = true then 1 else 0 := by decide +kernel
  exact h ⟨g, hg⟩ ⟨b, hb⟩
