/-! the steps on files -/
section FS
variable {n d c : Nat} {S S' : Nat → Nat → Nat → Int32} {M M' : Nat → Nat → Int32}
theorem setD_off {S : Nat → Nat → Nat → Int32} {k : Nat} {one oth : Int32} {un nw fi : Nat → Int32} {mc fst cl : Int32} (a b : Nat) (h : a ≤ 6 ∨ 15 ≤ a ∨ b ≠ k) : setD S k one oth un nw fi mc fst cl a b = S a b := by
  unfold setD
  by_cases e : b = k
  · rw [if_pos e]
    repeat rw [if_neg (by omega)]
  · rw [if_neg e]
/-- one file has changed; the money of the watch and the arrays' count and money may have -/
theorem Rel.file1 (R : Rel n d S M c) {k : Nat} (hk : k < d) (hS : ∀ a b, a ≤ 6 ∨ a = 16 ∨ (a ≤ 14 ∧ b ≠ k) → S' a b = S a b) (h0 : M' 0 0 = M 0 0) (h01 : M' 0 1 = M 0 1) (h02 : M' 0 2 = M 0 2) (hp : ∀ b, b < 4 → M' 0 (3 + b) = S' 15 0 b) (h1 : M' 1 = M 1) (h2 : M' 2 = M 2) (h3 : M' 3 = M 3)
    (h4 : ∀ j i, j ≠ k → i < 8 → M' 4 (8 * j + i) = M 4 (8 * j + i)) (h5 : ∀ j i, j ≠ k → i < 2 → M' 5 (2 * j + i) = M 5 (2 * j + i)) (hk0 : M' 4 (8 * k) = M 4 (8 * k)) (hk1 : M' 4 (8 * k + 1) = M 4 (8 * k + 1)) (hr : RF S' M' (c + 1) k) : Rel n d S' M' (c + 1) := by
  obtain ⟨g1, g2, g3, g4, g5, g6, g7, g8, g9, g10, g11⟩ := R.mono
  refine ⟨g1, g2, by rw [h0]; exact g3, by rw [h01, hS 16 0 (Or.inr (Or.inl rfl))]; exact g4, by rw [h02]; exact g5, hp, fun j hj => (g7 j hj).congr (fun a ha => hS a j (Or.inl ha)) (fun i _ => by rw [h1]) (fun i _ => by rw [h2]) (by rw [h3]), fun j hj hj2 => (g8 j hj hj2).congr (fun i _ => by rw [h1]) (fun i _ => by rw [h2]) (by rw [h3]), fun j hj => ?_, fun j hj hj2 => ?_, fun i j hi hj => ?_⟩
  · by_cases e : j = k
    · rw [e]; exact hr
    · exact (g9 j hj).congr (fun a h8 h9 => hS a j (Or.inr (Or.inr ⟨h9, e⟩))) (fun i hi => h4 j i e hi) (fun i hi => h5 j i e hi)
  · have e : j ≠ k := by omega
    exact (g10 j hj hj2).congr (fun i hi => h4 j i e hi) (fun i hi => h5 j i e hi)
  · have z : ∀ j, M' 4 (8 * j) = M 4 (8 * j) ∧ M' 4 (8 * j + 1) = M 4 (8 * j + 1) := fun j => by
      by_cases e : j = k
      · rw [e]; exact ⟨hk0, hk1⟩
      · exact ⟨h4 j 0 e (by decide), h4 j 1 e (by decide)⟩
    rw [(z i).1, (z i).2, (z j).1, (z j).2]
    exact g11 i j hi hj
theorem isOf_iff {x y p : Int32} : sp_X0_isOf x y p = true ↔ p = x ∨ p = y := by
  unfold sp_X0_isOf
  by_cases h : p = x
  · rw [if_pos h]; exact ⟨fun _ => Or.inl h, fun _ => rfl⟩
  · rw [if_neg h]
    by_cases h2 : p = y
    · rw [if_pos h2]; exact ⟨fun _ => Or.inr h2, fun _ => rfl⟩
    · rw [if_neg h2]; exact ⟨fun q => absurd q (by decide), fun q => q.elim (fun z => absurd z h) (fun z => absurd z h2)⟩
theorem j340_iff (R : Rel n d S M c) {j : Nat} (hj : j < d) : sp_L_files_j340s0 M j = 0 ↔ S 14 j 0 = 0 := by
  have hd := R.2.1
  obtain ⟨a, b, mm, tt, -, -, -, -, -, -, -, -, -, -, -, -, -, -, e, h, -⟩ := R.rf hj
  unfold sp_L_files_j340s0
  rw [show (8 * nI j + 7 : Int32).toNatClampNeg = 8 * j + 7 from c8 (i := 7) (by omega) (by decide), e]
  rcases h with h | h <;> rw [h] <;> decide
theorem mmx {a b x y : Nat} (hab : a ≠ b) (hxy : x < y) : (x = min a b ∧ y = max a b) ↔ (a = x ∨ a = y) ∧ (b = x ∨ b = y) := by
  rcases Nat.lt_or_ge a b with q | q
  · rw [Nat.min_eq_left (by omega), Nat.max_eq_right (by omega)]; omega
  · rw [Nat.min_eq_right q, Nat.max_eq_left q]; omega
/-- the class's own test for a file of the pair -/
theorem hasD_iff (R : Rel n d S M c) {a b : Nat} (ha : a < 4) (hb : b < 4) (hab : a ≠ b) : sp_X2_hasDossier d S (nI a) (nI b) = true ↔ ∃ i, i < d ∧ M 4 (8 * i) = nI (min a b) ∧ M 4 (8 * i + 1) = nI (max a b) := by
  have hd := R.2.1
  have key : ∀ f k, k + f = 20 → (sp_X2_hasDossier_A d S (nI a) (nI b) f k = true ↔ ∃ i, k ≤ i ∧ i < d ∧ M 4 (8 * i) = nI (min a b) ∧ M 4 (8 * i + 1) = nI (max a b)) := by
    intro f
    induction f with
    | zero => intro k hk; exact ⟨fun q => absurd (show false = true from q) (by decide), fun ⟨i, h1, h2, _⟩ => by omega⟩
    | succ f ih =>
      intro k hk
      have ih := ih (k + 1) (by omega)
      rw [show sp_X2_hasDossier_A d S (nI a) (nI b) (f + 1) k = if tIn d (nI k) = true then (if sp_X0_isOf (S 7 ((nI k).toNatClampNeg) 0) (S 8 ((nI k).toNatClampNeg) 0) (nI a) = true then (if sp_X0_isOf (S 7 ((nI k).toNatClampNeg) 0) (S 8 ((nI k).toNatClampNeg) 0) (nI b) = true then true else (sp_X2_hasDossier_A d S (nI a) (nI b) f (k + 1))) else (sp_X2_hasDossier_A d S (nI a) (nI b) f (k + 1))) else (sp_X2_hasDossier_A d S (nI a) (nI b) f (k + 1)) from rfl, nI_clamp (by omega)]
      have up : (¬ (k < d ∧ M 4 (8 * k) = nI (min a b) ∧ M 4 (8 * k + 1) = nI (max a b))) → ((∃ i, k + 1 ≤ i ∧ i < d ∧ M 4 (8 * i) = nI (min a b) ∧ M 4 (8 * i + 1) = nI (max a b)) ↔ ∃ i, k ≤ i ∧ i < d ∧ M 4 (8 * i) = nI (min a b) ∧ M 4 (8 * i + 1) = nI (max a b)) := fun hno => by
        refine ⟨fun ⟨i, h1, h2⟩ => ⟨i, by omega, h2⟩, fun ⟨i, h1, h2, h3⟩ => ?_⟩
        rcases Nat.lt_or_ge k i with q | q
        · exact ⟨i, q, h2, h3⟩
        · have : i = k := by omega
          subst this; exact absurd ⟨h2, h3⟩ hno
      by_cases hkd : k < d
      · rw [if_pos (tIn_of hkd R.d31)]
        obtain ⟨x, y, hxy, hy, ex, ey, es⟩ := R.pr hkd
        have hof : ∀ z, z < 4 → (sp_X0_isOf (S 7 k 0) (S 8 k 0) (nI z) = true ↔ z = x ∨ z = y) := fun z hz => by
          rw [isOf_iff]
          rcases es with ⟨e7, e8⟩ | ⟨e7, e8⟩ <;> rw [e7, e8, nI_inj' (by omega) (by omega), nI_inj' (by omega) (by omega)]
          exact Or.comm
        have hm : (M 4 (8 * k) = nI (min a b) ∧ M 4 (8 * k + 1) = nI (max a b)) ↔ (a = x ∨ a = y) ∧ (b = x ∨ b = y) := by
          rw [ex, ey, nI_inj' (by omega) (by omega), nI_inj' (by omega) (by omega)]
          exact mmx hab hxy
        by_cases c1 : sp_X0_isOf (S 7 k 0) (S 8 k 0) (nI a) = true
        · by_cases c2 : sp_X0_isOf (S 7 k 0) (S 8 k 0) (nI b) = true
          · rw [if_pos c1, if_pos c2]
            have := hm.mpr ⟨(hof a ha).mp c1, (hof b hb).mp c2⟩
            exact ⟨fun _ => ⟨k, Nat.le_refl _, hkd, this⟩, fun _ => rfl⟩
          · rw [if_pos c1, if_neg c2, ih]
            exact up (fun q => c2 ((hof b hb).mpr (hm.mp q.2).2))
        · rw [if_neg c1, ih]
          exact up (fun q => c1 ((hof a ha).mpr (hm.mp q.2).1))
      · rw [if_neg (tIn_not hkd (by omega)), ih]
        exact up (fun q => hkd q.1)
  have := key 20 0 rfl
  unfold sp_X2_hasDossier
  rw [this]
  exact ⟨fun ⟨i, _, h⟩ => ⟨i, h⟩, fun ⟨i, h⟩ => ⟨i, Nat.zero_le _, h⟩⟩
/-! the matters -/
theorem bit_or8 {g t : Nat} (hg : g < 256) (ht : t < 8) : (g ||| 2 ^ t) < 256 ∧ (nI g ||| (1 <<< (nI t &&& 31))) = nI (g ||| 2 ^ t) := by
  have h : ∀ g : Fin 256, ∀ t : Fin 8, (g.val ||| 2 ^ t.val) < 256 ∧ (nI g.val ||| (1 <<< (nI t.val &&& 31))) = nI (g.val ||| 2 ^ t.val) := by decide +kernel
  exact h ⟨g, hg⟩ ⟨t, ht⟩
theorem tb_or (g t x : Nat) : (g ||| 2 ^ t).testBit x = (g.testBit x || decide (t = x)) := by
  rw [Nat.testBit_or, Nat.testBit_two_pow]
theorem G_ex (R : Rel n d S M c) (hd6 : d < 6) {a b : Nat} (ha : a < 4) (hb : b < 4) : ∀ k, k ≤ n → ∃ mm, mm < 256 ∧ sp_L_files_G M d a b k = nI mm ∧ ∀ t, t < 30 → (mm.testBit t = true ↔ t < k ∧ ¬ sp_X2_countOf n S (nI t) (nI a) (nI b) ≤ 0) := by
  have hn := R.1
  intro k
  induction k with
  | zero =>
    intro _
    refine ⟨0, by decide, ?_, fun t _ => ⟨fun q => by simp at q, fun q => absurd q.1 (Nat.not_lt_zero _)⟩⟩
    show M 4 (((8 * (nI d)) + 2).toNatClampNeg) = nI 0
    rw [show (8 * nI d + 2 : Int32).toNatClampNeg = 8 * d + 2 from c8 (i := 2) hd6 (by decide)]
    exact (R.2.2.2.2.2.2.2.2.2.1 d (Nat.le_refl _) hd6).1 2 (by decide)
  | succ k ih =>
    intro hk
    obtain ⟨mm, h1, h2, h3⟩ := ih (by omega)
    rw [show sp_L_files_G M d a b (k + 1) = (sp_L_files_G M d a b k) ||| (if (sp_L_sign M (nI k) (nI a) (nI b)) ≤ 0 then (0 : Int32) else (1 <<< ((nI k) &&& 31))) from rfl, h2, ← m_sign R (show k < n by omega) ha hb]
    by_cases hs : sp_X2_countOf n S (nI k) (nI a) (nI b) ≤ 0
    · rw [if_pos hs, Int32.or_zero]
      refine ⟨mm, h1, rfl, fun t ht => (h3 t ht).trans ⟨fun q => ⟨by omega, q.2⟩, fun q => ⟨?_, q.2⟩⟩⟩
      rcases Nat.lt_or_ge t k with z | z
      · exact z
      · have : t = k := by omega
        subst this; exact absurd hs q.2
    · rw [if_neg hs]
      obtain ⟨g1, g2⟩ := bit_or8 h1 (show k < 8 by omega)
      refine ⟨mm ||| 2 ^ k, g1, g2, fun t ht => ?_⟩
      rw [tb_or, Bool.or_eq_true, h3 t ht, decide_eq_true_iff]
      refine ⟨fun q => ?_, fun q => ?_⟩
      · rcases q with q | q
        · exact ⟨by omega, q.2⟩
        · subst q; exact ⟨by omega, hs⟩
      · rcases Nat.lt_or_ge t k with z | z
        · exact Or.inl ⟨z, q.2⟩
        · exact Or.inr (by omega)
theorem U_at {p0 p1 : Int32} : ∀ k, k ≤ 30 → ∀ t, t < 30 → sp_X2_file_U n S p0 p1 k t = if t < k ∧ ¬ sp_X2_countOf n S (nI t) p0 p1 ≤ 0 then 1 else 0 := by
  intro k
  induction k with
  | zero => intro _ t _; rw [if_neg (by omega)]; rfl
  | succ k ih =>
    intro hk t ht
    have ih := ih (by omega) t ht
    rw [show sp_X2_file_U n S p0 p1 (k + 1) = if (sp_X2_countOf n S (nI k) p0 p1) ≤ 0 then sp_X2_file_U n S p0 p1 k else upd (sp_X2_file_U n S p0 p1 k) (nI k).toNatClampNeg 1 from rfl, nI_clamp (by omega)]
    by_cases hs : sp_X2_countOf n S (nI k) p0 p1 ≤ 0
    · rw [if_pos hs, ih]
      by_cases e : t = k
      · subst e; rw [if_neg (by omega), if_neg (fun q => q.2 hs)]
      · have : (t < k + 1 ∧ ¬ sp_X2_countOf n S (nI t) p0 p1 ≤ 0) ↔ (t < k ∧ ¬ sp_X2_countOf n S (nI t) p0 p1 ≤ 0) := ⟨fun q => ⟨by omega, q.2⟩, fun q => ⟨by omega, q.2⟩⟩
        by_cases h9 : t < k ∧ ¬ sp_X2_countOf n S (nI t) p0 p1 ≤ 0
        · rw [if_pos h9, if_pos (this.mpr h9)]
        · rw [if_neg h9, if_neg (fun q => h9 (this.mp q))]
    · rw [if_neg hs]
      by_cases e : t = k
      · subst e; rw [upd_at, if_pos ⟨by omega, hs⟩]
      · rw [upd_off e, ih]
        have : (t < k + 1 ∧ ¬ sp_X2_countOf n S (nI t) p0 p1 ≤ 0) ↔ (t < k ∧ ¬ sp_X2_countOf n S (nI t) p0 p1 ≤ 0) := ⟨fun q => ⟨by omega, q.2⟩, fun q => ⟨by omega, q.2⟩⟩
        by_cases h9 : t < k ∧ ¬ sp_X2_countOf n S (nI t) p0 p1 ≤ 0
        · rw [if_pos h9, if_pos (this.mpr h9)]
        · rw [if_neg h9, if_neg (fun q => h9 (this.mp q))]
theorem C_bits {p0 p1 : Int32} {mm : Nat} (hm : mm < 256) (h : ∀ t, t < 30 → (mm.testBit t = true ↔ t < n ∧ ¬ sp_X2_countOf n S (nI t) p0 p1 ≤ 0)) (hn : n ≤ 8) : sp_X2_file_C n S p0 p1 30 = sp_L_bits (nI mm) := by
  have hz : ∀ t, t < 30 → ¬ t < n → sp_X2_countOf n S (nI t) p0 p1 ≤ 0 := fun t ht h1 => by rw [m_countF S p0 p1 h1 (by omega)]; decide
  have sc : ∀ k, sp_X2_file_C n S p0 p1 (k + 1) = if (sp_X2_countOf n S (nI k) p0 p1) ≤ 0 then sp_X2_file_C n S p0 p1 k else (sp_X2_file_C n S p0 p1 k) + 1 := fun _ => rfl
  have k8 : ∀ k, k ≤ 8 → sp_X2_file_C n S p0 p1 k = sp_L_bits_L4 (nI mm) k := by
    intro k
    induction k with
    | zero => intro _; rfl
    | succ k ih =>
      intro hk
      rw [sc, show sp_L_bits_L4 (nI mm) (k + 1) = (sp_L_bits_L4 (nI mm) k) + ((nI mm >>> ((nI k) &&& 31)) &&& 1) from rfl, bit8 hm (by omega), ih (by omega)]
      by_cases hs : sp_X2_countOf n S (nI k) p0 p1 ≤ 0
      · rw [if_pos hs, if_neg (fun q => ((h k (by omega)).mp q).2 hs), Int32.add_zero]
      · have hk9 : k < n := by
          rcases Nat.lt_or_ge k n with q | q
          · exact q
          · exact absurd (hz k (by omega) (by omega)) hs
        rw [if_neg hs, if_pos ((h k (by omega)).mpr ⟨hk9, hs⟩)]
  have k30 : ∀ r, r ≤ 22 → sp_X2_file_C n S p0 p1 (8 + r) = sp_X2_file_C n S p0 p1 8 := by
    intro r
    induction r with
    | zero => intro _; rfl
    | succ r ih =>
      intro hr
      rw [show 8 + (r + 1) = (8 + r) + 1 from rfl, sc, if_pos (hz (8 + r) (by omega) (by omega)), ih (by omega)]
  exact (k30 22 (by omega)).trans (k8 8 (by omega))
end FS

section FT
variable {n d c : Nat} {S : Nat → Nat → Nat → Int32} {M : Nat → Nat → Int32}
theorem setD_off' {S : Nat → Nat → Nat → Int32} {k : Nat} {one oth : Int32} {un nw fi : Nat → Int32} {mc fst cl : Int32} (a b : Nat) (h : a ≤ 6 ∨ a = 16 ∨ (a ≤ 14 ∧ b ≠ k)) : setD S k one oth un nw fi mc fst cl a b = S a b := setD_off a b (by omega)
/-- the bidder that the law names when it tells -/
theorem tell_w2 (R : Rel n d S M c) {j sd : Nat} (hj : j < d) (hsd : sd < 2) : ∃ w, w < 4 ∧ M 4 ((8 * nI j + nI sd : Int32).toNatClampNeg) = nI w ∧ sp_X0_isOf (S 7 j 0) (S 8 j 0) (nI w) = true ∧ ∀ a b : Nat, M 4 (8 * j) = nI a → M 4 (8 * j + 1) = nI b → (sd = 0 ∧ nI w = nI a) ∨ (sd = 1 ∧ nI w = nI b) := by
  have hd := R.2.1
  obtain ⟨x, y, hxy, hy, ex, ey, es⟩ := R.pr hj
  have e : (8 * nI j + nI sd : Int32).toNatClampNeg = 8 * j + sd := c8 (by omega) (by omega)
  rw [e]
  rcases (show sd = 0 ∨ sd = 1 by omega) with rfl | rfl
  · refine ⟨x, by omega, ex, ?_, fun a b h1 _ => Or.inl ⟨rfl, by rw [← h1]; exact ex.symm⟩⟩
    rcases es with ⟨e7, e8⟩ | ⟨e7, e8⟩
    · rw [e7]; exact isOf_l
    · rw [e8]; exact isOf_r
  · refine ⟨y, by omega, ey, ?_, fun a b _ h2 => Or.inr ⟨rfl, by rw [← h2]; exact ey.symm⟩⟩
    rcases es with ⟨e7, e8⟩ | ⟨e7, e8⟩
    · rw [e8]; exact isOf_r
    · rw [e7]; exact isOf_l
theorem tell_w (R : Rel n d S M c) {j sd : Nat} (hj : j < d) (hsd : sd < 2) : ∃ w, w < 4 ∧ M 4 ((8 * nI j + nI sd : Int32).toNatClampNeg) = nI w ∧ sp_X0_isOf (S 7 j 0) (S 8 j 0) (nI w) = true := by
  obtain ⟨w, h1, h2, h3, -⟩ := tell_w2 R hj hsd
  exact ⟨w, h1, h2, h3⟩
/-! a settling of the class -/
def sdue (n : Nat) (S : Nat → Nat → Nat → Int32) (j w : Nat) : Int32 := sp_X0_lenientFine (S 10 j) (S 12 j 0) (S 13 j 0) (nI w) ((sp_X2_turnoverOf n S (nI w)) / 10)
def stk (n : Nat) (S : Nat → Nat → Nat → Int32) (j w : Nat) : Int32 := if S 15 0 w < sdue n S j w then S 15 0 w else sdue n S j w
def SSt (n : Nat) (S : Nat → Nat → Nat → Int32) (j w : Nat) (T : Nat → Nat → Nat → Int32) : Prop :=
  (sp_X2_settle n S j (nI w)).1 = sdue n S j w - stk n S j w ∧ (∀ a b, a ≤ 6 ∨ a = 16 ∨ (a ≤ 14 ∧ b ≠ j) → T a b = S a b) ∧ T 7 j 0 = S 7 j 0 ∧ T 8 j 0 = S 8 j 0 ∧ T 9 j = S 9 j ∧ T 10 j = S 10 j ∧ T 11 j = upd (S 11 j) w (sdue n S j w - stk n S j w) ∧ T 12 j 0 = S 12 j 0 ∧ T 13 j 0 = S 13 j 0 ∧ T 14 j 0 = S 14 j 0 ∧ T 15 0 = upd (S 15 0) w (S 15 0 w - stk n S j w)
section SST
variable {j w : Nat} {T : Nat → Nat → Nat → Int32}
theorem SSt.val (h : SSt n S j w T) : (sp_X2_settle n S j (nI w)).1 = sdue n S j w - stk n S j w := h.1
theorem SSt.off (h : SSt n S j w T) : ∀ a b, a ≤ 6 ∨ a = 16 ∨ (a ≤ 14 ∧ b ≠ j) → T a b = S a b := h.2.1
theorem SSt.f7 (h : SSt n S j w T) : T 7 j 0 = S 7 j 0 := h.2.2.1
theorem SSt.f8 (h : SSt n S j w T) : T 8 j 0 = S 8 j 0 := h.2.2.2.1
theorem SSt.f9 (h : SSt n S j w T) : T 9 j = S 9 j := h.2.2.2.2.1
theorem SSt.f10 (h : SSt n S j w T) : T 10 j = S 10 j := h.2.2.2.2.2.1
theorem SSt.f11 (h : SSt n S j w T) : T 11 j = upd (S 11 j) w (sdue n S j w - stk n S j w) := h.2.2.2.2.2.2.1
theorem SSt.f12 (h : SSt n S j w T) : T 12 j 0 = S 12 j 0 := h.2.2.2.2.2.2.2.1
theorem SSt.f13 (h : SSt n S j w T) : T 13 j 0 = S 13 j 0 := h.2.2.2.2.2.2.2.2.1
theorem SSt.f14 (h : SSt n S j w T) : T 14 j 0 = S 14 j 0 := h.2.2.2.2.2.2.2.2.2.1
theorem SSt.f15 (h : SSt n S j w T) : T 15 0 = upd (S 15 0) w (S 15 0 w - stk n S j w) := h.2.2.2.2.2.2.2.2.2.2
theorem ss_of (hw : w < 7) (hT : (sp_X2_settle n S j (nI w)).2 = T) : SSt n S j w T := by
  have hc : (nI w).toNatClampNeg = w := nI_clamp (by omega)
  have e1 : (sp_X2_settle n S j (nI w)).1 = sdue n S j w - stk n S j w := by
    unfold sp_X2_settle
    rw [hc]
    rfl
  have e2 : T = setD (us S 15 0 (upd (S 15 0) w (S 15 0 w - stk n S j w))) j (S 7 j 0) (S 8 j 0) (S 9 j) (S 10 j) (upd (S 11 j) w (sdue n S j w - stk n S j w)) (S 12 j 0) (S 13 j 0) (S 14 j 0) := by
    rw [← hT]
    unfold sp_X2_settle
    rw [hc]
    rfl
  refine ⟨e1, fun a b h => ?_, ?_, ?_, ?_, ?_, ?_, ?_, ?_, ?_, ?_⟩
  · rw [e2, setD_off a b (by omega)]
    unfold us
    rw [if_neg (by omega)]
  · rw [e2]; simp [setD]
  · rw [e2]; simp [setD]
  · rw [e2]; simp [setD]
  · rw [e2]; simp [setD]
  · rw [e2]; simp [setD]
  · rw [e2]; simp [setD]
  · rw [e2]; simp [setD]
  · rw [e2]; simp [setD]
  · rw [e2, setD_off 15 0 (by omega)]
    unfold us
    rw [if_pos ⟨rfl, rfl⟩]
end SST
/-! a fine of the law -/
def ldue (n : Nat) (N : Nat → Nat → Int32) (j sd : Nat) : Int32 := sp_L_fine_j49l8 N n (nI j) (nI sd)
def ltk (n : Nat) (N : Nat → Nat → Int32) (j sd w : Nat) : Int32 := if N 0 (3 + w) ≤ ldue n N j sd then N 0 (3 + w) else ldue n N j sd
def FL (n : Nat) (N : Nat → Nat → Int32) (j w sd w2 : Nat) (r : Int32) (G : Nat → Nat → Int32) : Prop := r = ldue n N j sd - ltk n N j sd w ∧ G 0 = upd (N 0) (3 + w) (N 0 (3 + w) - ltk n N j sd w) ∧ ∀ x, x ≠ 0 → G x = N x
theorem fl_of {N G : Nat → Nat → Int32} {j w sd : Nat} {r : Int32} (hj : j < 6) (hw : w < 4) (hsd : sd < 2) (e : N 4 (8 * j + sd) = nI w) (hG : (sp_L_fine N n (nI j) (nI sd)).2 = G) (hr : (sp_L_fine N n (nI j) (nI sd)).1 = r) : FL n N j w sd w r G := by
  have hc : (8 * nI j + nI sd : Int32).toNatClampNeg = 8 * j + sd := c8 hj (by omega)
  have h3 : (3 + N 4 ((8 * nI j + nI sd : Int32).toNatClampNeg) : Int32).toNatClampNeg = 3 + w := by rw [hc, e, show (3 : Int32) = nI 3 from rfl, nI_add, nI_clamp (by omega)]
  have h7 : sp_L_fine_j107s0 N n (nI j) (nI sd) = ltk n N j sd w := by
    unfold sp_L_fine_j107s0 ltk
    rw [h3]
    rfl
  refine ⟨?_, ?_, fun x hx => ?_⟩
  · rw [← hr]
    unfold sp_L_fine
    dsimp only
    rw [h7]
    rfl
  · rw [← hG]
    unfold sp_L_fine
    dsimp only
    rw [um_at, h3, h7]
  · rw [← hG]; exact um_off hx
theorem min_eq (x y : Int32) : (if x < y then x else y) = if x ≤ y then x else y := by
  by_cases h : x < y
  · rw [if_pos h, if_pos (Int32.le_iff_toInt_le.mpr (by have := Int32.lt_iff_toInt_lt.mp h; omega))]
  · rw [if_neg h]
    by_cases h2 : x ≤ y
    · rw [if_pos h2]
      have h3 : ¬ x.toInt < y.toInt := fun q => h (Int32.lt_iff_toInt_lt.mpr q)
      have h4 := Int32.le_iff_toInt_le.mp h2
      exact (Int32.toInt_inj.mp (by omega)).symm
    · rw [if_neg h2]
theorem to_congr {T : Nat → Nat → Nat → Int32} (h : ∀ x y, x ≤ 6 → T x y = S x y) (p : Int32) : sp_X2_turnoverOf n T p = sp_X2_turnoverOf n S p := by
  have key : ∀ k, sp_X2_turnoverOf_L14 n T p k = sp_X2_turnoverOf_L14 n S p k := by
    intro k
    induction k with
    | zero => rfl
    | succ k ih =>
      have st : ∀ S : Nat → Nat → Nat → Int32, sp_X2_turnoverOf_L14 n S p (k + 1) = if tIn n (nI k) = true then ((sp_X2_turnoverOf_L14 n S p k) + (sp_X1_incomeOf (S 1 ((nI k).toNatClampNeg)) (S 4 ((nI k).toNatClampNeg) 0) (S 5 ((nI k).toNatClampNeg) 0) (S 6 ((nI k).toNatClampNeg) 0) p)) else (sp_X2_turnoverOf_L14 n S p k) := fun _ => rfl
      rw [st T, st S, ih, h 1 _ (by decide), h 4 _ (by decide), h 5 _ (by decide), h 6 _ (by decide)]
  exact key 30
theorem tl_congr {N : Nat → Nat → Int32} (h1 : N 1 = M 1) (h2 : N 2 = M 2) (p : Int32) : sp_L_turnover N n p = sp_L_turnover M n p := by
  have key : ∀ k, sp_L_turnover_L6 N p k = sp_L_turnover_L6 M p k := by
    intro k
    induction k with
    | zero => rfl
    | succ k ih =>
      have st : ∀ M : Nat → Nat → Int32, sp_L_turnover_L6 M p (k + 1) = (((sp_L_turnover_L6 M p k) + (sp_L_turnover_j47s0 M p k)) - (sp_L_turnover_j69s0 M p k)) + (sp_L_turnover_j96s0 M p k) := fun _ => rfl
      rw [st N, st M, ih]
      unfold sp_L_turnover_j47s0 sp_L_turnover_j69s0 sp_L_turnover_j96s0 sp_L_turnover_j21s0
      rw [h1, h2]
  exact key n
theorem m_due (R : Rel n d S M c) (hcn : c < 1000) {j : Nat} (hj : j < d) {T : Nat → Nat → Nat → Int32} {N : Nat → Nat → Int32} {w sd : Nat} (hw : w < 4) (hsd : sd < 2) (e1 : N 4 (8 * j + sd) = nI w) (e2 : M 4 (8 * j + 5 + sd) = S 10 j w) (e3 : ∀ x y, x ≤ 6 → T x y = S x y) (e4 : T 10 j = S 10 j) (e5 : T 12 j 0 = S 12 j 0) (e6 : T 13 j 0 = S 13 j 0) (e7 : ∀ i, i < 7 → N 4 (8 * j + i) = M 4 (8 * j + i)) (e8 : N 1 = M 1) (e9 : N 2 = M 2) : sdue n T j w = ldue n N j sd := by
  have hd := R.2.1
  obtain ⟨a, b, mm, tt, h1, h2, h3, h4, h5, h6, h7, h8, h9, h10, h11, h12, h13, h14, h15, h16, h17, h18, h19, h20⟩ := R.rf hj
  obtain ⟨v, v1, v2, v3⟩ := h19 w hw
  unfold sdue ldue sp_X0_lenientFine sp_X0_lenientFine_j4s0 sp_L_fine_j49l8 sp_L_fine_j69s0
  have q1 : (8 * nI j + nI sd : Int32).toNatClampNeg = 8 * j + sd := c8 (by omega) (by omega)
  have q4 : (8 * nI j + 4 : Int32).toNatClampNeg = 8 * j + 4 := c8 (i := 4) (by omega) (by decide)
  have q2 : (8 * nI j + 2 : Int32).toNatClampNeg = 8 * j + 2 := c8 (i := 2) (by omega) (by decide)
  rw [q1, q4, q2, c85 (show j < 6 by omega) hsd, e1, e7 4 (by decide), e7 2 (by decide), show 8 * j + 5 + sd = 8 * j + (5 + sd) from Nat.add_assoc _ _ _, e7 (5 + sd) (by omega), ← Nat.add_assoc, e2, h12, h8, ← h11, tl_congr e8 e9, ← m_turnover R hw, to_congr e3, if_pos (isB_nI (show w < 7 by omega)), nI_clamp (show w < 2 ^ 31 by omega), e4, e5, e6, v2]
  generalize sp_X2_turnoverOf n S (nI w) / 10 = F
  by_cases hv : v = 0
  · have hne : ¬ S 13 j 0 = nI w := fun q => v3 q hv
    subst hv
    rw [if_pos (show nI 0 = 0 from rfl), if_neg hne, if_pos (by decide)]
  · have hv0 : ¬ nI v = 0 := nI_ne0 (by omega) (by omega)
    rw [if_neg hv0]
    by_cases hf : S 13 j 0 = nI w
    · rw [if_pos hf, if_pos hf.symm, show (2 : Int32) = nI 2 from rfl, pk_mul, nI_add, Nat.two_mul]
    · rw [if_neg hf, if_neg (fun q => hf q.symm), if_neg (nI_nle (by omega) (by omega))]
end FT
