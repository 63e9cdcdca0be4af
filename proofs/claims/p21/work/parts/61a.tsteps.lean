/-! the steps that write tenders -/
section TS
variable {n d c : Nat} {S S' : Nat → Nat → Nat → Int32} {M M' : Nat → Nat → Int32}
theorem RT.congr {k : Nat} (hS : ∀ a, a ≤ 6 → S' a k = S a k) (h1 : ∀ b, b < 4 → M' 1 (4 * k + b) = M 1 (4 * k + b)) (h2 : ∀ b, b < 4 → M' 2 (4 * k + b) = M 2 (4 * k + b)) (h3 : M' 3 k = M 3 k) (r : RT S M k) : RT S' M' k := by
  unfold RT at r ⊢
  rw [h3, show M' 1 (4 * k) = M 1 (4 * k) from h1 0 (by decide), h1 1 (by decide), h1 2 (by decide), h1 3 (by decide), hS 1 (by decide), hS 2 (by decide), hS 3 (by decide), hS 4 (by decide), hS 5 (by decide), hS 6 (by decide)]
  exact ⟨fun b hb => by rw [h2 b hb]; exact r.1 b hb, r.2⟩
theorem RN.congr {k : Nat} (h1 : ∀ b, b < 4 → M' 1 (4 * k + b) = M 1 (4 * k + b)) (h2 : ∀ b, b < 4 → M' 2 (4 * k + b) = M 2 (4 * k + b)) (h3 : M' 3 k = M 3 k) (r : RN M k) : RN M' k :=
  ⟨fun b hb => by rw [h2 b hb]; exact r.1 b hb, by rw [h3]; exact r.2.1, fun b hb => by rw [h1 b hb]; exact r.2.2 b hb⟩
theorem RF.congr {j : Nat} (hS : ∀ a, 7 ≤ a → a ≤ 14 → S' a j = S a j) (h4 : ∀ i, i < 8 → M' 4 (8 * j + i) = M 4 (8 * j + i)) (h5 : ∀ i, i < 2 → M' 5 (2 * j + i) = M 5 (2 * j + i)) (r : RF S M c j) : RF S' M' c j := by
  unfold RF at r ⊢
  rw [show M' 4 (8 * j) = M 4 (8 * j) from h4 0 (by decide), h4 1 (by decide), h4 2 (by decide), h4 3 (by decide), h4 4 (by decide), h4 5 (by decide), h4 6 (by decide), h4 7 (by decide), show M' 5 (2 * j) = M 5 (2 * j) from h5 0 (by decide), h5 1 (by decide)]
  rw [hS 7 (by decide) (by decide), hS 8 (by decide) (by decide), hS 9 (by decide) (by decide), hS 10 (by decide) (by decide), hS 11 (by decide) (by decide), hS 12 (by decide) (by decide), hS 13 (by decide) (by decide), hS 14 (by decide) (by decide)]
  exact r
theorem RG.congr {j : Nat} (h4 : ∀ i, i < 8 → M' 4 (8 * j + i) = M 4 (8 * j + i)) (h5 : ∀ i, i < 2 → M' 5 (2 * j + i) = M 5 (2 * j + i)) (r : RG M j) : RG M' j :=
  ⟨fun i hi => by rw [h4 i hi]; exact r.1 i hi, by rw [show M' 5 (2 * j) = M 5 (2 * j) from h5 0 (by decide)]; exact r.2.1, by rw [h5 1 (by decide)]; exact r.2.2⟩
theorem Rel.tender (R : Rel n d S M c) {k : Nat} (hk : k < n) (hS : ∀ a b, 7 ≤ a ∨ b ≠ k → S' a b = S a b) (hM : ∀ a, a = 0 ∨ a = 4 ∨ a = 5 → M' a = M a) (hM1 : ∀ a j i, a = 1 ∨ a = 2 → j ≠ k → i < 4 → M' a (4 * j + i) = M a (4 * j + i)) (hM3 : ∀ j, j ≠ k → M' 3 j = M 3 j) (hr : RT S' M' k) : Rel n d S' M' (c + 1) := by
  obtain ⟨g1, g2, g3, g4, g5, g6, g7, g8, g9, g10, g11⟩ := R.mono
  have m0 := hM 0 (Or.inl rfl)
  have m4 := hM 4 (Or.inr (Or.inl rfl))
  have m5 := hM 5 (Or.inr (Or.inr rfl))
  refine ⟨g1, g2, by rw [m0]; exact g3, by rw [m0, hS 16 0 (Or.inl (by decide))]; exact g4, by rw [m0]; exact g5, fun b hb => by rw [m0, hS 15 0 (Or.inl (by decide))]; exact g6 b hb, fun j hj => ?_, fun j hj hj2 => ?_, fun j hj => (g9 j hj).congr (fun a h1 h2 => hS a j (Or.inl h1)) (fun i _ => by rw [m4]) (fun i _ => by rw [m5]), fun j hj hj2 => (g10 j hj hj2).congr (fun i _ => by rw [m4]) (fun i _ => by rw [m5]), fun i j h1 h2 => by rw [m4]; exact g11 i j h1 h2⟩
  · by_cases e : j = k
    · rw [e]; exact hr
    · exact (g7 j hj).congr (fun a ha => hS a j (Or.inr e)) (fun b hb => hM1 1 j b (Or.inl rfl) e hb) (fun b hb => hM1 2 j b (Or.inr rfl) e hb) (hM3 j e)
  · have e : j ≠ k := by omega
    exact (g8 j hj hj2).congr (fun b hb => hM1 1 j b (Or.inl rfl) e hb) (fun b hb => hM1 2 j b (Or.inr rfl) e hb) (hM3 j e)
/-- nothing of the arrays or the watch's tenders and files has changed but by equal values -/
theorem Rel.sameM (R : Rel n d S M c) (h : ∀ a i, M' a i = M a i) : Rel n d S M' (c + 1) := by
  have e : M' = M := by funext a i; exact h a i
  rw [e]; exact R.mono
end TS
theorem setT_off {S : Nat → Nat → Nat → Int32} {k : Nat} {su go : Nat → Int32} {dec win par prt : Int32} (a b : Nat) (h : 7 ≤ a ∨ b ≠ k) : setT S k su go dec win par prt a b = S a b := by
  unfold setT
  by_cases e : b = k
  · rw [if_pos e]
    have : 7 ≤ a := h.elim id (fun q => absurd e q)
    repeat rw [if_neg (by omega)]
  · rw [if_neg e]
theorem um_at {M : Nat → Nat → Int32} {k : Nat} {f : Nat → Int32} : um M k f k = f := if_pos rfl
theorem um_off {M : Nat → Nat → Int32} {k a : Nat} {f : Nat → Int32} (h : a ≠ k) : um M k f a = M a := if_neg h
theorem upd_at {f : Nat → Int32} {k : Nat} {v : Int32} : upd f k v k = v := if_pos rfl
theorem upd_off {f : Nat → Int32} {k a : Nat} {v : Int32} (h : a ≠ k) : upd f k v a = f a := if_neg h
theorem um_self {M : Nat → Nat → Int32} {k i : Nat} : um M k (upd (M k) i (M k i)) = M := by
  funext a
  by_cases h : a = k
  · rw [h, um_at, upd_self]
  · rw [um_off h]
theorem st_thr {n d cn n2 d2 : Nat} {S S2 : Nat → Nat → Nat → Int32} {M : Nat → Nat → Int32} {rv due CD : Int32} (R : Rel n d S M cn) (h0 : ¬ CD = 0) (h : rv = due) : rv = due ∧ (CD = 0 → Rel n2 d2 S2 M (cn + 1)) ∧ (¬ CD = 0 → Rel n d S M (cn + 1)) := ⟨h, fun q => absurd q h0, fun _ => R.mono⟩
theorem st_ret {n d cn n2 d2 : Nat} {S S2 : Nat → Nat → Nat → Int32} {M2 : Nat → Nat → Int32} {rv due CD : Int32} (h0 : CD = 0) (h : rv = due) (R : Rel n2 d2 S2 M2 (cn + 1)) : rv = due ∧ (CD = 0 → Rel n2 d2 S2 M2 (cn + 1)) ∧ (¬ CD = 0 → Rel n d S M2 (cn + 1)) := ⟨h, fun _ => R, fun q => absurd h0 q⟩
theorem isOpen_iff {x : Int32} : sp_X1_isOpen x = true ↔ x = 0 := by
  unfold sp_X1_isOpen
  by_cases h : x = 0
  · rw [if_pos h]; exact ⟨fun _ => h, fun _ => rfl⟩
  · rw [if_neg h]; exact ⟨fun q => by simp at q, fun q => absurd q h⟩
theorem isPas_iff {x : Int32} : sp_X1_isPassedOn x = true ↔ ¬ x = -1 := by
  unfold sp_X1_isPassedOn
  by_cases h : x = -1
  · rw [if_pos h]; exact ⟨fun q => by simp at q, fun q => absurd h q⟩
  · rw [if_neg h]; exact ⟨fun _ => h, fun _ => rfl⟩
theorem isMon {x : Int32} (h : 1 ≤ x.toInt ∧ x.toInt ≤ 100000) : sp_X2_isMoney x = true := by
  have e1 : (1 : Int32).toInt = 1 := rfl
  have e2 : (100000 : Int32).toInt = 100000 := rfl
  unfold sp_X2_isMoney
  have h1 : ¬ x < 1 := fun q => by have := Int32.lt_iff_toInt_lt.mp q; omega
  have h2 : x ≤ 100000 := Int32.le_iff_toInt_le.mpr (by omega)
  first | rw [if_neg h1, if_pos h2] | rw [if_neg h1, if_neg (fun q => by have := Int32.lt_iff_toInt_lt.mp q; omega)]
theorem j73_iff {n d c : Nat} {S : Nat → Nat → Nat → Int32} {M : Nat → Nat → Int32} (R : Rel n d S M c) {k : Nat} (hk : k < n) : sp_L_tenders_j73s0 M k = 0 ↔ ¬ S 3 k 0 = 0 := by
  have hn := R.1
  have h := (m_aw (R.rt hk)).2.1
  unfold sp_L_tenders_j73s0
  rw [cl40 (by omega)]
  by_cases q : M 1 (4 * k) = 0
  · rw [if_pos q]; exact ⟨fun z => absurd z (by decide), fun z => absurd (h.mp q) z⟩
  · rw [if_neg q]; exact ⟨fun _ z => q (h.mpr z), fun _ => rfl⟩
theorem pos_of {x : Int32} (h : 0 ≤ x.toInt) (h2 : ¬ x = 0) : 1 ≤ x.toInt := by
  have : x.toInt ≠ 0 := fun q => h2 (Int32.toInt_inj.mp (by rw [q]; rfl))
  omega
theorem nle0 {x : Int32} (h : 1 ≤ x.toInt) : ¬ x ≤ 0 := fun q => by
  have h1 := Int32.le_iff_toInt_le.mp q
  rw [show (0 : Int32).toInt = 0 from rfl] at h1
  omega
theorem le0 {x : Int32} : x ≤ 0 ↔ x.toInt ≤ 0 := by
  rw [Int32.le_iff_toInt_le, show (0 : Int32).toInt = 0 from rfl]
/-- the bids of four bidders -/
theorem m_cnt4 {su go : Nat → Int32} (h : ∀ b, 4 ≤ b → b < 7 → ¬ sp_X1_isStanding su go (nI b) = true) : sp_X1_countStanding su go = sp_X1_countStanding_L4 su go 4 := by
  have st : ∀ j, sp_X1_countStanding_L4 su go (j + 1) = if sp_X1_isStanding su go (nI j) = true then sp_X1_countStanding_L4 su go j + 1 else sp_X1_countStanding_L4 su go j := fun _ => rfl
  unfold sp_X1_countStanding
  rw [st 6, if_neg (h 6 (by decide) (by decide)), st 5, if_neg (h 5 (by decide) (by decide)), st 4, if_neg (h 4 (by decide) (by decide))]
theorem m_cntB {M : Nat → Nat → Int32} {su go : Nat → Int32} {k b : Nat} {v : Int32} (hb : b < 4) (hs : sp_X1_isStanding su go (nI b) = true)
    (hin : ∀ j, j < 4 → sp_L_in (um M 2 (upd (M 2) (4 * nI k + nI b : Int32).toNatClampNeg v)) (nI k) (nI j) = sp_X1_isStanding su go (nI j)) : sp_X1_countStanding_L4 su go 4 = sp_L_tenders_L199 M k b v 4 := by
  have st : ∀ j, sp_X1_countStanding_L4 su go (j + 1) = if sp_X1_isStanding su go (nI j) = true then sp_X1_countStanding_L4 su go j + 1 else sp_X1_countStanding_L4 su go j := fun _ => rfl
  have sl : ∀ j, sp_L_tenders_L199 M k b v (j + 1) = sp_L_tenders_L199 M k b v j + (if nI j = nI b then 0 else (if sp_L_in (um M 2 (upd (M 2) (4 * nI k + nI b : Int32).toNatClampNeg v)) (nI k) (nI j) = true then 1 else 0)) := fun _ => rfl
  rw [st 3, st 2, st 1, st 0, sl 3, sl 2, sl 1, sl 0, hin 3 (by decide), hin 2 (by decide), hin 1 (by decide), hin 0 (by decide), show sp_X1_countStanding_L4 su go 0 = 0 from rfl, show sp_L_tenders_L199 M k b v 0 = 1 from rfl]
  rcases (show b = 0 ∨ b = 1 ∨ b = 2 ∨ b = 3 by omega) with rfl | rfl | rfl | rfl
  · rw [if_pos (c := nI 0 = nI 0) rfl, if_neg (show ¬ nI 1 = nI 0 by decide), if_neg (show ¬ nI 2 = nI 0 by decide), if_neg (show ¬ nI 3 = nI 0 by decide)]
    by_cases c1 : sp_X1_isStanding su go (nI 1) = true <;> by_cases c2 : sp_X1_isStanding su go (nI 2) = true <;> by_cases c3 : sp_X1_isStanding su go (nI 3) = true <;> simp only [hs, c1, c2, c3, if_true, if_false] <;> decide
  · rw [if_pos (c := nI 1 = nI 1) rfl, if_neg (show ¬ nI 0 = nI 1 by decide), if_neg (show ¬ nI 2 = nI 1 by decide), if_neg (show ¬ nI 3 = nI 1 by decide)]
    by_cases c1 : sp_X1_isStanding su go (nI 0) = true <;> by_cases c2 : sp_X1_isStanding su go (nI 2) = true <;> by_cases c3 : sp_X1_isStanding su go (nI 3) = true <;> simp only [hs, c1, c2, c3, if_true, if_false] <;> decide
  · rw [if_pos (c := nI 2 = nI 2) rfl, if_neg (show ¬ nI 0 = nI 2 by decide), if_neg (show ¬ nI 1 = nI 2 by decide), if_neg (show ¬ nI 3 = nI 2 by decide)]
    by_cases c1 : sp_X1_isStanding su go (nI 0) = true <;> by_cases c2 : sp_X1_isStanding su go (nI 1) = true <;> by_cases c3 : sp_X1_isStanding su go (nI 3) = true <;> simp only [hs, c1, c2, c3, if_true, if_false] <;> decide
  · rw [if_pos (c := nI 3 = nI 3) rfl, if_neg (show ¬ nI 0 = nI 3 by decide), if_neg (show ¬ nI 1 = nI 3 by decide), if_neg (show ¬ nI 2 = nI 3 by decide)]
    by_cases c1 : sp_X1_isStanding su go (nI 0) = true <;> by_cases c2 : sp_X1_isStanding su go (nI 1) = true <;> by_cases c3 : sp_X1_isStanding su go (nI 2) = true <;> simp only [hs, c1, c2, c3, if_true, if_false] <;> decide
theorem m_stand {su go : Nat → Int32} {b : Nat} (hb : b < 7) : sp_X1_isStanding su go (nI b) = true ↔ ¬ su b ≤ 0 ∧ go b = 0 := by
  unfold sp_X1_isStanding
  rw [if_pos (isB_nI hb), nI_clamp (by omega)]
  by_cases h : su b ≤ 0
  · rw [if_pos h]; exact ⟨fun q => by simp at q, fun q => absurd h q.1⟩
  · rw [if_neg h]
    by_cases h2 : go b = 0
    · rw [if_pos h2]; exact ⟨fun _ => ⟨h, h2⟩, fun _ => rfl⟩
    · rw [if_neg h2]; exact ⟨fun q => by simp at q, fun q => absurd q.2 h2⟩

theorem bit_or {g b : Nat} (hg : g < 16) (hb : b < 4) : ∃ g2, g2 < 16 ∧ (nI g ||| (1 <<< (nI b &&& 31))) = nI g2 ∧ ∀ x, x < 4 → g2.testBit x = (g.testBit x || decide (x = b)) := by
  have h : ∀ g : Fin 16, ∀ b : Fin 4, (g.val ||| 2 ^ b.val) < 16 ∧ (nI g.val ||| (1 <<< (nI b.val &&& 31))) = nI (g.val ||| 2 ^ b.val) ∧ ∀ x : Fin 4, (g.val ||| 2 ^ b.val).testBit x.val = (g.val.testBit x.val || decide (x.val = b.val)) := by decide +kernel
  obtain ⟨h1, h2, h3⟩ := h ⟨g, hg⟩ ⟨b, hb⟩
  exact ⟨_, h1, h2, fun x hx => h3 ⟨x, hx⟩⟩
/-- the best of a range of bidders: the least bid, of several that of the lowest number -/
def Bst (P : Nat → Prop) (v : Nat → Int) (lo hi : Nat) (x : Int32) : Prop := (x = -1 ∧ ∀ j, lo ≤ j → j < hi → ¬ P j) ∨ ∃ w, lo ≤ w ∧ w < hi ∧ x = nI w ∧ P w ∧ ∀ j, lo ≤ j → j < hi → P j → v w ≤ v j ∧ (j < w → v w < v j)
theorem Bst.uniq {P : Nat → Prop} {v : Nat → Int} {lo hi : Nat} {x y : Int32} (hx : Bst P v lo hi x) (hy : Bst P v lo hi y) : x = y := by
  rcases hx with ⟨e1, h1⟩ | ⟨w, a1, a2, e1, a3, h1⟩ <;> rcases hy with ⟨e2, h2⟩ | ⟨u, b1, b2, e2, b3, h2⟩
  · rw [e1, e2]
  · exact absurd b3 (h1 u b1 b2)
  · exact absurd a3 (h2 w a1 a2)
  · have q1 := h1 u b1 b2 b3
    have q2 := h2 w a1 a2 a3
    have : w = u := by
      rcases Nat.lt_trichotomy w u with h | h | h
      · have := q2.2 h; omega
      · exact h
      · have := q1.2 h; omega
    rw [e1, e2, this]
section BE
variable {n d c : Nat} {S : Nat → Nat → Nat → Int32} {M : Nat → Nat → Int32}
theorem best_up {su go : Nat → Int32} : ∀ k, k ≤ 7 → Bst (fun j => sp_X1_isStanding su go (nI j) = true) (fun j => (su j).toInt) 0 k (sp_X1_decide_L4 su go k) := by
  intro k
  induction k with
  | zero => intro _; exact Or.inl ⟨rfl, fun j _ h => absurd h (Nat.not_lt_zero _)⟩
  | succ k ih =>
    intro hk
    have ih := ih (by omega)
    rw [show sp_X1_decide_L4 su go (k + 1) = if sp_X1_isStanding su go (nI k) = true then (if (sp_X1_decide_L4 su go k) = (-1) then (nI k) else (if (sp_X1_sumOf su (sp_X1_decide_L4 su go k)) ≤ (sp_X1_sumOf su (nI k)) then (sp_X1_decide_L4 su go k) else (nI k))) else (sp_X1_decide_L4 su go k) from rfl]
    have hsum : ∀ j, j < 7 → sp_X1_sumOf su (nI j) = su j := fun j hj => by
      unfold sp_X1_sumOf; rw [if_pos (isB_nI hj), nI_clamp (by omega)]
    by_cases hs : sp_X1_isStanding su go (nI k) = true
    · rw [if_pos hs]
      rcases ih with ⟨e, h⟩ | ⟨w, a1, a2, e, a3, h⟩
      · rw [e, if_pos rfl]
        refine Or.inr ⟨k, by omega, by omega, rfl, hs, fun j h1 h2 h3 => ?_⟩
        rcases Nat.lt_or_ge j k with q | q
        · exact absurd h3 (h j h1 q)
        · have : j = k := by omega
          subst this; exact ⟨Int.le_refl _, fun z => absurd z (Nat.lt_irrefl _)⟩
      · rw [e, if_neg (nI_ne1 (by omega)), hsum w (by omega), hsum k (by omega)]
        by_cases hle : su w ≤ su k
        · rw [if_pos hle]
          have hle' := Int32.le_iff_toInt_le.mp hle
          refine Or.inr ⟨w, a1, by omega, rfl, a3, fun j h1 h2 h3 => ?_⟩
          rcases Nat.lt_or_ge j k with q | q
          · exact h j h1 q h3
          · have : j = k := by omega
            subst this; exact ⟨hle', fun z => by omega⟩
        · rw [if_neg hle]
          have hle' : ¬ (su w).toInt ≤ (su k).toInt := fun q => hle (Int32.le_iff_toInt_le.mpr q)
          refine Or.inr ⟨k, by omega, by omega, rfl, hs, fun j h1 h2 h3 => ?_⟩
          rcases Nat.lt_or_ge j k with q | q
          · have q9 : (su w).toInt ≤ (su j).toInt := (h j h1 q h3).1
            exact ⟨show (su k).toInt ≤ (su j).toInt by omega, fun _ => show (su k).toInt < (su j).toInt by omega⟩
          · have : j = k := by omega
            subst this; exact ⟨Int.le_refl _, fun z => absurd z (Nat.lt_irrefl _)⟩
    · rw [if_neg hs]
      rcases ih with ⟨e, h⟩ | ⟨w, a1, a2, e, a3, h⟩
      · refine Or.inl ⟨e, fun j h1 h2 h3 => ?_⟩
        rcases Nat.lt_or_ge j k with q | q
        · exact h j h1 q h3
        · have : j = k := by omega
          subst this; exact hs h3
      · refine Or.inr ⟨w, a1, by omega, e, a3, fun j h1 h2 h3 => ?_⟩
        rcases Nat.lt_or_ge j k with q | q
        · exact h j h1 q h3
        · have : j = k := by omega
          subst this; exact absurd h3 hs
theorem best_down (R : Rel n d S M c) {k : Nat} (hk : k < n) : ∀ j, j ≤ 4 → ∀ x, Bst (fun j => sp_X1_isStanding (S 1 k) (S 2 k) (nI j) = true) (fun j => (S 1 k j).toInt) j 4 x → Bst (fun j => sp_X1_isStanding (S 1 k) (S 2 k) (nI j) = true) (fun j => (S 1 k j).toInt) 0 4 (sp_L_tenders_A M k j x) := by
  have hn := R.1
  have r := R.rt hk
  intro j
  induction j with
  | zero => intro _ x hx; exact hx
  | succ j ih =>
    intro hj x hx
    refine ih (by omega) _ ?_
    rw [m_in r (by omega) (show j < 4 by omega)]
    by_cases hs : sp_X1_isStanding (S 1 k) (S 2 k) (nI j) = true
    · rw [if_pos hs]
      rcases hx with ⟨e, h⟩ | ⟨w, a1, a2, e, a3, h⟩
      · rw [e, if_pos (by decide)]
        refine Or.inr ⟨j, Nat.le_refl _, by omega, rfl, hs, fun i h1 h2 h3 => ?_⟩
        rcases Nat.lt_or_ge j i with q | q
        · exact absurd h3 (h i q h2)
        · have : i = j := by omega
          subst this; exact ⟨Int.le_refl _, fun z => absurd z (Nat.lt_irrefl _)⟩
      · rw [e, if_neg (nI_pos (by omega)), cl4 (by omega) a2, cl4 (by omega) (show j < 4 by omega), (r.1 w a2).1, (r.1 j (by omega)).1]
        by_cases hlt : S 1 k w < S 1 k j
        · rw [if_pos hlt]
          have hlt' := Int32.lt_iff_toInt_lt.mp hlt
          refine Or.inr ⟨w, by omega, a2, rfl, a3, fun i h1 h2 h3 => ?_⟩
          rcases Nat.lt_or_ge j i with q | q
          · exact h i q h2 h3
          · have : i = j := by omega
            subst this; exact ⟨show (S 1 k w).toInt ≤ (S 1 k i).toInt by omega, fun _ => hlt'⟩
        · rw [if_neg hlt]
          have hlt' : ¬ (S 1 k w).toInt < (S 1 k j).toInt := fun q => hlt (Int32.lt_iff_toInt_lt.mpr q)
          refine Or.inr ⟨j, Nat.le_refl _, by omega, rfl, hs, fun i h1 h2 h3 => ?_⟩
          rcases Nat.lt_or_ge j i with q | q
          · have q9 : (S 1 k w).toInt ≤ (S 1 k i).toInt := (h i q h2 h3).1
            exact ⟨show (S 1 k j).toInt ≤ (S 1 k i).toInt by omega, fun z => show (S 1 k j).toInt < (S 1 k i).toInt by omega⟩
          · have : i = j := by omega
            subst this; exact ⟨Int.le_refl _, fun z => absurd z (Nat.lt_irrefl _)⟩
    · rw [if_neg hs]
      rcases hx with ⟨e, h⟩ | ⟨w, a1, a2, e, a3, h⟩
      · refine Or.inl ⟨e, fun i h1 h2 h3 => ?_⟩
        rcases Nat.lt_or_ge j i with q | q
        · exact h i q h2 h3
        · have : i = j := by omega
          subst this; exact hs h3
      · refine Or.inr ⟨w, by omega, a2, e, a3, fun i h1 h2 h3 => ?_⟩
        rcases Nat.lt_or_ge j i with q | q
        · exact h i q h2 h3
        · have : i = j := by omega
          subst this; exact absurd h3 hs
theorem best_law (R : Rel n d S M c) {k : Nat} (hk : k < n) : Bst (fun j => sp_X1_isStanding (S 1 k) (S 2 k) (nI j) = true) (fun j => (S 1 k j).toInt) 0 4 (sp_L_tenders_A M k 4 (-1)) := best_down R hk 4 (Nat.le_refl _) (-1) (Or.inl ⟨rfl, fun j h1 h2 => by omega⟩)
theorem best_eq (R : Rel n d S M c) {k : Nat} (hk : k < n) : sp_X1_decide_L4 (S 1 k) (S 2 k) 7 = sp_L_tenders_A M k 4 (-1) := by
  have r2 := (R.rt hk).2.1
  have hi : ∀ b, 4 ≤ b → b < 7 → ¬ sp_X1_isStanding (S 1 k) (S 2 k) (nI b) = true := fun b h1 h2 q => ((m_stand h2).mp q).1 (by rw [(r2 b h2).1 h1]; decide)
  have h7 := best_up (su := S 1 k) (go := S 2 k) 7 (Nat.le_refl _)
  refine Bst.uniq ?_ (best_law R hk)
  rcases h7 with ⟨e, h⟩ | ⟨w, a1, a2, e, a3, h⟩
  · exact Or.inl ⟨e, fun j h1 h2 => h j h1 (by omega)⟩
  · refine Or.inr ⟨w, a1, ?_, e, a3, fun j h1 h2 h3 => h j h1 (by omega) h3⟩
    rcases Nat.lt_or_ge w 4 with q | q
    · exact q
    · exact absurd a3 (hi w q a2)
theorem best_st (R : Rel n d S M c) {k : Nat} (hk : k < n) : sp_L_tenders_A M k 4 (-1) = -1 ∨ ∃ w, w < 4 ∧ sp_L_tenders_A M k 4 (-1) = nI w ∧ 1 ≤ (S 1 k w).toInt := by
  rcases best_law R hk with ⟨e, -⟩ | ⟨w, a1, a2, e, a3, -⟩
  · exact Or.inl e
  · refine Or.inr ⟨w, a2, e, ?_⟩
    have h1 := ((m_stand (by omega)).mp a3).1
    have h2 := ((R.rt hk).1 w a2).2.1
    have h3 : ¬ (S 1 k w).toInt ≤ 0 := fun q => h1 (le0.mpr q)
    omega
end BE
