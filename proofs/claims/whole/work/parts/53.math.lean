/-! the steps that write tenders, the mark and the money to the harmed -/
theorem RT.congr {S S' : Nat → Nat → Nat → Int32} {M M' : Nat → Nat → Int32} {k : Nat} (hS : ∀ a, a ≤ 6 → S' a k = S a k) (h2 : M' 2 k = M 2 k) (h3 : M' 3 k = M 3 k) (h4 : M' 4 k = M 4 k) (h5 : M' 5 k = M 5 k) (h6 : ∀ b, b < 7 → M' 6 (7 * k + b) = M 6 (7 * k + b) ∧ M' 7 (7 * k + b) = M 7 (7 * k + b)) (r : RT S M k) : RT S' M' k := by
  unfold RT at r ⊢
  rw [h2, h3, h4, h5, hS 1 (by decide), hS 2 (by decide), hS 3 (by decide), hS 4 (by decide), hS 5 (by decide), hS 6 (by decide)]
  exact ⟨fun b hb => by rw [(h6 b hb).1, (h6 b hb).2]; exact r.1 b hb, r.2⟩
theorem RF.congr {S S' : Nat → Nat → Nat → Int32} {M M' : Nat → Nat → Int32} {c j : Nat} (hS : ∀ a, 7 ≤ a → a ≤ 14 → S' a j = S a j) (hM : ∀ a, 10 ≤ a → a ≤ 17 → M' a = M a) (r : RF S M c j) : RF S' M' c j := by
  unfold RF at r ⊢
  rw [hM 10 (by decide) (by decide), hM 11 (by decide) (by decide), hM 12 (by decide) (by decide), hM 13 (by decide) (by decide), hM 14 (by decide) (by decide), hM 15 (by decide) (by decide), hM 16 (by decide) (by decide), hM 17 (by decide) (by decide)]
  rw [hS 7 (by decide) (by decide), hS 8 (by decide) (by decide), hS 9 (by decide) (by decide), hS 10 (by decide) (by decide), hS 11 (by decide) (by decide), hS 12 (by decide) (by decide), hS 13 (by decide) (by decide), hS 14 (by decide) (by decide)]
  exact r
theorem RG.congr {M M' : Nat → Nat → Int32} {j : Nat} (hM : ∀ a, 10 ≤ a → a ≤ 17 → M' a = M a) (r : RG M j) : RG M' j := by
  unfold RG at r ⊢
  rw [hM 12 (by decide) (by decide), hM 13 (by decide) (by decide), hM 15 (by decide) (by decide), hM 16 (by decide) (by decide), hM 17 (by decide) (by decide)]
  exact r
theorem Rel.other {n d c : Nat} {S S' : Nat → Nat → Nat → Int32} {M M' : Nat → Nat → Int32} (R : Rel n d S M c) (hS : ∀ a b, a ≤ 14 → S' a b = S a b) (hM : ∀ a, a ≠ 8 → a ≠ 18 → M' a = M a) (h8 : M' 8 0 = S' 16 0 0) (h18 : ∀ b, b < 7 → M' 18 b = S' 15 0 b) : Rel n d S' M' (c + 1) := by
  obtain ⟨g1, g2, g3, g4, g5, g6, g7, g8, g9, g10⟩ := R.mono
  refine ⟨g1, g2, by rw [hM 1 (by decide) (by decide)]; exact g3, by rw [hM 9 (by decide) (by decide)]; exact g4, h8, h18, fun k hk => (g7 k hk).congr (fun a ha => hS a k (by omega)) (by rw [hM 2 (by decide) (by decide)]) (by rw [hM 3 (by decide) (by decide)]) (by rw [hM 4 (by decide) (by decide)]) (by rw [hM 5 (by decide) (by decide)]) (fun b hb => ⟨by rw [hM 6 (by decide) (by decide)], by rw [hM 7 (by decide) (by decide)]⟩), fun k hk hk2 => ?_, fun j hj => (g9 j hj).congr (fun a h1 h2 => hS a j h2) (fun a h1 h2 => hM a (by omega) (by omega)), fun j hj hj2 => (g10 j hj hj2).congr (fun a h1 h2 => hM a (by omega) (by omega))⟩
  have := g8 k hk hk2
  unfold RN at this ⊢
  rw [hM 2 (by decide) (by decide), hM 5 (by decide) (by decide), hM 6 (by decide) (by decide), hM 7 (by decide) (by decide)]
  exact this
theorem Rel.tender {n d c : Nat} {S S' : Nat → Nat → Nat → Int32} {M M' : Nat → Nat → Int32} (R : Rel n d S M c) {k : Nat} (hk : k < n) (hS : ∀ a b, 7 ≤ a ∨ b ≠ k → S' a b = S a b) (hM : ∀ a, a = 1 ∨ 8 ≤ a → M' a = M a) (hM2 : ∀ a j, 2 ≤ a → a ≤ 5 → j ≠ k → M' a j = M a j) (hM6 : ∀ a j b, a = 6 ∨ a = 7 → j ≠ k → b < 7 → M' a (7 * j + b) = M a (7 * j + b)) (hr : RT S' M' k) : Rel n d S' M' (c + 1) := by
  obtain ⟨g1, g2, g3, g4, g5, g6, g7, g8, g9, g10⟩ := R.mono
  refine ⟨g1, g2, by rw [hM 1 (Or.inl rfl)]; exact g3, by rw [hM 9 (Or.inr (by decide))]; exact g4, by rw [hM 8 (Or.inr (by decide)), hS 16 0 (Or.inl (by decide))]; exact g5, fun b hb => by rw [hM 18 (Or.inr (by decide)), hS 15 0 (Or.inl (by decide))]; exact g6 b hb, fun j hj => ?_, fun j hj hj2 => ?_, fun j hj => (g9 j hj).congr (fun a h1 h2 => hS a j (Or.inl h1)) (fun a h1 h2 => hM a (Or.inr (by omega))), fun j hj hj2 => (g10 j hj hj2).congr (fun a h1 h2 => hM a (Or.inr (by omega)))⟩
  · by_cases e : j = k
    · rw [e]; exact hr
    · exact (g7 j hj).congr (fun a ha => hS a j (Or.inr e)) (hM2 2 j (by decide) (by decide) e) (hM2 3 j (by decide) (by decide) e) (hM2 4 j (by decide) (by decide) e) (hM2 5 j (by decide) (by decide) e) (fun b hb => ⟨hM6 6 j b (Or.inl rfl) e hb, hM6 7 j b (Or.inr rfl) e hb⟩)
  · obtain ⟨h1, h2, h3⟩ := g8 j hj hj2
    have e : j ≠ k := by omega
    exact ⟨fun b hb => ⟨by rw [hM6 6 j b (Or.inl rfl) e hb]; exact (h1 b hb).1, by rw [hM6 7 j b (Or.inr rfl) e hb]; exact (h1 b hb).2⟩, by rw [hM2 2 j (by decide) (by decide) e]; exact h2, by rw [hM2 5 j (by decide) (by decide) e]; exact h3⟩
theorem setT_off {S : Nat → Nat → Nat → Int32} {k : Nat} {su go : Nat → Int32} {dec win par prt : Int32} (a b : Nat) (h : 7 ≤ a ∨ b ≠ k) : setT S k su go dec win par prt a b = S a b := by
  unfold setT
  by_cases e : b = k
  · rw [if_pos e]
    have : 7 ≤ a := h.elim id (fun q => absurd e q)
    repeat rw [if_neg (by omega)]
  · rw [if_neg e]
theorem um_at {M : Nat → Nat → Int32} {k : Nat} {f : Nat → Int32} : um M k f k = f := if_pos rfl
theorem um_off {M : Nat → Nat → Int32} {k a : Nat} {f : Nat → Int32} (h : a ≠ k) : um M k f a = M a := if_neg h
theorem upd_at {f : Nat → Int32} {k : Nat} {v : Int32} : upd f k v k = v := if_pos rfl
theorem upd_off {f : Nat → Int32} {k a : Nat} {v : Int32} (h : a ≠ k) : upd f k v a = f a := if_neg h
theorem money_nat {x : Int32} (h : sp_X2_isMoney x = true) : 1 ≤ x.toInt ∧ x.toInt ≤ 100000 := by
  rw [← mM, in_iff] at h
  have h1 : (1 : Int32).toInt = 1 := rfl
  have h2 : (100000 : Int32).toInt = 100000 := rfl
  rw [h1, h2] at h
  exact h
theorem m_count {S : Nat → Nat → Nat → Int32} {M : Nat → Nat → Int32} {k : Nat} (r : RT S M k) (hk : k < 30) : sp_X3_countBids M (nI k) = sp_X1_countStanding (S 1 k) (S 2 k) := by
  have key : ∀ j, j ≤ 7 → sp_X3_countBids_L4 M (nI k) j = sp_X1_countStanding_L4 (S 1 k) (S 2 k) j := by
    intro j
    induction j with
    | zero => intro _; rfl
    | succ j ih =>
      intro hj
      rw [show sp_X3_countBids_L4 M (nI k) (j + 1) = if sp_X3_stands M (nI k) (nI j) = true then ((sp_X3_countBids_L4 M (nI k) j) + 1) else ((sp_X3_countBids_L4 M (nI k) j) + 0) from rfl, show sp_X1_countStanding_L4 (S 1 k) (S 2 k) (j + 1) = if sp_X1_isStanding (S 1 k) (S 2 k) (nI j) = true then ((sp_X1_countStanding_L4 (S 1 k) (S 2 k) j) + 1) else (sp_X1_countStanding_L4 (S 1 k) (S 2 k) j) from rfl, m_stand r hk (by omega), ih (by omega), Int32.add_zero]
  exact key 7 (Nat.le_refl _)
theorem step_setMark {n d c : Nat} {S : Nat → Nat → Nat → Int32} {M : Nat → Nat → Int32} (R : Rel n d S M c) (hc : c < 1000) (p0 : Int32) : StepW (sp_X2_setMark S p0).1 ((sp_X2_setMark S p0).2.1) ((sp_X3_setMark M p0).1) ((sp_X3_setMark M p0).2.1) (Rel n d ((sp_X2_setMark S p0).2.2) ((sp_X3_setMark M p0).2.2) (c + 1)) (Rel n d S ((sp_X3_setMark M p0).2.2) (c + 1)) := by
  have e1 : (1 : Int32).toInt = 1 := rfl
  have e2 : (1000 : Int32).toInt = 1000 := rfl
  unfold sp_X2_setMark sp_X3_setMark
  by_cases h : sp_X3_in p0 1 1000 = true
  · have h9 := in_iff.mp h
    rw [e1, e2] at h9
    have h1 : ¬ p0 < 1 := fun q => by have := Int32.lt_iff_toInt_lt.mp q; omega
    have h2 : p0 ≤ 1000 := Int32.le_iff_toInt_le.mpr (by omega)
    simp only [if_pos h, if_neg h1, if_pos h2]
    refine StepW.ret R.2.2.2.2.1 (R.other (fun a b ha => ?_) (fun a h1 h2 => um_off h1) ?_ (fun b hb => ?_))
    · unfold us; rw [if_neg (by omega)]
    · rw [um_at]; unfold us; rw [if_pos ⟨rfl, rfl⟩]
    · rw [um_off (by decide)]; unfold us; rw [if_neg (by omega)]; exact R.2.2.2.2.2.1 b hb
  · simp only [if_neg h]
    by_cases h1 : p0 < 1
    · simp only [if_pos h1]; exact StepW.thr (by decide) R.mono
    · have h2 : ¬ p0 ≤ 1000 := fun q => h (in_iff.mpr (by
        have := Int32.le_iff_toInt_le.mp q
        have h3 : ¬ p0.toInt < (1 : Int32).toInt := fun z => h1 (Int32.lt_iff_toInt_lt.mpr z)
        omega))
      simp only [if_neg h1, if_neg h2]; exact StepW.thr (by decide) R.mono
theorem step_compensate {n d c : Nat} {S : Nat → Nat → Nat → Int32} {M : Nat → Nat → Int32} (R : Rel n d S M c) (hc : c < 1000) (p0 p1 : Int32) : StepW (sp_X2_compensate S p0 p1).1 ((sp_X2_compensate S p0 p1).2.1) ((sp_X3_compensate M p0 p1).1) ((sp_X3_compensate M p0 p1).2.1) (Rel n d ((sp_X2_compensate S p0 p1).2.2) ((sp_X3_compensate M p0 p1).2.2) (c + 1)) (Rel n d S ((sp_X3_compensate M p0 p1).2.2) (c + 1)) := by
  unfold sp_X2_compensate sp_X3_compensate
  rw [mB, mM]
  by_cases h : sp_X2_isBidder p0 = true
  · by_cases h2 : sp_X2_isMoney p1 = true
    · simp only [if_pos h, if_pos h2]
      obtain ⟨b, hb, rfl⟩ := isB_ex h
      rw [nI_clamp (by omega)]
      have e := R.2.2.2.2.2.1 b hb
      refine StepW.ret (by rw [upd_at, upd_at, e]) (R.other (fun a b ha => ?_) (fun a h1 h2 => um_off h2) ?_ (fun x hx => ?_))
      · unfold us; rw [if_neg (by omega)]
      · rw [um_off (by decide)]; unfold us; rw [if_neg (by omega)]; exact R.2.2.2.2.1
      · rw [um_at]; unfold us; rw [if_pos ⟨rfl, rfl⟩]
        by_cases ex : x = b
        · subst ex; rw [upd_at, upd_at, e]
        · rw [upd_off ex, upd_off ex]; exact R.2.2.2.2.2.1 x hx
    · simp only [if_pos h, if_neg h2]; exact StepW.thr (by decide) R.mono
  · simp only [if_neg h]; exact StepW.thr (by decide) R.mono
