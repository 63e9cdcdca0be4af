/-! a tender's own steps -/
theorem setT_1 {S : Nat → Nat → Nat → Int32} {k : Nat} {su go : Nat → Int32} {dec win par prt : Int32} : setT S k su go dec win par prt 1 k = su := by simp [setT]
theorem setT_2 {S : Nat → Nat → Nat → Int32} {k : Nat} {su go : Nat → Int32} {dec win par prt : Int32} : setT S k su go dec win par prt 2 k = go := by simp [setT]
theorem setT_3 {S : Nat → Nat → Nat → Int32} {k x : Nat} {su go : Nat → Int32} {dec win par prt : Int32} : setT S k su go dec win par prt 3 k x = dec := by simp [setT]
theorem setT_4 {S : Nat → Nat → Nat → Int32} {k x : Nat} {su go : Nat → Int32} {dec win par prt : Int32} : setT S k su go dec win par prt 4 k x = win := by simp [setT]
theorem setT_5 {S : Nat → Nat → Nat → Int32} {k x : Nat} {su go : Nat → Int32} {dec win par prt : Int32} : setT S k su go dec win par prt 5 k x = par := by simp [setT]
theorem setT_6 {S : Nat → Nat → Nat → Int32} {k x : Nat} {su go : Nat → Int32} {dec win par prt : Int32} : setT S k su go dec win par prt 6 k x = prt := by simp [setT]
theorem m_open {x : Int32} : sp_X1_isOpen x = true ↔ x = 0 := by
  unfold sp_X1_isOpen
  by_cases h : x = 0
  · rw [if_pos h]; exact ⟨fun _ => h, fun _ => rfl⟩
  · rw [if_neg h]; exact ⟨fun q => by simp at q, fun q => absurd q h⟩
theorem m_hasBid {S : Nat → Nat → Nat → Int32} {k b : Nat} (hb : b < 7) : sp_X1_hasBidOf (S 1 k) (nI b) = true ↔ ¬ S 1 k b ≤ 0 := by
  unfold sp_X1_hasBidOf
  rw [if_pos (isB_nI hb), nI_clamp (by omega)]
  by_cases h : S 1 k b ≤ 0
  · rw [if_pos h]; exact ⟨fun q => by simp at q, fun q => absurd h q⟩
  · rw [if_neg h]; exact ⟨fun _ => h, fun _ => rfl⟩
theorem i7 {k b j x : Nat} (hb : b < 7) (hx : x < 7) : 7 * j + x = 7 * k + b ↔ j = k ∧ x = b := by omega
theorem step_bid {n d c : Nat} {S : Nat → Nat → Nat → Int32} {M : Nat → Nat → Int32} (R : Rel n d S M c) (hc : c < 1000) (p0 p1 p2 : Int32) : StepW (sp_X2_bid n S p0 p1 p2).1 ((sp_X2_bid n S p0 p1 p2).2.1) ((sp_X3_bid M p0 p1 p2).1) ((sp_X3_bid M p0 p1 p2).2.1) (Rel n d ((sp_X2_bid n S p0 p1 p2).2.2) ((sp_X3_bid M p0 p1 p2).2.2) (c + 1)) (Rel n d S ((sp_X3_bid M p0 p1 p2).2.2) (c + 1)) := by
  unfold sp_X2_bid sp_X3_bid
  rw [R.mT, mB, mM]
  by_cases h1 : tIn n p0 = true
  case neg => simp only [if_neg h1]; exact StepW.thr (by decide) R.mono
  by_cases h2 : sp_X2_isBidder p1 = true
  case neg => simp only [if_pos h1, if_neg h2]; exact StepW.thr (by decide) R.mono
  by_cases h3 : sp_X2_isMoney p2 = true
  case neg => simp only [if_pos h1, if_pos h2, if_neg h3]; exact StepW.thr (by decide) R.mono
  have hn := R.1
  obtain ⟨k, hk, rfl⟩ := tIn_ex h1 (by omega)
  obtain ⟨b, hb, rfl⟩ := isB_ex h2
  have r := R.rt hk
  rw [ix7n (by omega) hb]
  simp only [nI_clamp (show k < 2 ^ 31 by omega), nI_clamp (show b < 2 ^ 31 by omega)]
  by_cases h4 : S 3 k 0 = 0
  case neg => simp only [if_pos h1, if_pos h2, if_pos h3, if_neg (fun q => h4 (m_open.mp q)), if_neg (fun q => h4 ((m_aw r).2.1.mp q))]; exact StepW.thr (by decide) R.mono
  have e6 := (r.1 b hb).1
  by_cases h5 : S 1 k b ≤ 0
  case neg => simp only [if_pos h1, if_pos h2, if_pos h3, if_pos (m_open.mpr h4), if_pos ((m_aw r).2.1.mpr h4), if_pos ((m_hasBid hb).mpr h5), if_neg (show ¬ M 6 (7 * k + b) ≤ 0 by rw [e6]; exact h5)]; exact StepW.thr (by decide) R.mono
  simp only [if_pos h1, if_pos h2, if_pos h3, if_pos (m_open.mpr h4), if_pos ((m_aw r).2.1.mpr h4), if_neg (fun q => (m_hasBid hb).mp q h5), if_pos (show M 6 (7 * k + b) ≤ 0 by rw [e6]; exact h5)]
  have hr : RT (setT S k (upd (S 1 k) b p2) (S 2 k) (S 3 k 0) (S 4 k 0) (S 5 k 0) (S 6 k 0)) (um M 6 (upd (M 6) (7 * k + b) p2)) k := by
    have hm := money_nat h3
    unfold RT
    simp only [setT_1, setT_2, setT_3, setT_4, setT_5, setT_6, um_at, um_off (show (2 : Nat) ≠ 6 by decide), um_off (show (3 : Nat) ≠ 6 by decide), um_off (show (4 : Nat) ≠ 6 by decide), um_off (show (5 : Nat) ≠ 6 by decide), um_off (show (7 : Nat) ≠ 6 by decide)]
    refine ⟨fun x hx => ?_, r.2⟩
    by_cases ex : x = b
    · subst ex; rw [upd_at, upd_at]; exact ⟨rfl, (r.1 x hx).2.1, by omega, by omega⟩
    · rw [upd_off ex, upd_off (fun q => ex ((i7 hb hx).mp q).2)]; exact r.1 x hx
  refine StepW.ret ?_ (R.tender hk setT_off (fun a ha => um_off (by omega)) (fun a j h1 h2 hj => by rw [um_off (by omega)]) (fun a j x ha hj hx => ?_) hr)
  · exact m_count hr (by omega)
  · rcases ha with rfl | rfl
    · rw [um_at, upd_off (fun q => hj ((i7 hb hx).mp q).1)]
    · rw [um_off (by decide)]
theorem step_withdraw {n d c : Nat} {S : Nat → Nat → Nat → Int32} {M : Nat → Nat → Int32} (R : Rel n d S M c) (hc : c < 1000) (p0 p1 : Int32) : StepW (sp_X2_withdraw n S p0 p1).1 ((sp_X2_withdraw n S p0 p1).2.1) ((sp_X3_withdraw M p0 p1).1) ((sp_X3_withdraw M p0 p1).2.1) (Rel n d ((sp_X2_withdraw n S p0 p1).2.2) ((sp_X3_withdraw M p0 p1).2.2) (c + 1)) (Rel n d S ((sp_X3_withdraw M p0 p1).2.2) (c + 1)) := by
  unfold sp_X2_withdraw sp_X3_withdraw
  rw [R.mT, mB]
  by_cases h1 : tIn n p0 = true
  case neg => simp only [if_neg h1]; exact StepW.thr (by decide) R.mono
  by_cases h2 : sp_X2_isBidder p1 = true
  case neg => simp only [if_pos h1, if_neg h2]; exact StepW.thr (by decide) R.mono
  have hn := R.1
  obtain ⟨k, hk, rfl⟩ := tIn_ex h1 (by omega)
  obtain ⟨b, hb, rfl⟩ := isB_ex h2
  have r := R.rt hk
  rw [ix7n (by omega) hb, m_stand r (by omega) hb]
  simp only [nI_clamp (show k < 2 ^ 31 by omega), nI_clamp (show b < 2 ^ 31 by omega)]
  by_cases h4 : S 3 k 0 = 0
  case neg => simp only [if_pos h1, if_pos h2, if_neg (fun q => h4 (m_open.mp q)), if_neg (fun q => h4 ((m_aw r).2.1.mp q))]; exact StepW.thr (by decide) R.mono
  by_cases h5 : sp_X1_isStanding (S 1 k) (S 2 k) (nI b) = true
  case neg => simp only [if_pos h1, if_pos h2, if_pos (m_open.mpr h4), if_pos ((m_aw r).2.1.mpr h4), if_neg h5]; exact StepW.thr (by decide) R.mono
  simp only [if_pos h1, if_pos h2, if_pos (m_open.mpr h4), if_pos ((m_aw r).2.1.mpr h4), if_pos h5]
  have hr : RT (setT S k (S 1 k) (upd (S 2 k) b 1) (S 3 k 0) (S 4 k 0) (S 5 k 0) (S 6 k 0)) (um M 7 (upd (M 7) (7 * k + b) 1)) k := by
    unfold RT
    simp only [setT_1, setT_2, setT_3, setT_4, setT_5, setT_6, um_at, um_off (show (2 : Nat) ≠ 7 by decide), um_off (show (3 : Nat) ≠ 7 by decide), um_off (show (4 : Nat) ≠ 7 by decide), um_off (show (5 : Nat) ≠ 7 by decide), um_off (show (6 : Nat) ≠ 7 by decide)]
    refine ⟨fun x hx => ?_, r.2⟩
    by_cases ex : x = b
    · subst ex; rw [upd_at, upd_at]; exact ⟨(r.1 x hx).1, rfl, (r.1 x hx).2.2⟩
    · rw [upd_off ex, upd_off (fun q => ex ((i7 hb hx).mp q).2)]; exact r.1 x hx
  refine StepW.ret ?_ (R.tender hk setT_off (fun a ha => um_off (by omega)) (fun a j h1 h2 hj => by rw [um_off (by omega)]) (fun a j x ha hj hx => ?_) hr)
  · rw [setT_1, m_sum hb, (r.1 b hb).1]
  · rcases ha with rfl | rfl
    · rw [um_off (by decide)]
    · rw [um_at, upd_off (fun q => hj ((i7 hb hx).mp q).1)]
theorem m_decide {S : Nat → Nat → Nat → Int32} {M : Nat → Nat → Int32} {k : Nat} (r : RT S M k) (hk : k < 30) : sp_X3_award_L38 M (nI k) 7 = sp_X1_decide_L4 (S 1 k) (S 2 k) 7 ∧ (sp_X1_decide_L4 (S 1 k) (S 2 k) 7 = -1 ∨ ∃ w, w < 7 ∧ sp_X1_decide_L4 (S 1 k) (S 2 k) 7 = nI w) := by
  have key : ∀ j, j ≤ 7 → sp_X3_award_L38 M (nI k) j = sp_X1_decide_L4 (S 1 k) (S 2 k) j ∧ (sp_X1_decide_L4 (S 1 k) (S 2 k) j = -1 ∨ ∃ w, w < j ∧ sp_X1_decide_L4 (S 1 k) (S 2 k) j = nI w) := by
    intro j
    induction j with
    | zero => intro _; exact ⟨rfl, Or.inl rfl⟩
    | succ j ih =>
      intro hj
      obtain ⟨i1, i2⟩ := ih (by omega)
      have i2' : sp_X1_decide_L4 (S 1 k) (S 2 k) j = -1 ∨ ∃ w, w < j + 1 ∧ sp_X1_decide_L4 (S 1 k) (S 2 k) j = nI w := i2.imp id (fun ⟨w, h1, h2⟩ => ⟨w, by omega, h2⟩)
      rw [show sp_X3_award_L38 M (nI k) (j + 1) = if (sp_X3_award_L38 M (nI k) j) = (-1) then (if sp_X3_stands M (nI k) (nI j) = true then (nI j) else (sp_X3_award_L38 M (nI k) j)) else (if ((M 6) (((7 * (nI k)) + (sp_X3_award_L38 M (nI k) j)).toNatClampNeg)) ≤ ((M 6) (((7 * (nI k)) + (nI j)).toNatClampNeg)) then (if sp_X3_stands M (nI k) (nI j) = true then (sp_X3_award_L38 M (nI k) j) else (sp_X3_award_L38 M (nI k) j)) else (if sp_X3_stands M (nI k) (nI j) = true then (nI j) else (sp_X3_award_L38 M (nI k) j))) from rfl,
        show sp_X1_decide_L4 (S 1 k) (S 2 k) (j + 1) = if sp_X1_isStanding (S 1 k) (S 2 k) (nI j) = true then (if (sp_X1_decide_L4 (S 1 k) (S 2 k) j) = (-1) then (nI j) else (if (sp_X1_sumOf (S 1 k) (sp_X1_decide_L4 (S 1 k) (S 2 k) j)) ≤ (sp_X1_sumOf (S 1 k) (nI j)) then (sp_X1_decide_L4 (S 1 k) (S 2 k) j) else (nI j))) else (sp_X1_decide_L4 (S 1 k) (S 2 k) j) from rfl, i1, m_stand r hk (by omega), ix7n hk (by omega), m_sum (show j < 7 by omega), (r.1 j (by omega)).1]
      by_cases hs : sp_X1_isStanding (S 1 k) (S 2 k) (nI j) = true
      · simp only [if_pos hs]
        by_cases hm : sp_X1_decide_L4 (S 1 k) (S 2 k) j = -1
        · simp only [if_pos hm]; exact ⟨trivial, Or.inr ⟨j, by omega, rfl⟩⟩
        · simp only [if_neg hm]
          rcases i2 with z | ⟨w, hw, z⟩
          · exact absurd z hm
          · rw [z, ix7n hk (by omega), m_sum (show w < 7 by omega), (r.1 w (by omega)).1]
            by_cases hle : S 1 k w ≤ S 1 k j
            · simp only [if_pos hle]; exact ⟨trivial, Or.inr ⟨w, by omega, rfl⟩⟩
            · simp only [if_neg hle]; exact ⟨trivial, Or.inr ⟨j, by omega, rfl⟩⟩
      · simp only [if_neg hs, ite_self]; exact ⟨trivial, i2'⟩
  exact key 7 (Nat.le_refl _)
theorem step_award {n d c : Nat} {S : Nat → Nat → Nat → Int32} {M : Nat → Nat → Int32} (R : Rel n d S M c) (hc : c < 1000) (p0 : Int32) : StepW (sp_X2_award n S p0).1 ((sp_X2_award n S p0).2.1) ((sp_X3_award M p0).1) ((sp_X3_award M p0).2.1) (Rel n d ((sp_X2_award n S p0).2.2) ((sp_X3_award M p0).2.2) (c + 1)) (Rel n d S ((sp_X3_award M p0).2.2) (c + 1)) := by
  unfold sp_X2_award sp_X3_award
  rw [R.mT]
  by_cases h1 : tIn n p0 = true
  case neg => simp only [if_neg h1]; exact StepW.thr (by decide) R.mono
  have hn := R.1
  obtain ⟨k, hk, rfl⟩ := tIn_ex h1 (by omega)
  have r := R.rt hk
  simp only [nI_clamp (show k < 2 ^ 31 by omega)]
  by_cases h4 : S 3 k 0 = 0
  case neg => simp only [if_pos h1, if_neg (fun q => h4 (m_open.mp q)), if_neg (fun q => h4 ((m_aw r).2.1.mp q))]; exact StepW.thr (by decide) R.mono
  obtain ⟨d1, d2⟩ := m_decide r (by omega)
  rw [d1]
  generalize sp_X1_decide_L4 (S 1 k) (S 2 k) 7 = w at d2 ⊢
  simp only [if_pos h1, if_pos (m_open.mpr h4), if_pos ((m_aw r).2.1.mpr h4)]
  have hr : ∀ st : Int32, st = (if w = -1 then 2 else 1) → RT (setT S k (S 1 k) (S 2 k) 1 w (S 5 k 0) (S 6 k 0)) (um (um M 2 (upd (M 2) k st)) 3 (upd (M 3) k w)) k := by
    intro st hst
    have e4 : S 4 k 0 = -1 := r.2.2.2.2.2.1 h4
    have e5 : S 5 k 0 = -1 := r.2.2.2.2.2.2.1 e4
    unfold RT
    simp only [setT_1, setT_2, setT_3, setT_4, setT_5, setT_6, um_at, um_off (show (2 : Nat) ≠ 3 by decide), um_off (show (4 : Nat) ≠ 3 by decide), um_off (show (5 : Nat) ≠ 3 by decide), um_off (show (6 : Nat) ≠ 3 by decide), um_off (show (7 : Nat) ≠ 3 by decide), um_off (show (4 : Nat) ≠ 2 by decide), um_off (show (5 : Nat) ≠ 2 by decide), um_off (show (6 : Nat) ≠ 2 by decide), um_off (show (7 : Nat) ≠ 2 by decide), upd_at]
    exact ⟨r.1, by rw [hst, if_neg (show ¬ (1 : Int32) = 0 by decide)], fun _ => trivial, r.2.2.2.1, r.2.2.2.2.1, fun q => absurd q (by decide), fun _ => e5, r.2.2.2.2.2.2.2.1, d2, Or.inl e5⟩
  have fin : ∀ st : Int32, st = (if w = -1 then 2 else 1) → Rel n d (setT S k (S 1 k) (S 2 k) 1 w (S 5 k 0) (S 6 k 0)) (um (um M 2 (upd (M 2) k st)) 3 (upd (M 3) k w)) (c + 1) := fun st hst => R.tender hk setT_off (fun a ha => by rw [um_off (by omega), um_off (by omega)]) (fun a j h1 h2 hj => by
      by_cases a3 : a = 3
      · subst a3; rw [um_at, upd_off hj]
      · rw [um_off a3]
        by_cases a2 : a = 2
        · subst a2; rw [um_at, upd_off hj]
        · rw [um_off a2]) (fun a j x ha hj hx => by rw [um_off (by omega), um_off (by omega)]) (hr st hst)
  by_cases hw : w = -1
  · simp only [if_pos hw]
    exact StepW.ret (by unfold sp_X1_winner; rw [setT_4]) (fin 2 (by rw [if_pos hw]))
  · simp only [if_neg hw]
    exact StepW.ret (by unfold sp_X1_winner; rw [setT_4]) (fin 1 (by rw [if_neg hw]))
theorem step_passOn {n d c : Nat} {S : Nat → Nat → Nat → Int32} {M : Nat → Nat → Int32} (R : Rel n d S M c) (hc : c < 1000) (p0 p1 p2 : Int32) : StepW (sp_X2_passOn n S p0 p1 p2).1 ((sp_X2_passOn n S p0 p1 p2).2.1) ((sp_X3_passOn M p0 p1 p2).1) ((sp_X3_passOn M p0 p1 p2).2.1) (Rel n d ((sp_X2_passOn n S p0 p1 p2).2.2) ((sp_X3_passOn M p0 p1 p2).2.2) (c + 1)) (Rel n d S ((sp_X3_passOn M p0 p1 p2).2.2) (c + 1)) := by
  unfold sp_X2_passOn sp_X3_passOn
  rw [R.mT, mB]
  by_cases h1 : tIn n p0 = true
  case neg => simp only [if_neg h1]; exact StepW.thr (by decide) R.mono
  have hn := R.1
  obtain ⟨k, hk, rfl⟩ := tIn_ex h1 (by omega)
  have r := R.rt hk
  obtain ⟨a1, a2, a3⟩ := m_aw r
  have e5 : M 4 k = S 5 k 0 := r.2.2.2.1
  simp only [nI_clamp (show k < 2 ^ 31 by omega)]
  by_cases h4 : S 4 k 0 = -1
  · simp only [if_pos h1, if_neg (fun q => m_awd.mp q h4), if_neg (fun q => a1.mp q h4)]; exact StepW.thr (by decide) R.mono
  have h2 : sp_X1_isAwarded (S 4 k 0) = true := m_awd.mpr h4
  have h2' : M 2 k = 1 := a1.mpr h4
  obtain ⟨w, hw, e4, e3⟩ := a3 h4
  by_cases h5 : S 5 k 0 = -1
  case neg =>
    have h3 : sp_X1_isPassedOn (S 5 k 0) = true := by unfold sp_X1_isPassedOn; rw [if_neg h5]
    simp only [if_pos h1, if_pos h2, if_pos h2', if_pos h3, if_neg (show ¬ M 4 k = -1 by rw [e5]; exact h5)]; exact StepW.thr (by decide) R.mono
  have h3 : ¬ sp_X1_isPassedOn (S 5 k 0) = true := by unfold sp_X1_isPassedOn; rw [if_pos h5]; decide
  by_cases h6 : sp_X2_isBidder p1 = true
  case neg => simp only [if_pos h1, if_pos h2, if_pos h2', if_neg h3, if_pos (show M 4 k = -1 by rw [e5]; exact h5), if_neg h6]; exact StepW.thr (by decide) R.mono
  obtain ⟨b, hb, rfl⟩ := isB_ex h6
  have hpr : sp_X3_price M (nI k) = S 1 k w := m_price r (by omega) hw e3
  have hsu : sp_X1_sumOf (S 1 k) (sp_X1_winner (S 4 k 0)) = S 1 k w := by unfold sp_X1_winner; rw [e4]; exact m_sum hw
  rw [hpr, hsu]
  simp only [if_pos h1, if_pos h2, if_pos h2', if_neg h3, if_pos (show M 4 k = -1 by rw [e5]; exact h5), if_pos h6]
  unfold sp_X1_winner
  rw [e3]
  simp only [e4]
  have i1 : (1 : Int32).toInt = 1 := rfl
  by_cases h7 : nI b = nI w
  · simp only [if_pos h7, ite_self]
    exact StepW.thr (by decide) R.mono
  simp only [if_neg h7]
  by_cases h8 : sp_X3_in p2 1 (S 1 k w) = true
  case neg =>
    simp only [if_neg h8]
    by_cases h9 : p2 < 1
    · simp only [if_pos h9]; exact StepW.thr (by decide) R.mono
    · have h10 : ¬ p2 ≤ S 1 k w := fun q => h8 (in_iff.mpr (by
        have := Int32.le_iff_toInt_le.mp q
        have : ¬ p2.toInt < (1 : Int32).toInt := fun z => h9 (Int32.lt_iff_toInt_lt.mpr z)
        omega))
      simp only [if_neg h9, if_neg h10]; exact StepW.thr (by decide) R.mono
  have h9 := in_iff.mp h8
  have h10 : ¬ p2 < 1 := fun q => by have := Int32.lt_iff_toInt_lt.mp q; omega
  have h11 : p2 ≤ S 1 k w := Int32.le_iff_toInt_le.mpr h9.2
  simp only [if_pos h8, if_neg h10, if_pos h11]
  have hr : RT (setT S k (S 1 k) (S 2 k) (S 3 k 0) (nI w) (nI b) p2) (um (um M 4 (upd (M 4) k (nI b))) 5 (upd (M 5) k p2)) k := by
    unfold RT
    simp only [setT_1, setT_2, setT_3, setT_4, setT_5, setT_6, um_at, um_off (show (2 : Nat) ≠ 5 by decide), um_off (show (3 : Nat) ≠ 5 by decide), um_off (show (4 : Nat) ≠ 5 by decide), um_off (show (6 : Nat) ≠ 5 by decide), um_off (show (7 : Nat) ≠ 5 by decide), um_off (show (2 : Nat) ≠ 4 by decide), um_off (show (3 : Nat) ≠ 4 by decide), um_off (show (6 : Nat) ≠ 4 by decide), um_off (show (7 : Nat) ≠ 4 by decide), upd_at]
    refine ⟨r.1, by rw [← e4]; exact r.2.1, by rw [← e4]; exact r.2.2.1, trivial, trivial, by rw [← e4]; exact r.2.2.2.2.2.1, fun q => absurd q (nI_ne1 (by omega)), fun q => absurd q (nI_ne1 (by omega)), Or.inr ⟨w, hw, rfl⟩, Or.inr ⟨b, hb, rfl, fun q => h7 q.symm⟩⟩
  refine StepW.ret rfl (R.tender hk setT_off (fun a ha => by rw [um_off (by omega), um_off (by omega)]) (fun a j g1 g2 hj => ?_) (fun a j x ha hj hx => by rw [um_off (by omega), um_off (by omega)]) hr)
  by_cases b5 : a = 5
  · subst b5; rw [um_at, upd_off hj]
  · rw [um_off b5]
    by_cases b4 : a = 4
    · subst b4; rw [um_at, upd_off hj]
    · rw [um_off b4]
theorem step_open {n d c : Nat} {S : Nat → Nat → Nat → Int32} {M : Nat → Nat → Int32} (R : Rel n d S M c) (hc : c < 1000) : StepW (sp_X2_open n S).1 ((sp_X2_open n S).2.1) ((sp_X3_open M).1) ((sp_X3_open M).2.1) (Rel (n + 1) d ((sp_X2_open n S).2.2) ((sp_X3_open M).2.2) (c + 1)) (Rel n d S ((sp_X3_open M).2.2) (c + 1)) := by
  unfold sp_X2_open sp_X3_open
  have hn := R.1
  rw [R.2.2.1, nI_clamp (by omega)]
  by_cases h : n = 30
  · subst h
    rw [if_pos (show nI 30 = 30 from rfl), if_neg (show ¬ nI 30 < 30 by decide)]
    exact StepW.thr (show ¬ (1 : Int32) = 0 by decide) R.mono
  have h1 : ¬ nI n = 30 := fun q => h ((nI_inj' (by omega) (show 30 < 2 ^ 31 by decide)).mp q)
  have h2 : nI n < 30 := Int32.lt_iff_toInt_lt.mpr (by rw [nI_toInt (by omega), show (30 : Int32).toInt = 30 from rfl]; omega)
  rw [if_neg h1, if_pos h2]
  refine StepW.ret (by show nI n + 1 - 1 = nI n; exact Int32.add_sub_cancel _ _) ?_
  obtain ⟨g1, g2, g3, g4, g5, g6, g7, g8, g9, g10⟩ := R.mono
  show Rel (n + 1) d (setT S n (fun _ => 0) (fun _ => 0) 0 (-1) (-1) 0) (um (um M 1 (fun _ => nI n + 1)) 4 (upd (M 4) n (-1))) (c + 1)
  refine ⟨by omega, g2, by rw [um_off (by decide), um_at, nI_1], by rw [um_off (by decide), um_off (by decide)]; exact g4, by rw [um_off (by decide), um_off (by decide), setT_off _ _ (Or.inl (by decide))]; exact g5, fun b hb => by rw [um_off (by decide), um_off (by decide), setT_off _ _ (Or.inl (by decide))]; exact g6 b hb, fun k hk => ?_, fun k hk hk2 => ?_, fun j hj => (g9 j hj).congr (fun a h1 h2 => setT_off _ _ (Or.inl h1)) (fun a h1 h2 => by rw [um_off (by omega), um_off (by omega)]), fun j hj hj2 => (g10 j hj hj2).congr (fun a h1 h2 => by rw [um_off (by omega), um_off (by omega)])⟩
  · by_cases e : k = n
    · subst e
      obtain ⟨q1, q2, q3⟩ := g8 k (Nat.le_refl _) (by omega)
      unfold RT
      simp only [setT_1, setT_2, setT_3, setT_4, setT_5, setT_6, um_at, um_off (show (2 : Nat) ≠ 4 by decide), um_off (show (3 : Nat) ≠ 4 by decide), um_off (show (5 : Nat) ≠ 4 by decide), um_off (show (6 : Nat) ≠ 4 by decide), um_off (show (7 : Nat) ≠ 4 by decide), um_off (show (2 : Nat) ≠ 1 by decide), um_off (show (3 : Nat) ≠ 1 by decide), um_off (show (5 : Nat) ≠ 1 by decide), um_off (show (6 : Nat) ≠ 1 by decide), um_off (show (7 : Nat) ≠ 1 by decide), upd_at]
      exact ⟨fun b hb => ⟨(q1 b hb).1, (q1 b hb).2, by decide, by decide⟩, by simp [q2], by simp, by simp, by simp [q3], by simp, by simp, by simp, by simp, by simp⟩
    · exact (g7 k (by omega)).congr (fun a ha => setT_off _ _ (Or.inr e)) (by rw [um_off (by decide), um_off (by decide)]) (by rw [um_off (by decide), um_off (by decide)]) (by rw [um_at, upd_off e]) (by rw [um_off (by decide), um_off (by decide)]) (fun b hb => ⟨by rw [um_off (by decide), um_off (by decide)], by rw [um_off (by decide), um_off (by decide)]⟩)
  · have := g8 k (by omega) hk2
    unfold RN at this ⊢
    rw [um_off (show (2 : Nat) ≠ 4 by decide), um_off (show (2 : Nat) ≠ 1 by decide), um_off (show (5 : Nat) ≠ 4 by decide), um_off (show (5 : Nat) ≠ 1 by decide), um_off (show (6 : Nat) ≠ 4 by decide), um_off (show (6 : Nat) ≠ 1 by decide), um_off (show (7 : Nat) ≠ 4 by decide), um_off (show (7 : Nat) ≠ 1 by decide)]
    exact this
