def sp_X2_turnover (n : Nat) (S : Nat → Nat → Nat → Int32) (p0 : Int32) : Int32 := sp_X2_turnoverOf n S p0
set_option maxHeartbeats 4000000 in
set_option maxRecDepth 100000 in
theorem c_X2_turnover (l : Launch) (D : va_G) (K : Nat → ClassId) (ad : Nat → Nat → Nat) (n d : Nat) (S : Nat → Nat → Nat → Int32) (p0 : Int32) (hb7 : sp_X2_isBidder p0 = true) : PU l yX2_turnover wsX2_turnover 4 88 D K [.ref (ad 0 0), .int p0] (fun H => XP D K ad n d S H) (.int (sp_X2_turnover n S p0)) := by
  refine Met.ofW (cc := cX2_turnover) (maxL := 2) (ret := (some .int)) (by decide) rfl ?_
  intro p e s m args below meth c s₁ B hml hv
  obtain ⟨rfl, hP, hK, hE⟩ := hv
  have hx := B.exec
  have hb := B.bytes
  have hr := B.returns
  have hts := atoms_spec (ws := wsX2_turnover) B.pre
  have hown : s.vm.findClass RX2 = some m.cls := findClass_of_methodNamed B.named
  have hlocks := B.notSynchronized
  have hc : CallFix p m c cX2_turnover 2 s ([.ref (ad 0 0), .int p0] : List Value).toArray wsX2_turnover RX2 := ⟨hx, hb, hml, hown, hts⟩
  have hXP := hP
  obtain ⟨hn, hd, hP, hT, hF⟩ := hP
  have hP : va_P D vwCl (xW K ad n d S) s.heap := hP
  have hl := lv_entry ([.ref (ad 0 0), .int p0]) (n := 2) (Nat.le_of_ble_eq_true rfl)
  rw [lg_entry_eq]
  generalize (lg_sl ([.ref (ad 0 0), .int p0]) ++ List.replicate (2 - (lg_sl ([.ref (ad 0 0), .int p0])).length) Slot.unset).toArray = ls at hl ⊢
  have hl : lv_has ls 2 [(0, .ref (ad 0 0)), (1, .int p0)] := hl
  refine lv_iload_n hx hb dX2_turnover_0 rfl (lv_at hl 1 rfl) ?_
  refine pu_S (As := [.int p0]) (rest := []) hc (c_X2_isBidder l D K p0) (va_cwS 1 hts gX2_turnover_X2_isBidder rfl rfl rfl (by decide +kernel) ⟨Nat.le_of_ble_eq_true rfl, Nat.le_of_ble_eq_true rfl⟩) trivial hK hE rfl rfl hl.1 (Nat.le_of_ble_eq_true rfl) dX2_turnover_1 ⟨Nat.le_of_ble_eq_true rfl, Nat.le_of_ble_eq_true rfl⟩ ?_
  refine lb_ne (tgt := 17) hx hb dX2_turnover_4 (by decide) (fun c_4 => ?_) (fun c_4 => ?_)
  · skip
    refine lv_aload_n hx hb dX2_turnover_17 rfl (lv_at hl 0 rfl) ?_
    refine lv_iload_n hx hb dX2_turnover_18 rfl (lv_at hl 1 rfl) ?_
    refine pu_V (As := [.int p0]) (rest := []) hc (c_X2_turnoverOf l D K ad n d S p0) (cwV 1 hts gX2_turnover_X2_turnoverOf rfl rfl rfl (by decide +kernel) ⟨Nat.le_of_ble_eq_true rfl, Nat.le_of_ble_eq_true rfl⟩) hXP hK hE (va_recv hK hP (ci := 2) (q0 := 0) rfl rfl) rfl rfl hl.1 (Nat.le_of_ble_eq_true rfl) dX2_turnover_19 ⟨Nat.le_of_ble_eq_true rfl, Nat.le_of_ble_eq_true rfl⟩ ?_
    exact pu_iret hx hb hr hlocks dX2_turnover_22 (Eq.symm (rfl))
  · skip
    exact absurd hb7 (ntr c_4)

def sp_X2_won_L31 (n : Nat) (S : Nat → Nat → Nat → Int32) (p0 : Int32) : Nat → Int32
  | 0 => 0
  | k + 1 => if tIn n (nI k) = true then (if (sp_X1_winner (S 4 ((nI k).toNatClampNeg) 0)) = p0 then ((sp_X2_won_L31 n S p0 k) + 1) else (sp_X2_won_L31 n S p0 k)) else (sp_X2_won_L31 n S p0 k)
def sp_X2_won (n : Nat) (S : Nat → Nat → Nat → Int32) (p0 : Int32) : Int32 := sp_X2_won_L31 n S p0 30
set_option maxHeartbeats 4000000 in
set_option maxRecDepth 100000 in
theorem c_X2_won (l : Launch) (D : va_G) (K : Nat → ClassId) (ad : Nat → Nat → Nat) (n d : Nat) (S : Nat → Nat → Nat → Int32) (p0 : Int32) (hb7 : sp_X2_isBidder p0 = true) : PU l yX2_won wsX2_won 1 20 D K [.ref (ad 0 0), .int p0] (fun H => XP D K ad n d S H) (.int (sp_X2_won n S p0)) := by
  refine Met.ofW (cc := cX2_won) (maxL := 7) (ret := (some .int)) (by decide) rfl ?_
  intro p e s m args below meth c s₁ B hml hv
  obtain ⟨rfl, hP, hK, hE⟩ := hv
  have hx := B.exec
  have hb := B.bytes
  have hr := B.returns
  have hts := atoms_spec (ws := wsX2_won) B.pre
  have hown : s.vm.findClass RX2 = some m.cls := findClass_of_methodNamed B.named
  have hlocks := B.notSynchronized
  have hc : CallFix p m c cX2_won 7 s ([.ref (ad 0 0), .int p0] : List Value).toArray wsX2_won RX2 := ⟨hx, hb, hml, hown, hts⟩
  have hin2 : ∀ w ∈ u_ws RX2 TX2 6, w ∈ wsX2_won := by decide +kernel
  have hXP := hP
  obtain ⟨hn, hd, hP, hT, hF⟩ := hP
  have hP : va_P D vwCl (xW K ad n d S) s.heap := hP
  have hl := lv_entry ([.ref (ad 0 0), .int p0]) (n := 7) (Nat.le_of_ble_eq_true rfl)
  rw [lg_entry_eq]
  generalize (lg_sl ([.ref (ad 0 0), .int p0]) ++ List.replicate (7 - (lg_sl ([.ref (ad 0 0), .int p0])).length) Slot.unset).toArray = ls at hl ⊢
  have hl : lv_has ls 7 [(0, .ref (ad 0 0)), (1, .int p0)] := hl
  refine lv_iload_n hx hb dX2_won_0 rfl (lv_at hl 1 rfl) ?_
  refine pu_S (As := [.int p0]) (rest := []) hc (c_X2_isBidder l D K p0) (va_cwS 1 hts gX2_won_X2_isBidder rfl rfl rfl (by decide +kernel) ⟨Nat.le_of_ble_eq_true rfl, Nat.le_of_ble_eq_true rfl⟩) trivial hK hE rfl rfl hl.1 (Nat.le_of_ble_eq_true rfl) dX2_won_1 ⟨Nat.le_of_ble_eq_true rfl, Nat.le_of_ble_eq_true rfl⟩ ?_
  refine lb_ne (tgt := 17) hx hb dX2_won_4 (by decide) (fun c_4 => ?_) (fun c_4 => ?_)
  · skip
    refine lv_iconst (v := 0) hx hb dX2_won_17 (by decide) ?_
    refine lv_istore_n (lv' := [(2, .int 0), (0, .ref (ad 0 0)), (1, .int p0)]) hx hb dX2_won_18 rfl hl (by decide) rfl (fun ls hl => ?_)
    refine lv_aload_n hx hb dX2_won_19 rfl (lv_at hl 1 rfl) ?_
    refine va_get (D := D) (ci := 2) (v := .ref (ad 1 0)) (C := RX2) (T := TX2) (N := 6) hx hb hts hin2 hown hK hP 0 rfl rfl 0 (by decide) (hts (.fieldLink RX2 11 "CartelWatch" "tenders" "[LCartelWatch$Tender;") (by decide +kernel)) (fun _ h9 => h9) rfl dX2_won_20 ?_
    refine lv_astore_n (lv' := [(3, .ref (ad 1 0)), (2, .int 0), (0, .ref (ad 0 0)), (1, .int p0)]) hx hb dX2_won_23 rfl hl (by decide) rfl (fun ls hl => ?_)
    refine lv_aload_n hx hb dX2_won_24 rfl (lv_at hl 0 rfl) ?_
    refine va_alen (v := 30) hx hb hK hP 1 3 rfl rfl rfl dX2_won_25 ?_
    refine lv_istore (lv' := [(4, .int 30), (3, .ref (ad 1 0)), (2, .int 0), (0, .ref (ad 0 0)), (1, .int p0)]) hx hb dX2_won_26 hl (by decide) rfl (fun ls hl => ?_)
    refine W.eq (g2 := F0 m 28 ls []) rfl ?_
    refine lv_iconst (v := 0) hx hb dX2_won_28 (by decide) ?_
    refine lv_istore (lv' := [(5, .int 0), (4, .int 30), (3, .ref (ad 1 0)), (2, .int 0), (0, .ref (ad 0 0)), (1, .int p0)]) hx hb dX2_won_29 hl (by decide) rfl (fun ls hl => ?_)
    have hloop_31 : ∀ (n31 k : Nat), k ≤ 30 → 30 + 1 ≤ k + n31 → ∀ (a31_2 x31 : Int32) (ls : Array Slot), a31_2 = sp_X2_won_L31 n S p0 k → x31 = nI k → lv_has ls 7 [(0, .ref (ad 0 0)), (1, .int p0), (2, .int a31_2), (3, .ref (ad 1 0)), (4, .int 30), (5, .int x31)] → W p l e ({ frames := 1, cells := 0, slots := 0, locals := 20 } : Room) s m ([.ref (ad 0 0), .int p0] : List Value).toArray below meth c s.heap [] 0 0 (MQ below (QcV (.int (sp_X2_won n S p0))) ([.ref (ad 0 0), .int p0] : List Value).toArray s 0 0 (fun _ => False)) (F0 m 31 ls []) := by
      intro n31
      induction n31 with
      | zero => intro k h1 h2; exact absurd h2 (by omega)
      | succ n31 ih_31 =>
        intro k hk_31 hn_31 a31_2 x31 ls ea31_2 ex31 hl
        subst ea31_2
        subst ex31
        refine lv_iload hx hb dX2_won_31 (lv_at hl 5 rfl) ?_
        refine lv_iload hx hb dX2_won_33 (lv_at hl 4 rfl) ?_
        refine lv_icmp_ge (tgt := 67) hx hb dX2_won_35 (by decide) (fun c_35 => ?_) (fun c_35 => ?_)
        · skip
          have hke_31 : 30 = k := (lp_end rfl c_35 hk_31 (by decide)).symm
          subst hke_31
          refine lv_iload_n hx hb dX2_won_67 rfl (lv_at hl 2 rfl) ?_
          exact pu_iret hx hb hr hlocks dX2_won_68 (Eq.symm (rfl))
        · skip
          have hlt_31 : k < 30 := lp_in rfl c_35 hk_31 (by decide)
          refine lv_aload_n hx hb dX2_won_38 rfl (lv_at hl 3 rfl) ?_
          refine lv_iload hx hb dX2_won_39 (lv_at hl 5 rfl) ?_
          refine va_aldq hx hb hK hP 1 3 (cA := K 3) rfl rfl (vp_in_nI hlt_31 (by decide)) dX2_won_41 ?_
          rcases tArr_or (x := (nI k)) (vp_in_nI hlt_31 (by decide)) with ⟨hs_41, qs_41⟩ | ⟨hs_41, qs_41⟩
          · skip
            refine W.eq (g2 := F0 m 42 ls [.ref (ad 4 ((nI k).toNatClampNeg))]) (by rw [qs_41]; rfl) ?_
            refine W.eq (g2 := F0 m 42 ls [.ref (ad 4 ((nI k).toNatClampNeg))]) rfl ?_
            refine lv_astore (lv' := [(6, .ref (ad 4 ((nI k).toNatClampNeg))), (0, .ref (ad 0 0)), (1, .int p0), (2, .int (sp_X2_won_L31 n S p0 k)), (3, .ref (ad 1 0)), (4, .int 30), (5, .int (nI k))]) hx hb dX2_won_42 hl (by decide) rfl (fun ls hl => ?_)
            refine lv_aload hx hb dX2_won_44 (lv_at hl 0 rfl) ?_
            refine lv_ifnull hx hb dX2_won_46 ?_
            refine lv_aload hx hb dX2_won_49 (lv_at hl 0 rfl) ?_
            refine pu_V (As := []) (rest := []) hc (c_X1_winner l D K (ad 4 ((nI k).toNatClampNeg)) (ad 5 ((nI k).toNatClampNeg)) (ad 6 ((nI k).toNatClampNeg)) (S 1 ((nI k).toNatClampNeg)) (S 2 ((nI k).toNatClampNeg)) (S 3 ((nI k).toNatClampNeg) 0) (S 4 ((nI k).toNatClampNeg) 0) (S 5 ((nI k).toNatClampNeg) 0) (S 6 ((nI k).toNatClampNeg) 0)) (cwV 0 hts gX2_won_X1_winner rfl rfl rfl (by decide +kernel) ⟨Nat.le_of_ble_eq_true rfl, Nat.le_of_ble_eq_true rfl⟩) (hT ((nI k).toNatClampNeg) (tIn_lt hs_41 (by omega))) hK hE (va_recv hK (hT ((nI k).toNatClampNeg) (tIn_lt hs_41 (by omega))) (ci := 1) (q0 := 0) rfl rfl) rfl rfl hl.1 (Nat.le_of_ble_eq_true rfl) dX2_won_51 ⟨Nat.le_of_ble_eq_true rfl, Nat.le_of_ble_eq_true rfl⟩ ?_
            refine lv_iload_n hx hb dX2_won_54 rfl (lv_at hl 2 rfl) ?_
            refine lv_icmp_ne (tgt := 61) hx hb dX2_won_55 (by decide) (fun c_55 => ?_) (fun c_55 => ?_)
            · skip
              refine lv_iinc (v := (nI k) + 1) (lv' := [(5, .int ((nI k) + 1)), (6, .ref (ad 4 ((nI k).toNatClampNeg))), (0, .ref (ad 0 0)), (1, .int p0), (2, .int (sp_X2_won_L31 n S p0 k)), (3, .ref (ad 1 0)), (4, .int 30)]) hx hb dX2_won_61 hl (k := 6) rfl (rfl) (by decide) rfl (fun ls hl => ?_)
              refine lv_goto (tgt := 31) hx hb dX2_won_64 (by decide) ?_
              exact ih_31 (k + 1) hlt_31 (by omega) _ _ ls (Eq.symm (Eq.trans (if_pos hs_41) (Eq.trans (if_neg c_55) (rfl)))) (nI_1 k) (lv_sub hl [2, 3, 4, 5, 6, 0] rfl)
            · skip
              refine lv_iinc (v := (sp_X2_won_L31 n S p0 k) + 1) (lv' := [(2, .int ((sp_X2_won_L31 n S p0 k) + 1)), (6, .ref (ad 4 ((nI k).toNatClampNeg))), (0, .ref (ad 0 0)), (1, .int p0), (3, .ref (ad 1 0)), (4, .int 30), (5, .int (nI k))]) hx hb dX2_won_58 hl (k := 3) rfl (rfl) (by decide) rfl (fun ls hl => ?_)
              refine W.eq (g2 := F0 m 61 ls []) rfl ?_
              refine lv_iinc (v := (nI k) + 1) (lv' := [(5, .int ((nI k) + 1)), (2, .int ((sp_X2_won_L31 n S p0 k) + 1)), (6, .ref (ad 4 ((nI k).toNatClampNeg))), (0, .ref (ad 0 0)), (1, .int p0), (3, .ref (ad 1 0)), (4, .int 30)]) hx hb dX2_won_61 hl (k := 6) rfl (rfl) (by decide) rfl (fun ls hl => ?_)
              refine lv_goto (tgt := 31) hx hb dX2_won_64 (by decide) ?_
              exact ih_31 (k + 1) hlt_31 (by omega) _ _ ls (Eq.symm (Eq.trans (if_pos hs_41) (Eq.trans (if_pos c_55) (rfl)))) (nI_1 k) (lv_sub hl [3, 4, 1, 5, 6, 0] rfl)
          · skip
            refine W.eq (g2 := F0 m 42 ls [.null]) (by rw [qs_41]; rfl) ?_
            refine W.eq (g2 := F0 m 42 ls [.null]) rfl ?_
            refine lv_astoreN (lv' := [(6, .null), (0, .ref (ad 0 0)), (1, .int p0), (2, .int (sp_X2_won_L31 n S p0 k)), (3, .ref (ad 1 0)), (4, .int 30), (5, .int (nI k))]) hx hb dX2_won_42 hl (by decide) rfl (fun ls hl => ?_)
            refine lv_aloadN hx hb dX2_won_44 (lv_at hl 0 rfl) ?_
            refine lv_ifnullN (tgt := 61) hx hb dX2_won_46 (by decide) ?_
            refine lv_iinc (v := (nI k) + 1) (lv' := [(5, .int ((nI k) + 1)), (6, .null), (0, .ref (ad 0 0)), (1, .int p0), (2, .int (sp_X2_won_L31 n S p0 k)), (3, .ref (ad 1 0)), (4, .int 30)]) hx hb dX2_won_61 hl (k := 6) rfl (rfl) (by decide) rfl (fun ls hl => ?_)
            refine lv_goto (tgt := 31) hx hb dX2_won_64 (by decide) ?_
            exact ih_31 (k + 1) hlt_31 (by omega) _ _ ls (Eq.symm (Eq.trans (if_neg (ntr hs_41)) (rfl))) (nI_1 k) (lv_sub hl [2, 3, 4, 5, 6, 0] rfl)
    exact hloop_31 (30 + 1) 0 (Nat.zero_le _) (by omega) _ _ ls rfl nI_0.symm (lv_sub hl [4, 5, 3, 2, 1, 0] rfl)
  · skip
    exact absurd hb7 (ntr c_4)

def sp_X2_suspicion (n : Nat) (S : Nat → Nat → Nat → Int32) (p0 : Int32) (p1 : Int32) : Int32 := sp_X2_suspicionOf n S p0 p1
set_option maxHeartbeats 4000000 in
set_option maxRecDepth 100000 in
theorem c_X2_suspicion (l : Launch) (D : va_G) (K : Nat → ClassId) (ad : Nat → Nat → Nat) (n d : Nat) (S : Nat → Nat → Nat → Int32) (p0 p1 : Int32) (hpr : sp_X2_isPair p0 p1 = true) : PU l yX2_suspicion wsX2_suspicion 6 136 D K [.ref (ad 0 0), .int p0, .int p1] (fun H => XP D K ad n d S H) (.int (sp_X2_suspicion n S p0 p1)) := by
  refine Met.ofW (cc := cX2_suspicion) (maxL := 3) (ret := (some .int)) (by decide) rfl ?_
  intro p e s m args below meth c s₁ B hml hv
  obtain ⟨rfl, hP, hK, hE⟩ := hv
  have hx := B.exec
  have hb := B.bytes
  have hr := B.returns
  have hts := atoms_spec (ws := wsX2_suspicion) B.pre
  have hown : s.vm.findClass RX2 = some m.cls := findClass_of_methodNamed B.named
  have hlocks := B.notSynchronized
  have hc : CallFix p m c cX2_suspicion 3 s ([.ref (ad 0 0), .int p0, .int p1] : List Value).toArray wsX2_suspicion RX2 := ⟨hx, hb, hml, hown, hts⟩
  have hXP := hP
  obtain ⟨hn, hd, hP, hT, hF⟩ := hP
  have hP : va_P D vwCl (xW K ad n d S) s.heap := hP
  have hl := lv_entry ([.ref (ad 0 0), .int p0, .int p1]) (n := 3) (Nat.le_of_ble_eq_true rfl)
  rw [lg_entry_eq]
  generalize (lg_sl ([.ref (ad 0 0), .int p0, .int p1]) ++ List.replicate (3 - (lg_sl ([.ref (ad 0 0), .int p0, .int p1])).length) Slot.unset).toArray = ls at hl ⊢
  have hl : lv_has ls 3 [(0, .ref (ad 0 0)), (1, .int p0), (2, .int p1)] := hl
  refine lv_iload_n hx hb dX2_suspicion_0 rfl (lv_at hl 1 rfl) ?_
  refine lv_iload_n hx hb dX2_suspicion_1 rfl (lv_at hl 2 rfl) ?_
  refine pu_S (As := [.int p0, .int p1]) (rest := []) hc (c_X2_isPair l D K p0 p1) (va_cwS 2 hts gX2_suspicion_X2_isPair rfl rfl rfl (by decide +kernel) ⟨Nat.le_of_ble_eq_true rfl, Nat.le_of_ble_eq_true rfl⟩) trivial hK hE rfl rfl hl.1 (Nat.le_of_ble_eq_true rfl) dX2_suspicion_2 ⟨Nat.le_of_ble_eq_true rfl, Nat.le_of_ble_eq_true rfl⟩ ?_
  refine lb_ne (tgt := 18) hx hb dX2_suspicion_5 (by decide) (fun c_5 => ?_) (fun c_5 => ?_)
  · skip
    refine lv_aload_n hx hb dX2_suspicion_18 rfl (lv_at hl 0 rfl) ?_
    refine lv_iload_n hx hb dX2_suspicion_19 rfl (lv_at hl 1 rfl) ?_
    refine lv_iload_n hx hb dX2_suspicion_20 rfl (lv_at hl 2 rfl) ?_
    refine pu_V (As := [.int p0, .int p1]) (rest := []) hc (c_X2_suspicionOf l D K ad n d S p0 p1) (cwV 2 hts gX2_suspicion_X2_suspicionOf rfl rfl rfl (by decide +kernel) ⟨Nat.le_of_ble_eq_true rfl, Nat.le_of_ble_eq_true rfl⟩) hXP hK hE (va_recv hK hP (ci := 2) (q0 := 0) rfl rfl) rfl rfl hl.1 (Nat.le_of_ble_eq_true rfl) dX2_suspicion_21 ⟨Nat.le_of_ble_eq_true rfl, Nat.le_of_ble_eq_true rfl⟩ ?_
    exact pu_iret hx hb hr hlocks dX2_suspicion_24 (Eq.symm (rfl))
  · skip
    exact absurd hpr (ntr c_5)

def sp_X2_sign (n : Nat) (S : Nat → Nat → Nat → Int32) (p0 : Int32) (p1 : Int32) (p2 : Int32) : Int32 := sp_X2_countOf n S p0 p1 p2
set_option maxHeartbeats 4000000 in
set_option maxRecDepth 100000 in
theorem c_X2_sign (l : Launch) (D : va_G) (K : Nat → ClassId) (ad : Nat → Nat → Nat) (n d : Nat) (S : Nat → Nat → Nat → Int32) (p0 p1 p2 : Int32) (htn : tIn n p0 = true) (hpr : sp_X2_isPair p1 p2 = true) : PU l yX2_sign wsX2_sign 5 112 D K [.ref (ad 0 0), .int p0, .int p1, .int p2] (fun H => XP D K ad n d S H) (.int (sp_X2_sign n S p0 p1 p2)) := by
  refine Met.ofW (cc := cX2_sign) (maxL := 4) (ret := (some .int)) (by decide) rfl ?_
  intro p e s m args below meth c s₁ B hml hv
  obtain ⟨rfl, hP, hK, hE⟩ := hv
  have hx := B.exec
  have hb := B.bytes
  have hr := B.returns
  have hts := atoms_spec (ws := wsX2_sign) B.pre
  have hown : s.vm.findClass RX2 = some m.cls := findClass_of_methodNamed B.named
  have hlocks := B.notSynchronized
  have hc : CallFix p m c cX2_sign 4 s ([.ref (ad 0 0), .int p0, .int p1, .int p2] : List Value).toArray wsX2_sign RX2 := ⟨hx, hb, hml, hown, hts⟩
  have hXP := hP
  obtain ⟨hn, hd, hP, hT, hF⟩ := hP
  have hP : va_P D vwCl (xW K ad n d S) s.heap := hP
  have hl := lv_entry ([.ref (ad 0 0), .int p0, .int p1, .int p2]) (n := 4) (Nat.le_of_ble_eq_true rfl)
  rw [lg_entry_eq]
  generalize (lg_sl ([.ref (ad 0 0), .int p0, .int p1, .int p2]) ++ List.replicate (4 - (lg_sl ([.ref (ad 0 0), .int p0, .int p1, .int p2])).length) Slot.unset).toArray = ls at hl ⊢
  have hl : lv_has ls 4 [(0, .ref (ad 0 0)), (1, .int p0), (2, .int p1), (3, .int p2)] := hl
  refine lv_aload_n hx hb dX2_sign_0 rfl (lv_at hl 0 rfl) ?_
  refine lv_iload_n hx hb dX2_sign_1 rfl (lv_at hl 1 rfl) ?_
  refine pu_V (As := [.int p0]) (rest := []) hc (c_X2_tenderAt l D K ad n d S p0) (cwV 1 hts gX2_sign_X2_tenderAt rfl rfl rfl (by decide +kernel) ⟨Nat.le_of_ble_eq_true rfl, Nat.le_of_ble_eq_true rfl⟩) hXP hK hE (va_recv hK hP (ci := 2) (q0 := 0) rfl rfl) rfl rfl hl.1 (Nat.le_of_ble_eq_true rfl) dX2_sign_2 ⟨Nat.le_of_ble_eq_true rfl, Nat.le_of_ble_eq_true rfl⟩ ?_
  rcases tAt_or (ad := ad) (x := p0) hn with ⟨hs_2, qs_2⟩ | ⟨hs_2, qs_2⟩
  · skip
    refine W.eq (g2 := F0 m 5 ls [.ref (ad 4 p0.toNatClampNeg)]) (by rw [qs_2]; rfl) ?_
    refine lv_ifnonnull (tgt := 18) hx hb dX2_sign_5 (by decide) ?_
    refine lv_iload_n hx hb dX2_sign_18 rfl (lv_at hl 2 rfl) ?_
    refine lv_iload_n hx hb dX2_sign_19 rfl (lv_at hl 3 rfl) ?_
    refine pu_S (As := [.int p1, .int p2]) (rest := []) hc (c_X2_isPair l D K p1 p2) (va_cwS 2 hts gX2_sign_X2_isPair rfl rfl rfl (by decide +kernel) ⟨Nat.le_of_ble_eq_true rfl, Nat.le_of_ble_eq_true rfl⟩) trivial hK hE rfl rfl hl.1 (Nat.le_of_ble_eq_true rfl) dX2_sign_20 ⟨Nat.le_of_ble_eq_true rfl, Nat.le_of_ble_eq_true rfl⟩ ?_
    refine lb_ne (tgt := 36) hx hb dX2_sign_23 (by decide) (fun c_23 => ?_) (fun c_23 => ?_)
    · skip
      refine lv_aload_n hx hb dX2_sign_36 rfl (lv_at hl 0 rfl) ?_
      refine lv_iload_n hx hb dX2_sign_37 rfl (lv_at hl 1 rfl) ?_
      refine lv_iload_n hx hb dX2_sign_38 rfl (lv_at hl 2 rfl) ?_
      refine lv_iload_n hx hb dX2_sign_39 rfl (lv_at hl 3 rfl) ?_
      refine pu_V (As := [.int p0, .int p1, .int p2]) (rest := []) hc (c_X2_countOf l D K ad n d S p0 p1 p2) (cwV 3 hts gX2_sign_X2_countOf rfl rfl rfl (by decide +kernel) ⟨Nat.le_of_ble_eq_true rfl, Nat.le_of_ble_eq_true rfl⟩) hXP hK hE (va_recv hK hP (ci := 2) (q0 := 0) rfl rfl) rfl rfl hl.1 (Nat.le_of_ble_eq_true rfl) dX2_sign_40 ⟨Nat.le_of_ble_eq_true rfl, Nat.le_of_ble_eq_true rfl⟩ ?_
      exact pu_iret hx hb hr hlocks dX2_sign_43 (Eq.symm (rfl))
    · skip
      exact absurd hpr (ntr c_23)
  · skip
    exact absurd htn (ntr hs_2)

def sp_X2_matters (S : Nat → Nat → Nat → Int32) (p0 : Int32) : Int32 := sp_X0_matterCount (S 12 p0.toNatClampNeg 0)
set_option maxHeartbeats 4000000 in
set_option maxRecDepth 100000 in
theorem c_X2_matters (l : Launch) (D : va_G) (K : Nat → ClassId) (ad : Nat → Nat → Nat) (n d : Nat) (S : Nat → Nat → Nat → Int32) (p0 : Int32) (hfn : tIn d p0 = true) : PU l yX2_matters wsX2_matters 1 21 D K [.ref (ad 0 0), .int p0] (fun H => XP D K ad n d S H) (.int (sp_X2_matters S p0)) := by
  refine Met.ofW (cc := cX2_matters) (maxL := 3) (ret := (some .int)) (by decide) rfl ?_
  intro p e s m args below meth c s₁ B hml hv
  obtain ⟨rfl, hP, hK, hE⟩ := hv
  have hx := B.exec
  have hb := B.bytes
  have hr := B.returns
  have hts := atoms_spec (ws := wsX2_matters) B.pre
  have hown : s.vm.findClass RX2 = some m.cls := findClass_of_methodNamed B.named
  have hlocks := B.notSynchronized
  have hc : CallFix p m c cX2_matters 3 s ([.ref (ad 0 0), .int p0] : List Value).toArray wsX2_matters RX2 := ⟨hx, hb, hml, hown, hts⟩
  have hXP := hP
  obtain ⟨hn, hd, hP, hT, hF⟩ := hP
  have hP : va_P D vwCl (xW K ad n d S) s.heap := hP
  have hl := lv_entry ([.ref (ad 0 0), .int p0]) (n := 3) (Nat.le_of_ble_eq_true rfl)
  rw [lg_entry_eq]
  generalize (lg_sl ([.ref (ad 0 0), .int p0]) ++ List.replicate (3 - (lg_sl ([.ref (ad 0 0), .int p0])).length) Slot.unset).toArray = ls at hl ⊢
  have hl : lv_has ls 3 [(0, .ref (ad 0 0)), (1, .int p0)] := hl
  refine lv_aload_n hx hb dX2_matters_0 rfl (lv_at hl 0 rfl) ?_
  refine lv_iload_n hx hb dX2_matters_1 rfl (lv_at hl 1 rfl) ?_
  refine pu_V (As := [.int p0]) (rest := []) hc (c_X2_dossierAt l D K ad n d S p0) (cwV 1 hts gX2_matters_X2_dossierAt rfl rfl rfl (by decide +kernel) ⟨Nat.le_of_ble_eq_true rfl, Nat.le_of_ble_eq_true rfl⟩) hXP hK hE (va_recv hK hP (ci := 2) (q0 := 0) rfl rfl) rfl rfl hl.1 (Nat.le_of_ble_eq_true rfl) dX2_matters_2 ⟨Nat.le_of_ble_eq_true rfl, Nat.le_of_ble_eq_true rfl⟩ ?_
  rcases dAt_or (ad := ad) (x := p0) hd with ⟨hs_2, qs_2⟩ | ⟨hs_2, qs_2⟩
  · skip
    refine W.eq (g2 := F0 m 5 ls [.ref (ad 7 p0.toNatClampNeg)]) (by rw [qs_2]; rfl) ?_
    refine lv_astore_n (lv' := [(2, .ref (ad 7 p0.toNatClampNeg)), (0, .ref (ad 0 0)), (1, .int p0)]) hx hb dX2_matters_5 rfl hl (by decide) rfl (fun ls hl => ?_)
    refine lv_aload_n hx hb dX2_matters_6 rfl (lv_at hl 0 rfl) ?_
    refine lv_ifnonnull (tgt := 20) hx hb dX2_matters_7 (by decide) ?_
    refine lv_aload_n hx hb dX2_matters_20 rfl (lv_at hl 0 rfl) ?_
    refine pu_V (As := []) (rest := []) hc (c_X0_matterCount l D K (ad 7 p0.toNatClampNeg) (ad 8 p0.toNatClampNeg) (ad 9 p0.toNatClampNeg) (ad 10 p0.toNatClampNeg) (S 7 p0.toNatClampNeg 0) (S 8 p0.toNatClampNeg 0) (S 9 p0.toNatClampNeg) (S 10 p0.toNatClampNeg) (S 11 p0.toNatClampNeg) (S 12 p0.toNatClampNeg 0) (S 13 p0.toNatClampNeg 0) (S 14 p0.toNatClampNeg 0)) (cwV 0 hts gX2_matters_X0_matterCount rfl rfl rfl (by decide +kernel) ⟨Nat.le_of_ble_eq_true rfl, Nat.le_of_ble_eq_true rfl⟩) (hF p0.toNatClampNeg (tIn_lt hs_2 (by omega))) hK hE (va_recv hK (hF p0.toNatClampNeg (tIn_lt hs_2 (by omega))) (ci := 0) (q0 := 0) rfl rfl) rfl rfl hl.1 (Nat.le_of_ble_eq_true rfl) dX2_matters_21 ⟨Nat.le_of_ble_eq_true rfl, Nat.le_of_ble_eq_true rfl⟩ ?_
    exact pu_iret hx hb hr hlocks dX2_matters_24 (Eq.symm (rfl))
  · skip
    exact absurd hfn (ntr hs_2)

def sp_X2_fine (S : Nat → Nat → Nat → Int32) (p0 : Int32) (p1 : Int32) : Int32 := sp_X0_fineOf (S 11 p0.toNatClampNeg) p1
set_option maxHeartbeats 4000000 in
set_option maxRecDepth 100000 in
theorem c_X2_fine (l : Launch) (D : va_G) (K : Nat → ClassId) (ad : Nat → Nat → Nat) (n d : Nat) (S : Nat → Nat → Nat → Int32) (p0 p1 : Int32) (hfn : tIn d p0 = true) (hof : sp_X0_isOf (S 7 p0.toNatClampNeg 0) (S 8 p0.toNatClampNeg 0) p1 = true) : PU l yX2_fine wsX2_fine 2 41 D K [.ref (ad 0 0), .int p0, .int p1] (fun H => XP D K ad n d S H) (.int (sp_X2_fine S p0 p1)) := by
  refine Met.ofW (cc := cX2_fine) (maxL := 4) (ret := (some .int)) (by decide) rfl ?_
  intro p e s m args below meth c s₁ B hml hv
  obtain ⟨rfl, hP, hK, hE⟩ := hv
  have hx := B.exec
  have hb := B.bytes
  have hr := B.returns
  have hts := atoms_spec (ws := wsX2_fine) B.pre
  have hown : s.vm.findClass RX2 = some m.cls := findClass_of_methodNamed B.named
  have hlocks := B.notSynchronized
  have hc : CallFix p m c cX2_fine 4 s ([.ref (ad 0 0), .int p0, .int p1] : List Value).toArray wsX2_fine RX2 := ⟨hx, hb, hml, hown, hts⟩
  have hXP := hP
  obtain ⟨hn, hd, hP, hT, hF⟩ := hP
  have hP : va_P D vwCl (xW K ad n d S) s.heap := hP
  have hl := lv_entry ([.ref (ad 0 0), .int p0, .int p1]) (n := 4) (Nat.le_of_ble_eq_true rfl)
  rw [lg_entry_eq]
  generalize (lg_sl ([.ref (ad 0 0), .int p0, .int p1]) ++ List.replicate (4 - (lg_sl ([.ref (ad 0 0), .int p0, .int p1])).length) Slot.unset).toArray = ls at hl ⊢
  have hl : lv_has ls 4 [(0, .ref (ad 0 0)), (1, .int p0), (2, .int p1)] := hl
  refine lv_aload_n hx hb dX2_fine_0 rfl (lv_at hl 0 rfl) ?_
  refine lv_iload_n hx hb dX2_fine_1 rfl (lv_at hl 1 rfl) ?_
  refine pu_V (As := [.int p0]) (rest := []) hc (c_X2_dossierAt l D K ad n d S p0) (cwV 1 hts gX2_fine_X2_dossierAt rfl rfl rfl (by decide +kernel) ⟨Nat.le_of_ble_eq_true rfl, Nat.le_of_ble_eq_true rfl⟩) hXP hK hE (va_recv hK hP (ci := 2) (q0 := 0) rfl rfl) rfl rfl hl.1 (Nat.le_of_ble_eq_true rfl) dX2_fine_2 ⟨Nat.le_of_ble_eq_true rfl, Nat.le_of_ble_eq_true rfl⟩ ?_
  rcases dAt_or (ad := ad) (x := p0) hd with ⟨hs_2, qs_2⟩ | ⟨hs_2, qs_2⟩
  · skip
    refine W.eq (g2 := F0 m 5 ls [.ref (ad 7 p0.toNatClampNeg)]) (by rw [qs_2]; rfl) ?_
    refine lv_astore_n (lv' := [(3, .ref (ad 7 p0.toNatClampNeg)), (0, .ref (ad 0 0)), (1, .int p0), (2, .int p1)]) hx hb dX2_fine_5 rfl hl (by decide) rfl (fun ls hl => ?_)
    refine lv_aload_n hx hb dX2_fine_6 rfl (lv_at hl 0 rfl) ?_
    refine lv_ifnonnull (tgt := 20) hx hb dX2_fine_7 (by decide) ?_
    refine lv_aload_n hx hb dX2_fine_20 rfl (lv_at hl 0 rfl) ?_
    refine lv_iload_n hx hb dX2_fine_21 rfl (lv_at hl 3 rfl) ?_
    refine pu_V (As := [.int p1]) (rest := []) hc (c_X0_isOf l D K (ad 7 p0.toNatClampNeg) (ad 8 p0.toNatClampNeg) (ad 9 p0.toNatClampNeg) (ad 10 p0.toNatClampNeg) (S 7 p0.toNatClampNeg 0) (S 8 p0.toNatClampNeg 0) (S 9 p0.toNatClampNeg) (S 10 p0.toNatClampNeg) (S 11 p0.toNatClampNeg) (S 12 p0.toNatClampNeg 0) (S 13 p0.toNatClampNeg 0) (S 14 p0.toNatClampNeg 0) p1) (cwV 1 hts gX2_fine_X0_isOf rfl rfl rfl (by decide +kernel) ⟨Nat.le_of_ble_eq_true rfl, Nat.le_of_ble_eq_true rfl⟩) (hF p0.toNatClampNeg (tIn_lt hs_2 (by omega))) hK hE (va_recv hK (hF p0.toNatClampNeg (tIn_lt hs_2 (by omega))) (ci := 0) (q0 := 0) rfl rfl) rfl rfl hl.1 (Nat.le_of_ble_eq_true rfl) dX2_fine_22 ⟨Nat.le_of_ble_eq_true rfl, Nat.le_of_ble_eq_true rfl⟩ ?_
    refine lb_ne (tgt := 38) hx hb dX2_fine_25 (by decide) (fun c_25 => ?_) (fun c_25 => ?_)
    · skip
      refine lv_aload_n hx hb dX2_fine_38 rfl (lv_at hl 0 rfl) ?_
      refine lv_iload_n hx hb dX2_fine_39 rfl (lv_at hl 3 rfl) ?_
      refine pu_V (As := [.int p1]) (rest := []) hc (c_X0_fineOf l D K (ad 7 p0.toNatClampNeg) (ad 8 p0.toNatClampNeg) (ad 9 p0.toNatClampNeg) (ad 10 p0.toNatClampNeg) (S 7 p0.toNatClampNeg 0) (S 8 p0.toNatClampNeg 0) (S 9 p0.toNatClampNeg) (S 10 p0.toNatClampNeg) (S 11 p0.toNatClampNeg) (S 12 p0.toNatClampNeg 0) (S 13 p0.toNatClampNeg 0) (S 14 p0.toNatClampNeg 0) p1) (cwV 1 hts gX2_fine_X0_fineOf rfl rfl rfl (by decide +kernel) ⟨Nat.le_of_ble_eq_true rfl, Nat.le_of_ble_eq_true rfl⟩) (hF p0.toNatClampNeg (tIn_lt hs_2 (by omega))) hK hE (va_recv hK (hF p0.toNatClampNeg (tIn_lt hs_2 (by omega))) (ci := 0) (q0 := 0) rfl rfl) rfl rfl hl.1 (Nat.le_of_ble_eq_true rfl) dX2_fine_40 ⟨Nat.le_of_ble_eq_true rfl, Nat.le_of_ble_eq_true rfl⟩ ?_
      exact pu_iret hx hb hr hlocks dX2_fine_43 (Eq.symm (rfl))
    · skip
      exact absurd hof (ntr c_25)
  · skip
    exact absurd hfn (ntr hs_2)

def sp_X2_firstTeller (S : Nat → Nat → Nat → Int32) (p0 : Int32) : Int32 := sp_X0_first (S 13 p0.toNatClampNeg 0)
set_option maxHeartbeats 4000000 in
set_option maxRecDepth 100000 in
theorem c_X2_firstTeller (l : Launch) (D : va_G) (K : Nat → ClassId) (ad : Nat → Nat → Nat) (n d : Nat) (S : Nat → Nat → Nat → Int32) (p0 : Int32) (hfn : tIn d p0 = true) : PU l yX2_firstTeller wsX2_firstTeller 1 21 D K [.ref (ad 0 0), .int p0] (fun H => XP D K ad n d S H) (.int (sp_X2_firstTeller S p0)) := by
  refine Met.ofW (cc := cX2_firstTeller) (maxL := 3) (ret := (some .int)) (by decide) rfl ?_
  intro p e s m args below meth c s₁ B hml hv
  obtain ⟨rfl, hP, hK, hE⟩ := hv
  have hx := B.exec
  have hb := B.bytes
  have hr := B.returns
  have hts := atoms_spec (ws := wsX2_firstTeller) B.pre
  have hown : s.vm.findClass RX2 = some m.cls := findClass_of_methodNamed B.named
  have hlocks := B.notSynchronized
  have hc : CallFix p m c cX2_firstTeller 3 s ([.ref (ad 0 0), .int p0] : List Value).toArray wsX2_firstTeller RX2 := ⟨hx, hb, hml, hown, hts⟩
  have hXP := hP
  obtain ⟨hn, hd, hP, hT, hF⟩ := hP
  have hP : va_P D vwCl (xW K ad n d S) s.heap := hP
  have hl := lv_entry ([.ref (ad 0 0), .int p0]) (n := 3) (Nat.le_of_ble_eq_true rfl)
  rw [lg_entry_eq]
  generalize (lg_sl ([.ref (ad 0 0), .int p0]) ++ List.replicate (3 - (lg_sl ([.ref (ad 0 0), .int p0])).length) Slot.unset).toArray = ls at hl ⊢
  have hl : lv_has ls 3 [(0, .ref (ad 0 0)), (1, .int p0)] := hl
  refine lv_aload_n hx hb dX2_firstTeller_0 rfl (lv_at hl 0 rfl) ?_
  refine lv_iload_n hx hb dX2_firstTeller_1 rfl (lv_at hl 1 rfl) ?_
  refine pu_V (As := [.int p0]) (rest := []) hc (c_X2_dossierAt l D K ad n d S p0) (cwV 1 hts gX2_firstTeller_X2_dossierAt rfl rfl rfl (by decide +kernel) ⟨Nat.le_of_ble_eq_true rfl, Nat.le_of_ble_eq_true rfl⟩) hXP hK hE (va_recv hK hP (ci := 2) (q0 := 0) rfl rfl) rfl rfl hl.1 (Nat.le_of_ble_eq_true rfl) dX2_firstTeller_2 ⟨Nat.le_of_ble_eq_true rfl, Nat.le_of_ble_eq_true rfl⟩ ?_
  rcases dAt_or (ad := ad) (x := p0) hd with ⟨hs_2, qs_2⟩ | ⟨hs_2, qs_2⟩
  · skip
    refine W.eq (g2 := F0 m 5 ls [.ref (ad 7 p0.toNatClampNeg)]) (by rw [qs_2]; rfl) ?_
    refine lv_astore_n (lv' := [(2, .ref (ad 7 p0.toNatClampNeg)), (0, .ref (ad 0 0)), (1, .int p0)]) hx hb dX2_firstTeller_5 rfl hl (by decide) rfl (fun ls hl => ?_)
    refine lv_aload_n hx hb dX2_firstTeller_6 rfl (lv_at hl 0 rfl) ?_
    refine lv_ifnonnull (tgt := 20) hx hb dX2_firstTeller_7 (by decide) ?_
    refine lv_aload_n hx hb dX2_firstTeller_20 rfl (lv_at hl 0 rfl) ?_
    refine pu_V (As := []) (rest := []) hc (c_X0_first l D K (ad 7 p0.toNatClampNeg) (ad 8 p0.toNatClampNeg) (ad 9 p0.toNatClampNeg) (ad 10 p0.toNatClampNeg) (S 7 p0.toNatClampNeg 0) (S 8 p0.toNatClampNeg 0) (S 9 p0.toNatClampNeg) (S 10 p0.toNatClampNeg) (S 11 p0.toNatClampNeg) (S 12 p0.toNatClampNeg 0) (S 13 p0.toNatClampNeg 0) (S 14 p0.toNatClampNeg 0)) (cwV 0 hts gX2_firstTeller_X0_first rfl rfl rfl (by decide +kernel) ⟨Nat.le_of_ble_eq_true rfl, Nat.le_of_ble_eq_true rfl⟩) (hF p0.toNatClampNeg (tIn_lt hs_2 (by omega))) hK hE (va_recv hK (hF p0.toNatClampNeg (tIn_lt hs_2 (by omega))) (ci := 0) (q0 := 0) rfl rfl) rfl rfl hl.1 (Nat.le_of_ble_eq_true rfl) dX2_firstTeller_21 ⟨Nat.le_of_ble_eq_true rfl, Nat.le_of_ble_eq_true rfl⟩ ?_
    exact pu_iret hx hb hr hlocks dX2_firstTeller_24 (Eq.symm (rfl))
  · skip
    exact absurd hfn (ntr hs_2)
