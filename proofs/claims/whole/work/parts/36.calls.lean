def sp_X2_turnover (n : Nat) (S : Nat → Nat → Nat → Int32) (p0 : Int32) : Int32 × Int32 := if sp_X2_isBidder p0 = true then ((0, sp_X2_turnoverOf n S p0)) else ((1, 0))
set_option maxHeartbeats 4000000 in
set_option maxRecDepth 100000 in
theorem c_X2_turnover (l : Launch) (hl0 : l.stackTraces = false) (D : va_G) (K : Nat → ClassId) (sz : Nat) (ad : Nat → Nat → Nat) (n d : Nat) (S : Nat → Nat → Nat → Int32) (p0 : Int32) : XMet l yX2_turnover wsX2_turnover 6 100 D K [.ref (ad 0 0), .int p0] sz (XA ad sz) (fun H => XP D K ad n d S H) ((sp_X2_turnover n S p0).2) ((sp_X2_turnover n S p0).1) (fun H => XP D K ad n d S H) "java/lang/IllegalArgumentException" "" "" := by
  refine vx_ofW (cc := cX2_turnover) (maxL := 2) (ret := (some .int)) (by decide) rfl ?_
  intro p e s m args below meth c s₁ B hml hnox hv
  obtain ⟨rfl, hsz, hZ, hX, hP, hK, hE⟩ := hv
  have hx := B.exec
  have hb := B.bytes
  have hr := B.returns
  have hts := atoms_spec (ws := wsX2_turnover) B.pre
  have hown : s.vm.findClass RX2 = some m.cls := findClass_of_methodNamed B.named
  have hlocks := B.notSynchronized
  have hc : CallFix p m c cX2_turnover 2 s ([.ref (ad 0 0), .int p0] : List Value).toArray wsX2_turnover RX2 := ⟨hx, hb, hml, hown, hts⟩
  subst hsz
  have hXP := hP
  obtain ⟨hn, hd, hP, hT, hF⟩ := hP
  have hP : va_P D vwCl (xW K ad n d S) s.heap := hP
  have hS0 : va_S (XA ad s.heap.size) s.heap s.heap [] := va_S.rf
  have hl := lv_entry ([.ref (ad 0 0), .int p0]) (n := 2) (Nat.le_of_ble_eq_true rfl)
  rw [lg_entry_eq]
  generalize (lg_sl ([.ref (ad 0 0), .int p0]) ++ List.replicate (2 - (lg_sl ([.ref (ad 0 0), .int p0])).length) Slot.unset).toArray = ls at hl ⊢
  have hl : lv_has ls 2 [(0, .ref (ad 0 0)), (1, .int p0)] := hl
  refine lv_iload_n hx hb dX2_turnover_0 rfl (lv_at hl 1 rfl) ?_
  refine pu_S (As := [.int p0]) (rest := []) hc (c_X2_isBidder l D K p0) (va_cwS 1 hts gX2_turnover_X2_isBidder rfl rfl rfl (by decide +kernel) ⟨Nat.le_of_ble_eq_true rfl, Nat.le_of_ble_eq_true rfl⟩) trivial hK hE rfl rfl hl.1 (Nat.le_of_ble_eq_true rfl) dX2_turnover_1 ⟨Nat.le_of_ble_eq_true rfl, Nat.le_of_ble_eq_true rfl⟩ ?_
  refine lb_ne (tgt := 17) hx hb dX2_turnover_4 (by decide) (fun c_4 => ?_) (fun c_4 => ?_)
  · skip
    refine lv_aload_n hx hb dX2_turnover_17 rfl (lv_at hl 0 rfl) ?_
    refine lv_iload_n hx hb dX2_turnover_18 rfl (lv_at hl 1 rfl) ?_
    refine pu_V (As := [.int p0]) (rest := []) hc (c_X2_turnoverOf l D K ad n d S p0) (cwV 1 hts gX2_turnover_X2_turnoverOf rfl rfl rfl (by decide +kernel) ⟨Nat.le_of_ble_eq_true rfl, Nat.le_of_ble_eq_true rfl⟩) hXP hK hE (va_recv hK hP (ci := 2) (q0 := 0) rfl rfl) rfl rfl hl.1 (Nat.le_of_ble_eq_true rfl) dX2_turnover_19 ⟨Nat.le_of_ble_eq_true rfl, Nat.le_of_ble_eq_true rfl⟩ ?_
    have hsp : sp_X2_turnover n S p0 = ((0, sp_X2_turnoverOf n S p0) : Int32 × Int32) := Eq.trans (if_pos c_4) (rfl)
    refine vx_ret (W.widen (k := 4) (n := 60) (Nat.le_of_ble_eq_true rfl) (Nat.le_of_ble_eq_true rfl) ?_)
    exact W.iret (v := sp_X2_turnoverOf n S p0) hx hb hr (fun t ht hW => ⟨⟨_, (), rfl, ⟨by rw [hsp], by rw [hsp]⟩, by dsimp only; rw [ht]; exact hXP⟩, hS0.F ht⟩) hS0.2.2 dX2_turnover_22
  · skip
    have hsp : sp_X2_turnover n S p0 = ((1, 0) : Int32 × Int32) := Eq.trans (if_neg (ntr c_4)) (rfl)
    obtain ⟨sa_7, hstr_7⟩ := hX.1 (81, "bidder is out of range") (by decide)
    exact vx_throwS (own := RX2) (cls := "java/lang/IllegalArgumentException") (text := "bidder is out of range") (names := ["java/lang/RuntimeException", "java/lang/Exception"]) (ik := 59) (is := 81) (ic := 63) hx hb hl0 hown x_fit63 x_fits (hts (.classLink RX2 59 "java/lang/IllegalArgumentException") (by decide +kernel)) (hts (.initialized "java/lang/IllegalArgumentException") (by decide +kernel)) hstr_7 (x_hat63 (fun w h => hts w (List.mem_cons_of_mem _ (List.mem_append_right _ h))) hX) x_good63 hZ.1 hZ.2 hS0 (hl.1.trans hml.symm) dX2_turnover_7 dX2_turnover_10 dX2_turnover_11 dX2_turnover_13 dX2_turnover_16 (fun x h => (hnox x h).elim) (Nat.le_of_ble_eq_true rfl) (Nat.le_of_ble_eq_true rfl) (Nat.le_of_ble_eq_true rfl) (Nat.le_of_ble_eq_true rfl) hlocks (fun t hv hz hk => ⟨(), trivial, ⟨by rw [hsp]; exact Or.inl ⟨rfl, rfl⟩, hXP.kept hk⟩, ⟨hz, fun q h1 _ => hk q h1⟩⟩) hS0.2.2 (Nat.le_of_ble_eq_true rfl) (Nat.le_of_ble_eq_true rfl)

def sp_X2_won_L31 (n : Nat) (S : Nat → Nat → Nat → Int32) (p0 : Int32) : Nat → Int32
  | 0 => 0
  | k + 1 => if tIn n (nI k) = true then (if (sp_X1_winner (S 4 ((nI k).toNatClampNeg) 0)) = p0 then ((sp_X2_won_L31 n S p0 k) + 1) else (sp_X2_won_L31 n S p0 k)) else (sp_X2_won_L31 n S p0 k)
def sp_X2_won (n : Nat) (S : Nat → Nat → Nat → Int32) (p0 : Int32) : Int32 × Int32 := if sp_X2_isBidder p0 = true then ((0, sp_X2_won_L31 n S p0 30)) else ((1, 0))
set_option maxHeartbeats 4000000 in
set_option maxRecDepth 100000 in
theorem c_X2_won (l : Launch) (hl0 : l.stackTraces = false) (D : va_G) (K : Nat → ClassId) (sz : Nat) (ad : Nat → Nat → Nat) (n d : Nat) (S : Nat → Nat → Nat → Int32) (p0 : Int32) : XMet l yX2_won wsX2_won 6 100 D K [.ref (ad 0 0), .int p0] sz (XA ad sz) (fun H => XP D K ad n d S H) ((sp_X2_won n S p0).2) ((sp_X2_won n S p0).1) (fun H => XP D K ad n d S H) "java/lang/IllegalArgumentException" "" "" := by
  refine vx_ofW (cc := cX2_won) (maxL := 7) (ret := (some .int)) (by decide) rfl ?_
  intro p e s m args below meth c s₁ B hml hnox hv
  obtain ⟨rfl, hsz, hZ, hX, hP, hK, hE⟩ := hv
  have hx := B.exec
  have hb := B.bytes
  have hr := B.returns
  have hts := atoms_spec (ws := wsX2_won) B.pre
  have hown : s.vm.findClass RX2 = some m.cls := findClass_of_methodNamed B.named
  have hlocks := B.notSynchronized
  have hc : CallFix p m c cX2_won 7 s ([.ref (ad 0 0), .int p0] : List Value).toArray wsX2_won RX2 := ⟨hx, hb, hml, hown, hts⟩
  subst hsz
  have hXP := hP
  obtain ⟨hn, hd, hP, hT, hF⟩ := hP
  have hP : va_P D vwCl (xW K ad n d S) s.heap := hP
  have hS0 : va_S (XA ad s.heap.size) s.heap s.heap [] := va_S.rf
  have hin2 : ∀ w ∈ u_ws RX2 TX2 6, w ∈ wsX2_won := by decide +kernel
  have hl := lv_entry ([.ref (ad 0 0), .int p0]) (n := 7) (Nat.le_of_ble_eq_true rfl)
  rw [lg_entry_eq]
  generalize (lg_sl ([.ref (ad 0 0), .int p0]) ++ List.replicate (7 - (lg_sl ([.ref (ad 0 0), .int p0])).length) Slot.unset).toArray = ls at hl ⊢
  have hl : lv_has ls 7 [(0, .ref (ad 0 0)), (1, .int p0)] := hl
  refine lv_iload_n hx hb dX2_won_0 rfl (lv_at hl 1 rfl) ?_
  refine pu_S (As := [.int p0]) (rest := []) hc (c_X2_isBidder l D K p0) (va_cwS 1 hts gX2_won_X2_isBidder rfl rfl rfl (by decide +kernel) ⟨Nat.le_of_ble_eq_true rfl, Nat.le_of_ble_eq_true rfl⟩) trivial hK hE rfl rfl hl.1 (Nat.le_of_ble_eq_true rfl) dX2_won_1 ⟨Nat.le_of_ble_eq_true rfl, Nat.le_of_ble_eq_true rfl⟩ ?_
  refine lb_ne (tgt := 17) hx hb dX2_won_4 (by decide) (fun c_4 => ?_) (fun c_4 => ?_)
  · skip
    refine lv_iconst (v := 0) hx hb dX2_won_17 (by decide) ?_
    refine lv_istore_n (lv' := [(2, .int 0), (0, .ref (ad 0 0)), (1, .int p0)]) hx hb dX2_won_18 rfl hl (by decide) rfl (fun ls hl => ?_)
    refine lv_aload_n hx hb dX2_won_19 rfl (lv_at hl 1 rfl) ?_
    refine va_get (D := D) (ci := 2) (v := .ref (ad 1 0)) (C := RX2) (T := TX2) (N := 6) hx hb hts hin2 hown hK hP 0 rfl rfl 0 (by decide) (hts (.fieldLink RX2 11 "CartelWatch" "tenders" "[LCartelWatch$Tender;") (by decide +kernel)) (fun _ h9 => h9) rfl dX2_won_20 ?_
    refine lv_astore_n (lv' := [(3, .ref (ad 1 0)), (2, .int 0), (0, .ref (ad 0 0)), (1, .int p0)]) hx hb dX2_won_23 rfl hl (by decide) rfl (fun ls hl => ?_)
    refine lv_aload_n hx hb dX2_won_24 rfl (lv_at hl 0 rfl) ?_
    refine va_alen (v := 30) hx hb hK hP 1 3 rfl rfl rfl dX2_won_25 ?_
    refine lv_istore (lv' := [(4, .int 30), (3, .ref (ad 1 0)), (2, .int 0), (0, .ref (ad 0 0)), (1, .int p0)]) hx hb dX2_won_26 hl (by decide) rfl (fun ls hl => ?_)
    refine W.eq (g2 := F0 m 28 ls []) rfl ?_
    refine lv_iconst (v := 0) hx hb dX2_won_28 (by decide) ?_
    refine lv_istore (lv' := [(5, .int 0), (4, .int 30), (3, .ref (ad 1 0)), (2, .int 0), (0, .ref (ad 0 0)), (1, .int p0)]) hx hb dX2_won_29 hl (by decide) rfl (fun ls hl => ?_)
    have hloop_31 : ∀ (n31 k : Nat), k ≤ 30 → 30 + 1 ≤ k + n31 → ∀ (a31_2 x31 : Int32) (ls : Array Slot), a31_2 = sp_X2_won_L31 n S p0 k → x31 = nI k → lv_has ls 7 [(0, .ref (ad 0 0)), (1, .int p0), (2, .int a31_2), (3, .ref (ad 1 0)), (4, .int 30), (5, .int x31)] → W p l e ({ frames := 6, cells := 4, slots := 60, locals := 100 } : Room) s m ([.ref (ad 0 0), .int p0] : List Value).toArray below meth c s.heap [] 0 0 (vx_MQ below (XQc ((sp_X2_won n S p0).2) ((sp_X2_won n S p0).1) (fun H => XP D K ad n d S H) (XA ad s.heap.size)) (XXc "java/lang/IllegalArgumentException" "" "" ((sp_X2_won n S p0).1) (fun H => XP D K ad n d S H) (XA ad s.heap.size)) ([.ref (ad 0 0), .int p0] : List Value).toArray s 4 60 (XA ad s.heap.size)) (F0 m 31 ls []) := by
      intro n31
      induction n31 with
      | zero => intro k h1 h2; exact absurd h2 (by omega)
      | succ n31 ih_31 =>
        intro k hk_31 hn_31 a31_2 x31 ls ea31_2 ex31 hl
        subst ea31_2
        subst ex31
        refine lv_iload hx hb dX2_won_31 (lv_at hl 5 rfl) ?_
        refine lv_iload hx hb dX2_won_33 (lv_at hl 4 rfl) ?_
        refine lv_icmp_ge (tgt := 67) hx hb dX2_won_35 (by decide) (fun c_35 => ?_) (fun c_35 => ?_)
        · skip
          have hke_31 : 30 = k := (lp_end rfl c_35 hk_31 (by decide)).symm
          subst hke_31
          refine lv_iload_n hx hb dX2_won_67 rfl (lv_at hl 2 rfl) ?_
          have hsp : sp_X2_won n S p0 = ((0, sp_X2_won_L31 n S p0 30) : Int32 × Int32) := Eq.trans (if_pos c_4) (rfl)
          refine vx_ret (W.widen (k := 4) (n := 60) (Nat.le_of_ble_eq_true rfl) (Nat.le_of_ble_eq_true rfl) ?_)
          exact W.iret (v := sp_X2_won_L31 n S p0 30) hx hb hr (fun t ht hW => ⟨⟨_, (), rfl, ⟨by rw [hsp], by rw [hsp]⟩, by dsimp only; rw [ht]; exact hXP⟩, hS0.F ht⟩) hS0.2.2 dX2_won_68
        · skip
          have hlt_31 : k < 30 := lp_in rfl c_35 hk_31 (by decide)
          refine lv_aload_n hx hb dX2_won_38 rfl (lv_at hl 3 rfl) ?_
          refine lv_iload hx hb dX2_won_39 (lv_at hl 5 rfl) ?_
          refine va_aldq hx hb hK hP 1 3 (cA := K 3) rfl rfl (vp_in_nI hlt_31 (by decide)) dX2_won_41 ?_
          rcases tArr_or (x := (nI k)) (vp_in_nI hlt_31 (by decide)) with ⟨hs_41, qs_41⟩ | ⟨hs_41, qs_41⟩
          · skip
            refine W.eq (g2 := F0 m 42 ls [.ref (ad 4 ((nI k).toNatClampNeg))]) (by rw [qs_41]; rfl) ?_
            refine W.eq (g2 := F0 m 42 ls [.ref (ad 4 ((nI k).toNatClampNeg))]) rfl ?_
            refine lv_astore (lv' := [(6, .ref (ad 4 ((nI k).toNatClampNeg))), (0, .ref (ad 0 0)), (1, .int p0), (2, .int (sp_X2_won_L31 n S p0 k)), (3, .ref (ad 1 0)), (4, .int 30), (5, .int (nI k))]) hx hb dX2_won_42 hl (by decide) rfl (fun ls hl => ?_)
            refine lv_aload hx hb dX2_won_44 (lv_at hl 0 rfl) ?_
            refine lv_ifnull hx hb dX2_won_46 ?_
            refine lv_aload hx hb dX2_won_49 (lv_at hl 0 rfl) ?_
            refine pu_V (As := []) (rest := []) hc (c_X1_winner l D K (ad 4 ((nI k).toNatClampNeg)) (ad 5 ((nI k).toNatClampNeg)) (ad 6 ((nI k).toNatClampNeg)) (S 1 ((nI k).toNatClampNeg)) (S 2 ((nI k).toNatClampNeg)) (S 3 ((nI k).toNatClampNeg) 0) (S 4 ((nI k).toNatClampNeg) 0) (S 5 ((nI k).toNatClampNeg) 0) (S 6 ((nI k).toNatClampNeg) 0)) (cwV 0 hts gX2_won_X1_winner rfl rfl rfl (by decide +kernel) ⟨Nat.le_of_ble_eq_true rfl, Nat.le_of_ble_eq_true rfl⟩) (hT ((nI k).toNatClampNeg) (tIn_lt hs_41 (by omega))) hK hE (va_recv hK (hT ((nI k).toNatClampNeg) (tIn_lt hs_41 (by omega))) (ci := 1) (q0 := 0) rfl rfl) rfl rfl hl.1 (Nat.le_of_ble_eq_true rfl) dX2_won_51 ⟨Nat.le_of_ble_eq_true rfl, Nat.le_of_ble_eq_true rfl⟩ ?_
            refine lv_iload_n hx hb dX2_won_54 rfl (lv_at hl 2 rfl) ?_
            refine lv_icmp_ne (tgt := 61) hx hb dX2_won_55 (by decide) (fun c_55 => ?_) (fun c_55 => ?_)
            · skip
              refine lv_iinc (v := (nI k) + 1) (lv' := [(5, .int ((nI k) + 1)), (6, .ref (ad 4 ((nI k).toNatClampNeg))), (0, .ref (ad 0 0)), (1, .int p0), (2, .int (sp_X2_won_L31 n S p0 k)), (3, .ref (ad 1 0)), (4, .int 30)]) hx hb dX2_won_61 hl (k := 6) rfl (rfl) (by decide) rfl (fun ls hl => ?_)
              refine lv_goto (tgt := 31) hx hb dX2_won_64 (by decide) ?_
              exact ih_31 (k + 1) hlt_31 (by omega) _ _ ls (Eq.symm (Eq.trans (if_pos hs_41) (Eq.trans (if_neg c_55) (rfl)))) (nI_1 k) (lv_sub hl [2, 3, 4, 5, 6, 0] rfl)
            · skip
              refine lv_iinc (v := (sp_X2_won_L31 n S p0 k) + 1) (lv' := [(2, .int ((sp_X2_won_L31 n S p0 k) + 1)), (6, .ref (ad 4 ((nI k).toNatClampNeg))), (0, .ref (ad 0 0)), (1, .int p0), (3, .ref (ad 1 0)), (4, .int 30), (5, .int (nI k))]) hx hb dX2_won_58 hl (k := 3) rfl (rfl) (by decide) rfl (fun ls hl => ?_)
              refine W.eq (g2 := F0 m 61 ls []) rfl ?_
              refine lv_iinc (v := (nI k) + 1) (lv' := [(5, .int ((nI k) + 1)), (2, .int ((sp_X2_won_L31 n S p0 k) + 1)), (6, .ref (ad 4 ((nI k).toNatClampNeg))), (0, .ref (ad 0 0)), (1, .int p0), (3, .ref (ad 1 0)), (4, .int 30)]) hx hb dX2_won_61 hl (k := 6) rfl (rfl) (by decide) rfl (fun ls hl => ?_)
              refine lv_goto (tgt := 31) hx hb dX2_won_64 (by decide) ?_
              exact ih_31 (k + 1) hlt_31 (by omega) _ _ ls (Eq.symm (Eq.trans (if_pos hs_41) (Eq.trans (if_pos c_55) (rfl)))) (nI_1 k) (lv_sub hl [3, 4, 1, 5, 6, 0] rfl)
          · skip
            refine W.eq (g2 := F0 m 42 ls [.null]) (by rw [qs_41]; rfl) ?_
            refine W.eq (g2 := F0 m 42 ls [.null]) rfl ?_
            refine lv_astoreN (lv' := [(6, .null), (0, .ref (ad 0 0)), (1, .int p0), (2, .int (sp_X2_won_L31 n S p0 k)), (3, .ref (ad 1 0)), (4, .int 30), (5, .int (nI k))]) hx hb dX2_won_42 hl (by decide) rfl (fun ls hl => ?_)
            refine lv_aloadN hx hb dX2_won_44 (lv_at hl 0 rfl) ?_
            refine lv_ifnullN (tgt := 61) hx hb dX2_won_46 (by decide) ?_
            refine lv_iinc (v := (nI k) + 1) (lv' := [(5, .int ((nI k) + 1)), (6, .null), (0, .ref (ad 0 0)), (1, .int p0), (2, .int (sp_X2_won_L31 n S p0 k)), (3, .ref (ad 1 0)), (4, .int 30)]) hx hb dX2_won_61 hl (k := 6) rfl (rfl) (by decide) rfl (fun ls hl => ?_)
            refine lv_goto (tgt := 31) hx hb dX2_won_64 (by decide) ?_
            exact ih_31 (k + 1) hlt_31 (by omega) _ _ ls (Eq.symm (Eq.trans (if_neg (ntr hs_41)) (rfl))) (nI_1 k) (lv_sub hl [2, 3, 4, 5, 6, 0] rfl)
    exact hloop_31 (30 + 1) 0 (Nat.zero_le _) (by omega) _ _ ls rfl nI_0.symm (lv_sub hl [4, 5, 3, 2, 1, 0] rfl)
  · skip
    have hsp : sp_X2_won n S p0 = ((1, 0) : Int32 × Int32) := Eq.trans (if_neg (ntr c_4)) (rfl)
    obtain ⟨sa_7, hstr_7⟩ := hX.1 (81, "bidder is out of range") (by decide)
    exact vx_throwS (own := RX2) (cls := "java/lang/IllegalArgumentException") (text := "bidder is out of range") (names := ["java/lang/RuntimeException", "java/lang/Exception"]) (ik := 59) (is := 81) (ic := 63) hx hb hl0 hown x_fit63 x_fits (hts (.classLink RX2 59 "java/lang/IllegalArgumentException") (by decide +kernel)) (hts (.initialized "java/lang/IllegalArgumentException") (by decide +kernel)) hstr_7 (x_hat63 (fun w h => hts w (List.mem_cons_of_mem _ (List.mem_append_right _ h))) hX) x_good63 hZ.1 hZ.2 hS0 (hl.1.trans hml.symm) dX2_won_7 dX2_won_10 dX2_won_11 dX2_won_13 dX2_won_16 (fun x h => (hnox x h).elim) (Nat.le_of_ble_eq_true rfl) (Nat.le_of_ble_eq_true rfl) (Nat.le_of_ble_eq_true rfl) (Nat.le_of_ble_eq_true rfl) hlocks (fun t hv hz hk => ⟨(), trivial, ⟨by rw [hsp]; exact Or.inl ⟨rfl, rfl⟩, hXP.kept hk⟩, ⟨hz, fun q h1 _ => hk q h1⟩⟩) hS0.2.2 (Nat.le_of_ble_eq_true rfl) (Nat.le_of_ble_eq_true rfl)

def sp_X2_suspicion (n : Nat) (S : Nat → Nat → Nat → Int32) (p0 : Int32) (p1 : Int32) : Int32 × Int32 := if sp_X2_isPair p0 p1 = true then ((0, sp_X2_suspicionOf n S p0 p1)) else ((1, 0))
set_option maxHeartbeats 4000000 in
set_option maxRecDepth 100000 in
theorem c_X2_suspicion (l : Launch) (hl0 : l.stackTraces = false) (D : va_G) (K : Nat → ClassId) (sz : Nat) (ad : Nat → Nat → Nat) (n d : Nat) (S : Nat → Nat → Nat → Int32) (p0 p1 : Int32) : XMet l yX2_suspicion wsX2_suspicion 6 136 D K [.ref (ad 0 0), .int p0, .int p1] sz (XA ad sz) (fun H => XP D K ad n d S H) ((sp_X2_suspicion n S p0 p1).2) ((sp_X2_suspicion n S p0 p1).1) (fun H => XP D K ad n d S H) "java/lang/IllegalArgumentException" "" "" := by
  refine vx_ofW (cc := cX2_suspicion) (maxL := 3) (ret := (some .int)) (by decide) rfl ?_
  intro p e s m args below meth c s₁ B hml hnox hv
  obtain ⟨rfl, hsz, hZ, hX, hP, hK, hE⟩ := hv
  have hx := B.exec
  have hb := B.bytes
  have hr := B.returns
  have hts := atoms_spec (ws := wsX2_suspicion) B.pre
  have hown : s.vm.findClass RX2 = some m.cls := findClass_of_methodNamed B.named
  have hlocks := B.notSynchronized
  have hc : CallFix p m c cX2_suspicion 3 s ([.ref (ad 0 0), .int p0, .int p1] : List Value).toArray wsX2_suspicion RX2 := ⟨hx, hb, hml, hown, hts⟩
  subst hsz
  have hXP := hP
  obtain ⟨hn, hd, hP, hT, hF⟩ := hP
  have hP : va_P D vwCl (xW K ad n d S) s.heap := hP
  have hS0 : va_S (XA ad s.heap.size) s.heap s.heap [] := va_S.rf
  have hl := lv_entry ([.ref (ad 0 0), .int p0, .int p1]) (n := 3) (Nat.le_of_ble_eq_true rfl)
  rw [lg_entry_eq]
  generalize (lg_sl ([.ref (ad 0 0), .int p0, .int p1]) ++ List.replicate (3 - (lg_sl ([.ref (ad 0 0), .int p0, .int p1])).length) Slot.unset).toArray = ls at hl ⊢
  have hl : lv_has ls 3 [(0, .ref (ad 0 0)), (1, .int p0), (2, .int p1)] := hl
  refine lv_iload_n hx hb dX2_suspicion_0 rfl (lv_at hl 1 rfl) ?_
  refine lv_iload_n hx hb dX2_suspicion_1 rfl (lv_at hl 2 rfl) ?_
  refine pu_S (As := [.int p0, .int p1]) (rest := []) hc (c_X2_isPair l D K p0 p1) (va_cwS 2 hts gX2_suspicion_X2_isPair rfl rfl rfl (by decide +kernel) ⟨Nat.le_of_ble_eq_true rfl, Nat.le_of_ble_eq_true rfl⟩) trivial hK hE rfl rfl hl.1 (Nat.le_of_ble_eq_true rfl) dX2_suspicion_2 ⟨Nat.le_of_ble_eq_true rfl, Nat.le_of_ble_eq_true rfl⟩ ?_
  refine lb_ne (tgt := 18) hx hb dX2_suspicion_5 (by decide) (fun c_5 => ?_) (fun c_5 => ?_)
  · skip
    refine lv_aload_n hx hb dX2_suspicion_18 rfl (lv_at hl 0 rfl) ?_
    refine lv_iload_n hx hb dX2_suspicion_19 rfl (lv_at hl 1 rfl) ?_
    refine lv_iload_n hx hb dX2_suspicion_20 rfl (lv_at hl 2 rfl) ?_
    refine pu_V (As := [.int p0, .int p1]) (rest := []) hc (c_X2_suspicionOf l D K ad n d S p0 p1) (cwV 2 hts gX2_suspicion_X2_suspicionOf rfl rfl rfl (by decide +kernel) ⟨Nat.le_of_ble_eq_true rfl, Nat.le_of_ble_eq_true rfl⟩) hXP hK hE (va_recv hK hP (ci := 2) (q0 := 0) rfl rfl) rfl rfl hl.1 (Nat.le_of_ble_eq_true rfl) dX2_suspicion_21 ⟨Nat.le_of_ble_eq_true rfl, Nat.le_of_ble_eq_true rfl⟩ ?_
    have hsp : sp_X2_suspicion n S p0 p1 = ((0, sp_X2_suspicionOf n S p0 p1) : Int32 × Int32) := Eq.trans (if_pos c_5) (rfl)
    refine vx_ret (W.widen (k := 4) (n := 60) (Nat.le_of_ble_eq_true rfl) (Nat.le_of_ble_eq_true rfl) ?_)
    exact W.iret (v := sp_X2_suspicionOf n S p0 p1) hx hb hr (fun t ht hW => ⟨⟨_, (), rfl, ⟨by rw [hsp], by rw [hsp]⟩, by dsimp only; rw [ht]; exact hXP⟩, hS0.F ht⟩) hS0.2.2 dX2_suspicion_24
  · skip
    have hsp : sp_X2_suspicion n S p0 p1 = ((1, 0) : Int32 × Int32) := Eq.trans (if_neg (ntr c_5)) (rfl)
    obtain ⟨sa_8, hstr_8⟩ := hX.1 (124, "one or other is out of range, or both are the same") (by decide)
    exact vx_throwS (own := RX2) (cls := "java/lang/IllegalArgumentException") (text := "one or other is out of range, or both are the same") (names := ["java/lang/RuntimeException", "java/lang/Exception"]) (ik := 59) (is := 124) (ic := 63) hx hb hl0 hown x_fit63 x_fits (hts (.classLink RX2 59 "java/lang/IllegalArgumentException") (by decide +kernel)) (hts (.initialized "java/lang/IllegalArgumentException") (by decide +kernel)) hstr_8 (x_hat63 (fun w h => hts w (List.mem_cons_of_mem _ (List.mem_append_right _ h))) hX) x_good63 hZ.1 hZ.2 hS0 (hl.1.trans hml.symm) dX2_suspicion_8 dX2_suspicion_11 dX2_suspicion_12 dX2_suspicion_14 dX2_suspicion_17 (fun x h => (hnox x h).elim) (Nat.le_of_ble_eq_true rfl) (Nat.le_of_ble_eq_true rfl) (Nat.le_of_ble_eq_true rfl) (Nat.le_of_ble_eq_true rfl) hlocks (fun t hv hz hk => ⟨(), trivial, ⟨by rw [hsp]; exact Or.inl ⟨rfl, rfl⟩, hXP.kept hk⟩, ⟨hz, fun q h1 _ => hk q h1⟩⟩) hS0.2.2 (Nat.le_of_ble_eq_true rfl) (Nat.le_of_ble_eq_true rfl)

def sp_X2_sign (n : Nat) (S : Nat → Nat → Nat → Int32) (p0 : Int32) (p1 : Int32) (p2 : Int32) : Int32 × Int32 := if tIn n p0 = true then (if sp_X2_isPair p1 p2 = true then ((0, sp_X2_countOf n S p0 p1 p2)) else ((2, 0))) else ((1, 0))
set_option maxHeartbeats 4000000 in
set_option maxRecDepth 100000 in
theorem c_X2_sign (l : Launch) (hl0 : l.stackTraces = false) (D : va_G) (K : Nat → ClassId) (sz : Nat) (ad : Nat → Nat → Nat) (n d : Nat) (S : Nat → Nat → Nat → Int32) (p0 p1 p2 : Int32) : XMet l yX2_sign wsX2_sign 6 112 D K [.ref (ad 0 0), .int p0, .int p1, .int p2] sz (XA ad sz) (fun H => XP D K ad n d S H) ((sp_X2_sign n S p0 p1 p2).2) ((sp_X2_sign n S p0 p1 p2).1) (fun H => XP D K ad n d S H) "java/lang/IndexOutOfBoundsException" "java/lang/IllegalArgumentException" "" := by
  refine vx_ofW (cc := cX2_sign) (maxL := 4) (ret := (some .int)) (by decide) rfl ?_
  intro p e s m args below meth c s₁ B hml hnox hv
  obtain ⟨rfl, hsz, hZ, hX, hP, hK, hE⟩ := hv
  have hx := B.exec
  have hb := B.bytes
  have hr := B.returns
  have hts := atoms_spec (ws := wsX2_sign) B.pre
  have hown : s.vm.findClass RX2 = some m.cls := findClass_of_methodNamed B.named
  have hlocks := B.notSynchronized
  have hc : CallFix p m c cX2_sign 4 s ([.ref (ad 0 0), .int p0, .int p1, .int p2] : List Value).toArray wsX2_sign RX2 := ⟨hx, hb, hml, hown, hts⟩
  subst hsz
  have hXP := hP
  obtain ⟨hn, hd, hP, hT, hF⟩ := hP
  have hP : va_P D vwCl (xW K ad n d S) s.heap := hP
  have hS0 : va_S (XA ad s.heap.size) s.heap s.heap [] := va_S.rf
  have hl := lv_entry ([.ref (ad 0 0), .int p0, .int p1, .int p2]) (n := 4) (Nat.le_of_ble_eq_true rfl)
  rw [lg_entry_eq]
  generalize (lg_sl ([.ref (ad 0 0), .int p0, .int p1, .int p2]) ++ List.replicate (4 - (lg_sl ([.ref (ad 0 0), .int p0, .int p1, .int p2])).length) Slot.unset).toArray = ls at hl ⊢
  have hl : lv_has ls 4 [(0, .ref (ad 0 0)), (1, .int p0), (2, .int p1), (3, .int p2)] := hl
  refine lv_aload_n hx hb dX2_sign_0 rfl (lv_at hl 0 rfl) ?_
  refine lv_iload_n hx hb dX2_sign_1 rfl (lv_at hl 1 rfl) ?_
  refine pu_V (As := [.int p0]) (rest := []) hc (c_X2_tenderAt l D K ad n d S p0) (cwV 1 hts gX2_sign_X2_tenderAt rfl rfl rfl (by decide +kernel) ⟨Nat.le_of_ble_eq_true rfl, Nat.le_of_ble_eq_true rfl⟩) hXP hK hE (va_recv hK hP (ci := 2) (q0 := 0) rfl rfl) rfl rfl hl.1 (Nat.le_of_ble_eq_true rfl) dX2_sign_2 ⟨Nat.le_of_ble_eq_true rfl, Nat.le_of_ble_eq_true rfl⟩ ?_
  rcases tAt_or (ad := ad) (x := p0) hn with ⟨hs_2, qs_2⟩ | ⟨hs_2, qs_2⟩
  · skip
    refine W.eq (g2 := F0 m 5 ls [.ref (ad 4 p0.toNatClampNeg)]) (by rw [qs_2]; rfl) ?_
    refine lv_ifnonnull (tgt := 18) hx hb dX2_sign_5 (by decide) ?_
    refine lv_iload_n hx hb dX2_sign_18 rfl (lv_at hl 2 rfl) ?_
    refine lv_iload_n hx hb dX2_sign_19 rfl (lv_at hl 3 rfl) ?_
    refine pu_S (As := [.int p1, .int p2]) (rest := []) hc (c_X2_isPair l D K p1 p2) (va_cwS 2 hts gX2_sign_X2_isPair rfl rfl rfl (by decide +kernel) ⟨Nat.le_of_ble_eq_true rfl, Nat.le_of_ble_eq_true rfl⟩) trivial hK hE rfl rfl hl.1 (Nat.le_of_ble_eq_true rfl) dX2_sign_20 ⟨Nat.le_of_ble_eq_true rfl, Nat.le_of_ble_eq_true rfl⟩ ?_
    refine lb_ne (tgt := 36) hx hb dX2_sign_23 (by decide) (fun c_23 => ?_) (fun c_23 => ?_)
    · skip
      refine lv_aload_n hx hb dX2_sign_36 rfl (lv_at hl 0 rfl) ?_
      refine lv_iload_n hx hb dX2_sign_37 rfl (lv_at hl 1 rfl) ?_
      refine lv_iload_n hx hb dX2_sign_38 rfl (lv_at hl 2 rfl) ?_
      refine lv_iload_n hx hb dX2_sign_39 rfl (lv_at hl 3 rfl) ?_
      refine pu_V (As := [.int p0, .int p1, .int p2]) (rest := []) hc (c_X2_countOf l D K ad n d S p0 p1 p2) (cwV 3 hts gX2_sign_X2_countOf rfl rfl rfl (by decide +kernel) ⟨Nat.le_of_ble_eq_true rfl, Nat.le_of_ble_eq_true rfl⟩) hXP hK hE (va_recv hK hP (ci := 2) (q0 := 0) rfl rfl) rfl rfl hl.1 (Nat.le_of_ble_eq_true rfl) dX2_sign_40 ⟨Nat.le_of_ble_eq_true rfl, Nat.le_of_ble_eq_true rfl⟩ ?_
      have hsp : sp_X2_sign n S p0 p1 p2 = ((0, sp_X2_countOf n S p0 p1 p2) : Int32 × Int32) := Eq.trans (if_pos hs_2) (Eq.trans (if_pos c_23) (rfl))
      refine vx_ret (W.widen (k := 4) (n := 60) (Nat.le_of_ble_eq_true rfl) (Nat.le_of_ble_eq_true rfl) ?_)
      exact W.iret (v := sp_X2_countOf n S p0 p1 p2) hx hb hr (fun t ht hW => ⟨⟨_, (), rfl, ⟨by rw [hsp], by rw [hsp]⟩, by dsimp only; rw [ht]; exact hXP⟩, hS0.F ht⟩) hS0.2.2 dX2_sign_43
    · skip
      have hsp : sp_X2_sign n S p0 p1 p2 = ((2, 0) : Int32 × Int32) := Eq.trans (if_pos hs_2) (Eq.trans (if_neg (ntr c_23)) (rfl))
      obtain ⟨sa_26, hstr_26⟩ := hX.1 (124, "one or other is out of range, or both are the same") (by decide)
      exact vx_throwS (own := RX2) (cls := "java/lang/IllegalArgumentException") (text := "one or other is out of range, or both are the same") (names := ["java/lang/RuntimeException", "java/lang/Exception"]) (ik := 59) (is := 124) (ic := 63) hx hb hl0 hown x_fit63 x_fits (hts (.classLink RX2 59 "java/lang/IllegalArgumentException") (by decide +kernel)) (hts (.initialized "java/lang/IllegalArgumentException") (by decide +kernel)) hstr_26 (x_hat63 (fun w h => hts w (List.mem_cons_of_mem _ (List.mem_append_right _ h))) hX) x_good63 hZ.1 hZ.2 hS0 (hl.1.trans hml.symm) dX2_sign_26 dX2_sign_29 dX2_sign_30 dX2_sign_32 dX2_sign_35 (fun x h => (hnox x h).elim) (Nat.le_of_ble_eq_true rfl) (Nat.le_of_ble_eq_true rfl) (Nat.le_of_ble_eq_true rfl) (Nat.le_of_ble_eq_true rfl) hlocks (fun t hv hz hk => ⟨(), trivial, ⟨by rw [hsp]; exact Or.inr (Or.inl ⟨rfl, rfl⟩), hXP.kept hk⟩, ⟨hz, fun q h1 _ => hk q h1⟩⟩) hS0.2.2 (Nat.le_of_ble_eq_true rfl) (Nat.le_of_ble_eq_true rfl)
  · skip
    refine W.eq (g2 := F0 m 5 ls [.null]) (by rw [qs_2]; rfl) ?_
    refine lv_ifnonnullN hx hb dX2_sign_5 ?_
    have hsp : sp_X2_sign n S p0 p1 p2 = ((1, 0) : Int32 × Int32) := Eq.trans (if_neg (ntr hs_2)) (rfl)
    obtain ⟨sa_8, hstr_8⟩ := hX.1 (49, "no such tender") (by decide)
    exact vx_throwS (own := RX2) (cls := "java/lang/IndexOutOfBoundsException") (text := "no such tender") (names := ["java/lang/RuntimeException", "java/lang/Exception"]) (ik := 47) (is := 49) (ic := 51) hx hb hl0 hown x_fit51 x_fits (hts (.classLink RX2 47 "java/lang/IndexOutOfBoundsException") (by decide +kernel)) (hts (.initialized "java/lang/IndexOutOfBoundsException") (by decide +kernel)) hstr_8 (x_hat51 (fun w h => hts w (List.mem_cons_of_mem _ (List.mem_append_left _ (List.mem_append_right _ h)))) hX) x_good51 hZ.1 hZ.2 hS0 (hl.1.trans hml.symm) dX2_sign_8 dX2_sign_11 dX2_sign_12 dX2_sign_14 dX2_sign_17 (fun x h => (hnox x h).elim) (Nat.le_of_ble_eq_true rfl) (Nat.le_of_ble_eq_true rfl) (Nat.le_of_ble_eq_true rfl) (Nat.le_of_ble_eq_true rfl) hlocks (fun t hv hz hk => ⟨(), trivial, ⟨by rw [hsp]; exact Or.inl ⟨rfl, rfl⟩, hXP.kept hk⟩, ⟨hz, fun q h1 _ => hk q h1⟩⟩) hS0.2.2 (Nat.le_of_ble_eq_true rfl) (Nat.le_of_ble_eq_true rfl)

def sp_X2_matters (d : Nat) (S : Nat → Nat → Nat → Int32) (p0 : Int32) : Int32 × Int32 := if tIn d p0 = true then ((0, sp_X0_matterCount (S 12 p0.toNatClampNeg 0))) else ((1, 0))
set_option maxHeartbeats 4000000 in
set_option maxRecDepth 100000 in
theorem c_X2_matters (l : Launch) (hl0 : l.stackTraces = false) (D : va_G) (K : Nat → ClassId) (sz : Nat) (ad : Nat → Nat → Nat) (n d : Nat) (S : Nat → Nat → Nat → Int32) (p0 : Int32) : XMet l yX2_matters wsX2_matters 6 100 D K [.ref (ad 0 0), .int p0] sz (XA ad sz) (fun H => XP D K ad n d S H) ((sp_X2_matters d S p0).2) ((sp_X2_matters d S p0).1) (fun H => XP D K ad n d S H) "java/lang/IndexOutOfBoundsException" "" "" := by
  refine vx_ofW (cc := cX2_matters) (maxL := 3) (ret := (some .int)) (by decide) rfl ?_
  intro p e s m args below meth c s₁ B hml hnox hv
  obtain ⟨rfl, hsz, hZ, hX, hP, hK, hE⟩ := hv
  have hx := B.exec
  have hb := B.bytes
  have hr := B.returns
  have hts := atoms_spec (ws := wsX2_matters) B.pre
  have hown : s.vm.findClass RX2 = some m.cls := findClass_of_methodNamed B.named
  have hlocks := B.notSynchronized
  have hc : CallFix p m c cX2_matters 3 s ([.ref (ad 0 0), .int p0] : List Value).toArray wsX2_matters RX2 := ⟨hx, hb, hml, hown, hts⟩
  subst hsz
  have hXP := hP
  obtain ⟨hn, hd, hP, hT, hF⟩ := hP
  have hP : va_P D vwCl (xW K ad n d S) s.heap := hP
  have hS0 : va_S (XA ad s.heap.size) s.heap s.heap [] := va_S.rf
  have hl := lv_entry ([.ref (ad 0 0), .int p0]) (n := 3) (Nat.le_of_ble_eq_true rfl)
  rw [lg_entry_eq]
  generalize (lg_sl ([.ref (ad 0 0), .int p0]) ++ List.replicate (3 - (lg_sl ([.ref (ad 0 0), .int p0])).length) Slot.unset).toArray = ls at hl ⊢
  have hl : lv_has ls 3 [(0, .ref (ad 0 0)), (1, .int p0)] := hl
  refine lv_aload_n hx hb dX2_matters_0 rfl (lv_at hl 0 rfl) ?_
  refine lv_iload_n hx hb dX2_matters_1 rfl (lv_at hl 1 rfl) ?_
  refine pu_V (As := [.int p0]) (rest := []) hc (c_X2_dossierAt l D K ad n d S p0) (cwV 1 hts gX2_matters_X2_dossierAt rfl rfl rfl (by decide +kernel) ⟨Nat.le_of_ble_eq_true rfl, Nat.le_of_ble_eq_true rfl⟩) hXP hK hE (va_recv hK hP (ci := 2) (q0 := 0) rfl rfl) rfl rfl hl.1 (Nat.le_of_ble_eq_true rfl) dX2_matters_2 ⟨Nat.le_of_ble_eq_true rfl, Nat.le_of_ble_eq_true rfl⟩ ?_
  rcases dAt_or (ad := ad) (x := p0) hd with ⟨hs_2, qs_2⟩ | ⟨hs_2, qs_2⟩
  · skip
    refine W.eq (g2 := F0 m 5 ls [.ref (ad 7 p0.toNatClampNeg)]) (by rw [qs_2]; rfl) ?_
    refine lv_astore_n (lv' := [(2, .ref (ad 7 p0.toNatClampNeg)), (0, .ref (ad 0 0)), (1, .int p0)]) hx hb dX2_matters_5 rfl hl (by decide) rfl (fun ls hl => ?_)
    refine lv_aload_n hx hb dX2_matters_6 rfl (lv_at hl 0 rfl) ?_
    refine lv_ifnonnull (tgt := 20) hx hb dX2_matters_7 (by decide) ?_
    refine lv_aload_n hx hb dX2_matters_20 rfl (lv_at hl 0 rfl) ?_
    refine pu_V (As := []) (rest := []) hc (c_X0_matterCount l D K (ad 7 p0.toNatClampNeg) (ad 8 p0.toNatClampNeg) (ad 9 p0.toNatClampNeg) (ad 10 p0.toNatClampNeg) (S 7 p0.toNatClampNeg 0) (S 8 p0.toNatClampNeg 0) (S 9 p0.toNatClampNeg) (S 10 p0.toNatClampNeg) (S 11 p0.toNatClampNeg) (S 12 p0.toNatClampNeg 0) (S 13 p0.toNatClampNeg 0) (S 14 p0.toNatClampNeg 0)) (cwV 0 hts gX2_matters_X0_matterCount rfl rfl rfl (by decide +kernel) ⟨Nat.le_of_ble_eq_true rfl, Nat.le_of_ble_eq_true rfl⟩) (hF p0.toNatClampNeg (tIn_lt hs_2 (by omega))) hK hE (va_recv hK (hF p0.toNatClampNeg (tIn_lt hs_2 (by omega))) (ci := 0) (q0 := 0) rfl rfl) rfl rfl hl.1 (Nat.le_of_ble_eq_true rfl) dX2_matters_21 ⟨Nat.le_of_ble_eq_true rfl, Nat.le_of_ble_eq_true rfl⟩ ?_
    have hsp : sp_X2_matters d S p0 = ((0, sp_X0_matterCount (S 12 p0.toNatClampNeg 0)) : Int32 × Int32) := Eq.trans (if_pos hs_2) (rfl)
    refine vx_ret (W.widen (k := 4) (n := 60) (Nat.le_of_ble_eq_true rfl) (Nat.le_of_ble_eq_true rfl) ?_)
    exact W.iret (v := sp_X0_matterCount (S 12 p0.toNatClampNeg 0)) hx hb hr (fun t ht hW => ⟨⟨_, (), rfl, ⟨by rw [hsp], by rw [hsp]⟩, by dsimp only; rw [ht]; exact hXP⟩, hS0.F ht⟩) hS0.2.2 dX2_matters_24
  · skip
    refine W.eq (g2 := F0 m 5 ls [.null]) (by rw [qs_2]; rfl) ?_
    refine lv_astore_nN (lv' := [(2, .null), (0, .ref (ad 0 0)), (1, .int p0)]) hx hb dX2_matters_5 rfl hl (by decide) rfl (fun ls hl => ?_)
    refine lv_aload_nN hx hb dX2_matters_6 rfl (lv_at hl 0 rfl) ?_
    refine lv_ifnonnullN hx hb dX2_matters_7 ?_
    have hsp : sp_X2_matters d S p0 = ((1, 0) : Int32 × Int32) := Eq.trans (if_neg (ntr hs_2)) (rfl)
    obtain ⟨sa_10, hstr_10⟩ := hX.1 (150, "no such file") (by decide)
    exact vx_throwS (own := RX2) (cls := "java/lang/IndexOutOfBoundsException") (text := "no such file") (names := ["java/lang/RuntimeException", "java/lang/Exception"]) (ik := 47) (is := 150) (ic := 51) hx hb hl0 hown x_fit51 x_fits (hts (.classLink RX2 47 "java/lang/IndexOutOfBoundsException") (by decide +kernel)) (hts (.initialized "java/lang/IndexOutOfBoundsException") (by decide +kernel)) hstr_10 (x_hat51 (fun w h => hts w (List.mem_cons_of_mem _ (List.mem_append_right _ h))) hX) x_good51 hZ.1 hZ.2 hS0 (hl.1.trans hml.symm) dX2_matters_10 dX2_matters_13 dX2_matters_14 dX2_matters_16 dX2_matters_19 (fun x h => (hnox x h).elim) (Nat.le_of_ble_eq_true rfl) (Nat.le_of_ble_eq_true rfl) (Nat.le_of_ble_eq_true rfl) (Nat.le_of_ble_eq_true rfl) hlocks (fun t hv hz hk => ⟨(), trivial, ⟨by rw [hsp]; exact Or.inl ⟨rfl, rfl⟩, hXP.kept hk⟩, ⟨hz, fun q h1 _ => hk q h1⟩⟩) hS0.2.2 (Nat.le_of_ble_eq_true rfl) (Nat.le_of_ble_eq_true rfl)

def sp_X2_fine (d : Nat) (S : Nat → Nat → Nat → Int32) (p0 : Int32) (p1 : Int32) : Int32 × Int32 := if tIn d p0 = true then (if sp_X0_isOf (S 7 p0.toNatClampNeg 0) (S 8 p0.toNatClampNeg 0) p1 = true then ((0, sp_X0_fineOf (S 11 p0.toNatClampNeg) p1)) else ((2, 0))) else ((1, 0))
set_option maxHeartbeats 4000000 in
set_option maxRecDepth 100000 in
theorem c_X2_fine (l : Launch) (hl0 : l.stackTraces = false) (D : va_G) (K : Nat → ClassId) (sz : Nat) (ad : Nat → Nat → Nat) (n d : Nat) (S : Nat → Nat → Nat → Int32) (p0 p1 : Int32) : XMet l yX2_fine wsX2_fine 6 100 D K [.ref (ad 0 0), .int p0, .int p1] sz (XA ad sz) (fun H => XP D K ad n d S H) ((sp_X2_fine d S p0 p1).2) ((sp_X2_fine d S p0 p1).1) (fun H => XP D K ad n d S H) "java/lang/IndexOutOfBoundsException" "java/lang/IllegalArgumentException" "" := by
  refine vx_ofW (cc := cX2_fine) (maxL := 4) (ret := (some .int)) (by decide) rfl ?_
  intro p e s m args below meth c s₁ B hml hnox hv
  obtain ⟨rfl, hsz, hZ, hX, hP, hK, hE⟩ := hv
  have hx := B.exec
  have hb := B.bytes
  have hr := B.returns
  have hts := atoms_spec (ws := wsX2_fine) B.pre
  have hown : s.vm.findClass RX2 = some m.cls := findClass_of_methodNamed B.named
  have hlocks := B.notSynchronized
  have hc : CallFix p m c cX2_fine 4 s ([.ref (ad 0 0), .int p0, .int p1] : List Value).toArray wsX2_fine RX2 := ⟨hx, hb, hml, hown, hts⟩
  subst hsz
  have hXP := hP
  obtain ⟨hn, hd, hP, hT, hF⟩ := hP
  have hP : va_P D vwCl (xW K ad n d S) s.heap := hP
  have hS0 : va_S (XA ad s.heap.size) s.heap s.heap [] := va_S.rf
  have hl := lv_entry ([.ref (ad 0 0), .int p0, .int p1]) (n := 4) (Nat.le_of_ble_eq_true rfl)
  rw [lg_entry_eq]
  generalize (lg_sl ([.ref (ad 0 0), .int p0, .int p1]) ++ List.replicate (4 - (lg_sl ([.ref (ad 0 0), .int p0, .int p1])).length) Slot.unset).toArray = ls at hl ⊢
  have hl : lv_has ls 4 [(0, .ref (ad 0 0)), (1, .int p0), (2, .int p1)] := hl
  refine lv_aload_n hx hb dX2_fine_0 rfl (lv_at hl 0 rfl) ?_
  refine lv_iload_n hx hb dX2_fine_1 rfl (lv_at hl 1 rfl) ?_
  refine pu_V (As := [.int p0]) (rest := []) hc (c_X2_dossierAt l D K ad n d S p0) (cwV 1 hts gX2_fine_X2_dossierAt rfl rfl rfl (by decide +kernel) ⟨Nat.le_of_ble_eq_true rfl, Nat.le_of_ble_eq_true rfl⟩) hXP hK hE (va_recv hK hP (ci := 2) (q0 := 0) rfl rfl) rfl rfl hl.1 (Nat.le_of_ble_eq_true rfl) dX2_fine_2 ⟨Nat.le_of_ble_eq_true rfl, Nat.le_of_ble_eq_true rfl⟩ ?_
  rcases dAt_or (ad := ad) (x := p0) hd with ⟨hs_2, qs_2⟩ | ⟨hs_2, qs_2⟩
  · skip
    refine W.eq (g2 := F0 m 5 ls [.ref (ad 7 p0.toNatClampNeg)]) (by rw [qs_2]; rfl) ?_
    refine lv_astore_n (lv' := [(3, .ref (ad 7 p0.toNatClampNeg)), (0, .ref (ad 0 0)), (1, .int p0), (2, .int p1)]) hx hb dX2_fine_5 rfl hl (by decide) rfl (fun ls hl => ?_)
    refine lv_aload_n hx hb dX2_fine_6 rfl (lv_at hl 0 rfl) ?_
    refine lv_ifnonnull (tgt := 20) hx hb dX2_fine_7 (by decide) ?_
    refine lv_aload_n hx hb dX2_fine_20 rfl (lv_at hl 0 rfl) ?_
    refine lv_iload_n hx hb dX2_fine_21 rfl (lv_at hl 3 rfl) ?_
    refine pu_V (As := [.int p1]) (rest := []) hc (c_X0_isOf l D K (ad 7 p0.toNatClampNeg) (ad 8 p0.toNatClampNeg) (ad 9 p0.toNatClampNeg) (ad 10 p0.toNatClampNeg) (S 7 p0.toNatClampNeg 0) (S 8 p0.toNatClampNeg 0) (S 9 p0.toNatClampNeg) (S 10 p0.toNatClampNeg) (S 11 p0.toNatClampNeg) (S 12 p0.toNatClampNeg 0) (S 13 p0.toNatClampNeg 0) (S 14 p0.toNatClampNeg 0) p1) (cwV 1 hts gX2_fine_X0_isOf rfl rfl rfl (by decide +kernel) ⟨Nat.le_of_ble_eq_true rfl, Nat.le_of_ble_eq_true rfl⟩) (hF p0.toNatClampNeg (tIn_lt hs_2 (by omega))) hK hE (va_recv hK (hF p0.toNatClampNeg (tIn_lt hs_2 (by omega))) (ci := 0) (q0 := 0) rfl rfl) rfl rfl hl.1 (Nat.le_of_ble_eq_true rfl) dX2_fine_22 ⟨Nat.le_of_ble_eq_true rfl, Nat.le_of_ble_eq_true rfl⟩ ?_
    refine lb_ne (tgt := 38) hx hb dX2_fine_25 (by decide) (fun c_25 => ?_) (fun c_25 => ?_)
    · skip
      refine lv_aload_n hx hb dX2_fine_38 rfl (lv_at hl 0 rfl) ?_
      refine lv_iload_n hx hb dX2_fine_39 rfl (lv_at hl 3 rfl) ?_
      refine pu_V (As := [.int p1]) (rest := []) hc (c_X0_fineOf l D K (ad 7 p0.toNatClampNeg) (ad 8 p0.toNatClampNeg) (ad 9 p0.toNatClampNeg) (ad 10 p0.toNatClampNeg) (S 7 p0.toNatClampNeg 0) (S 8 p0.toNatClampNeg 0) (S 9 p0.toNatClampNeg) (S 10 p0.toNatClampNeg) (S 11 p0.toNatClampNeg) (S 12 p0.toNatClampNeg 0) (S 13 p0.toNatClampNeg 0) (S 14 p0.toNatClampNeg 0) p1) (cwV 1 hts gX2_fine_X0_fineOf rfl rfl rfl (by decide +kernel) ⟨Nat.le_of_ble_eq_true rfl, Nat.le_of_ble_eq_true rfl⟩) (hF p0.toNatClampNeg (tIn_lt hs_2 (by omega))) hK hE (va_recv hK (hF p0.toNatClampNeg (tIn_lt hs_2 (by omega))) (ci := 0) (q0 := 0) rfl rfl) rfl rfl hl.1 (Nat.le_of_ble_eq_true rfl) dX2_fine_40 ⟨Nat.le_of_ble_eq_true rfl, Nat.le_of_ble_eq_true rfl⟩ ?_
      have hsp : sp_X2_fine d S p0 p1 = ((0, sp_X0_fineOf (S 11 p0.toNatClampNeg) p1) : Int32 × Int32) := Eq.trans (if_pos hs_2) (Eq.trans (if_pos c_25) (rfl))
      refine vx_ret (W.widen (k := 4) (n := 60) (Nat.le_of_ble_eq_true rfl) (Nat.le_of_ble_eq_true rfl) ?_)
      exact W.iret (v := sp_X0_fineOf (S 11 p0.toNatClampNeg) p1) hx hb hr (fun t ht hW => ⟨⟨_, (), rfl, ⟨by rw [hsp], by rw [hsp]⟩, by dsimp only; rw [ht]; exact hXP⟩, hS0.F ht⟩) hS0.2.2 dX2_fine_43
    · skip
      have hsp : sp_X2_fine d S p0 p1 = ((2, 0) : Int32 × Int32) := Eq.trans (if_pos hs_2) (Eq.trans (if_neg (ntr c_25)) (rfl))
      obtain ⟨sa_28, hstr_28⟩ := hX.1 (160, "bidder is none of the pair") (by decide)
      exact vx_throwS (own := RX2) (cls := "java/lang/IllegalArgumentException") (text := "bidder is none of the pair") (names := ["java/lang/RuntimeException", "java/lang/Exception"]) (ik := 59) (is := 160) (ic := 63) hx hb hl0 hown x_fit63 x_fits (hts (.classLink RX2 59 "java/lang/IllegalArgumentException") (by decide +kernel)) (hts (.initialized "java/lang/IllegalArgumentException") (by decide +kernel)) hstr_28 (x_hat63 (fun w h => hts w (List.mem_cons_of_mem _ (List.mem_append_right _ h))) hX) x_good63 hZ.1 hZ.2 hS0 (hl.1.trans hml.symm) dX2_fine_28 dX2_fine_31 dX2_fine_32 dX2_fine_34 dX2_fine_37 (fun x h => (hnox x h).elim) (Nat.le_of_ble_eq_true rfl) (Nat.le_of_ble_eq_true rfl) (Nat.le_of_ble_eq_true rfl) (Nat.le_of_ble_eq_true rfl) hlocks (fun t hv hz hk => ⟨(), trivial, ⟨by rw [hsp]; exact Or.inr (Or.inl ⟨rfl, rfl⟩), hXP.kept hk⟩, ⟨hz, fun q h1 _ => hk q h1⟩⟩) hS0.2.2 (Nat.le_of_ble_eq_true rfl) (Nat.le_of_ble_eq_true rfl)
  · skip
    refine W.eq (g2 := F0 m 5 ls [.null]) (by rw [qs_2]; rfl) ?_
    refine lv_astore_nN (lv' := [(3, .null), (0, .ref (ad 0 0)), (1, .int p0), (2, .int p1)]) hx hb dX2_fine_5 rfl hl (by decide) rfl (fun ls hl => ?_)
    refine lv_aload_nN hx hb dX2_fine_6 rfl (lv_at hl 0 rfl) ?_
    refine lv_ifnonnullN hx hb dX2_fine_7 ?_
    have hsp : sp_X2_fine d S p0 p1 = ((1, 0) : Int32 × Int32) := Eq.trans (if_neg (ntr hs_2)) (rfl)
    obtain ⟨sa_10, hstr_10⟩ := hX.1 (150, "no such file") (by decide)
    exact vx_throwS (own := RX2) (cls := "java/lang/IndexOutOfBoundsException") (text := "no such file") (names := ["java/lang/RuntimeException", "java/lang/Exception"]) (ik := 47) (is := 150) (ic := 51) hx hb hl0 hown x_fit51 x_fits (hts (.classLink RX2 47 "java/lang/IndexOutOfBoundsException") (by decide +kernel)) (hts (.initialized "java/lang/IndexOutOfBoundsException") (by decide +kernel)) hstr_10 (x_hat51 (fun w h => hts w (List.mem_cons_of_mem _ (List.mem_append_left _ (List.mem_append_right _ h)))) hX) x_good51 hZ.1 hZ.2 hS0 (hl.1.trans hml.symm) dX2_fine_10 dX2_fine_13 dX2_fine_14 dX2_fine_16 dX2_fine_19 (fun x h => (hnox x h).elim) (Nat.le_of_ble_eq_true rfl) (Nat.le_of_ble_eq_true rfl) (Nat.le_of_ble_eq_true rfl) (Nat.le_of_ble_eq_true rfl) hlocks (fun t hv hz hk => ⟨(), trivial, ⟨by rw [hsp]; exact Or.inl ⟨rfl, rfl⟩, hXP.kept hk⟩, ⟨hz, fun q h1 _ => hk q h1⟩⟩) hS0.2.2 (Nat.le_of_ble_eq_true rfl) (Nat.le_of_ble_eq_true rfl)

def sp_X2_firstTeller (d : Nat) (S : Nat → Nat → Nat → Int32) (p0 : Int32) : Int32 × Int32 := if tIn d p0 = true then ((0, sp_X0_first (S 13 p0.toNatClampNeg 0))) else ((1, 0))
set_option maxHeartbeats 4000000 in
set_option maxRecDepth 100000 in
theorem c_X2_firstTeller (l : Launch) (hl0 : l.stackTraces = false) (D : va_G) (K : Nat → ClassId) (sz : Nat) (ad : Nat → Nat → Nat) (n d : Nat) (S : Nat → Nat → Nat → Int32) (p0 : Int32) : XMet l yX2_firstTeller wsX2_firstTeller 6 100 D K [.ref (ad 0 0), .int p0] sz (XA ad sz) (fun H => XP D K ad n d S H) ((sp_X2_firstTeller d S p0).2) ((sp_X2_firstTeller d S p0).1) (fun H => XP D K ad n d S H) "java/lang/IndexOutOfBoundsException" "" "" := by
  refine vx_ofW (cc := cX2_firstTeller) (maxL := 3) (ret := (some .int)) (by decide) rfl ?_
  intro p e s m args below meth c s₁ B hml hnox hv
  obtain ⟨rfl, hsz, hZ, hX, hP, hK, hE⟩ := hv
  have hx := B.exec
  have hb := B.bytes
  have hr := B.returns
  have hts := atoms_spec (ws := wsX2_firstTeller) B.pre
  have hown : s.vm.findClass RX2 = some m.cls := findClass_of_methodNamed B.named
  have hlocks := B.notSynchronized
  have hc : CallFix p m c cX2_firstTeller 3 s ([.ref (ad 0 0), .int p0] : List Value).toArray wsX2_firstTeller RX2 := ⟨hx, hb, hml, hown, hts⟩
  subst hsz
  have hXP := hP
  obtain ⟨hn, hd, hP, hT, hF⟩ := hP
  have hP : va_P D vwCl (xW K ad n d S) s.heap := hP
  have hS0 : va_S (XA ad s.heap.size) s.heap s.heap [] := va_S.rf
  have hl := lv_entry ([.ref (ad 0 0), .int p0]) (n := 3) (Nat.le_of_ble_eq_true rfl)
  rw [lg_entry_eq]
  generalize (lg_sl ([.ref (ad 0 0), .int p0]) ++ List.replicate (3 - (lg_sl ([.ref (ad 0 0), .int p0])).length) Slot.unset).toArray = ls at hl ⊢
  have hl : lv_has ls 3 [(0, .ref (ad 0 0)), (1, .int p0)] := hl
  refine lv_aload_n hx hb dX2_firstTeller_0 rfl (lv_at hl 0 rfl) ?_
  refine lv_iload_n hx hb dX2_firstTeller_1 rfl (lv_at hl 1 rfl) ?_
  refine pu_V (As := [.int p0]) (rest := []) hc (c_X2_dossierAt l D K ad n d S p0) (cwV 1 hts gX2_firstTeller_X2_dossierAt rfl rfl rfl (by decide +kernel) ⟨Nat.le_of_ble_eq_true rfl, Nat.le_of_ble_eq_true rfl⟩) hXP hK hE (va_recv hK hP (ci := 2) (q0 := 0) rfl rfl) rfl rfl hl.1 (Nat.le_of_ble_eq_true rfl) dX2_firstTeller_2 ⟨Nat.le_of_ble_eq_true rfl, Nat.le_of_ble_eq_true rfl⟩ ?_
  rcases dAt_or (ad := ad) (x := p0) hd with ⟨hs_2, qs_2⟩ | ⟨hs_2, qs_2⟩
  · skip
    refine W.eq (g2 := F0 m 5 ls [.ref (ad 7 p0.toNatClampNeg)]) (by rw [qs_2]; rfl) ?_
    refine lv_astore_n (lv' := [(2, .ref (ad 7 p0.toNatClampNeg)), (0, .ref (ad 0 0)), (1, .int p0)]) hx hb dX2_firstTeller_5 rfl hl (by decide) rfl (fun ls hl => ?_)
    refine lv_aload_n hx hb dX2_firstTeller_6 rfl (lv_at hl 0 rfl) ?_
    refine lv_ifnonnull (tgt := 20) hx hb dX2_firstTeller_7 (by decide) ?_
    refine lv_aload_n hx hb dX2_firstTeller_20 rfl (lv_at hl 0 rfl) ?_
    refine pu_V (As := []) (rest := []) hc (c_X0_first l D K (ad 7 p0.toNatClampNeg) (ad 8 p0.toNatClampNeg) (ad 9 p0.toNatClampNeg) (ad 10 p0.toNatClampNeg) (S 7 p0.toNatClampNeg 0) (S 8 p0.toNatClampNeg 0) (S 9 p0.toNatClampNeg) (S 10 p0.toNatClampNeg) (S 11 p0.toNatClampNeg) (S 12 p0.toNatClampNeg 0) (S 13 p0.toNatClampNeg 0) (S 14 p0.toNatClampNeg 0)) (cwV 0 hts gX2_firstTeller_X0_first rfl rfl rfl (by decide +kernel) ⟨Nat.le_of_ble_eq_true rfl, Nat.le_of_ble_eq_true rfl⟩) (hF p0.toNatClampNeg (tIn_lt hs_2 (by omega))) hK hE (va_recv hK (hF p0.toNatClampNeg (tIn_lt hs_2 (by omega))) (ci := 0) (q0 := 0) rfl rfl) rfl rfl hl.1 (Nat.le_of_ble_eq_true rfl) dX2_firstTeller_21 ⟨Nat.le_of_ble_eq_true rfl, Nat.le_of_ble_eq_true rfl⟩ ?_
    have hsp : sp_X2_firstTeller d S p0 = ((0, sp_X0_first (S 13 p0.toNatClampNeg 0)) : Int32 × Int32) := Eq.trans (if_pos hs_2) (rfl)
    refine vx_ret (W.widen (k := 4) (n := 60) (Nat.le_of_ble_eq_true rfl) (Nat.le_of_ble_eq_true rfl) ?_)
    exact W.iret (v := sp_X0_first (S 13 p0.toNatClampNeg 0)) hx hb hr (fun t ht hW => ⟨⟨_, (), rfl, ⟨by rw [hsp], by rw [hsp]⟩, by dsimp only; rw [ht]; exact hXP⟩, hS0.F ht⟩) hS0.2.2 dX2_firstTeller_24
  · skip
    refine W.eq (g2 := F0 m 5 ls [.null]) (by rw [qs_2]; rfl) ?_
    refine lv_astore_nN (lv' := [(2, .null), (0, .ref (ad 0 0)), (1, .int p0)]) hx hb dX2_firstTeller_5 rfl hl (by decide) rfl (fun ls hl => ?_)
    refine lv_aload_nN hx hb dX2_firstTeller_6 rfl (lv_at hl 0 rfl) ?_
    refine lv_ifnonnullN hx hb dX2_firstTeller_7 ?_
    have hsp : sp_X2_firstTeller d S p0 = ((1, 0) : Int32 × Int32) := Eq.trans (if_neg (ntr hs_2)) (rfl)
    obtain ⟨sa_10, hstr_10⟩ := hX.1 (150, "no such file") (by decide)
    exact vx_throwS (own := RX2) (cls := "java/lang/IndexOutOfBoundsException") (text := "no such file") (names := ["java/lang/RuntimeException", "java/lang/Exception"]) (ik := 47) (is := 150) (ic := 51) hx hb hl0 hown x_fit51 x_fits (hts (.classLink RX2 47 "java/lang/IndexOutOfBoundsException") (by decide +kernel)) (hts (.initialized "java/lang/IndexOutOfBoundsException") (by decide +kernel)) hstr_10 (x_hat51 (fun w h => hts w (List.mem_cons_of_mem _ (List.mem_append_right _ h))) hX) x_good51 hZ.1 hZ.2 hS0 (hl.1.trans hml.symm) dX2_firstTeller_10 dX2_firstTeller_13 dX2_firstTeller_14 dX2_firstTeller_16 dX2_firstTeller_19 (fun x h => (hnox x h).elim) (Nat.le_of_ble_eq_true rfl) (Nat.le_of_ble_eq_true rfl) (Nat.le_of_ble_eq_true rfl) (Nat.le_of_ble_eq_true rfl) hlocks (fun t hv hz hk => ⟨(), trivial, ⟨by rw [hsp]; exact Or.inl ⟨rfl, rfl⟩, hXP.kept hk⟩, ⟨hz, fun q h1 _ => hk q h1⟩⟩) hS0.2.2 (Nat.le_of_ble_eq_true rfl) (Nat.le_of_ble_eq_true rfl)
