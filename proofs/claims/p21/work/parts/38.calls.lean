def sp_X2_setMark (S : Nat → Nat → Nat → Int32) (p0 : Int32) : Int32 × Int32 × (Nat → Nat → Nat → Int32) := if p0 < 1 then ((1, 0, S)) else (if p0 ≤ 1000 then ((0, S 16 0 0, us S 16 0 (fun _ => p0))) else ((1, 0, S)))
set_option maxHeartbeats 4000000 in
set_option maxRecDepth 100000 in
theorem c_X2_setMark (l : Launch) (hl0 : l.stackTraces = false) (D : va_G) (K : Nat → ClassId) (sz : Nat) (ad : Nat → Nat → Nat) (n d : Nat) (S : Nat → Nat → Nat → Int32) (p0 : Int32) (hDJ : DJ ad n d) : XMet l yX2_setMark wsX2_setMark 6 100 D K [.ref (ad 0 0), .int p0] sz (XA ad sz) (fun H => XP D K ad n d S H) ((sp_X2_setMark S p0).2.1) ((sp_X2_setMark S p0).1) (fun H => XP D K ad n d ((sp_X2_setMark S p0).2.2) H) "java/lang/IllegalArgumentException" "" "" := by
  refine vx_ofW (cc := cX2_setMark) (maxL := 3) (ret := (some .int)) (by decide) rfl ?_
  intro p e s m args below meth c s₁ B hml hnox hv
  obtain ⟨rfl, hsz, hZ, hX, hP, hK, hE⟩ := hv
  have hx := B.exec
  have hb := B.bytes
  have hr := B.returns
  have hts := atoms_spec (ws := wsX2_setMark) B.pre
  have hown : s.vm.findClass RX2 = some m.cls := findClass_of_methodNamed B.named
  have hlocks := B.notSynchronized
  have hc : CallFix p m c cX2_setMark 3 s ([.ref (ad 0 0), .int p0] : List Value).toArray wsX2_setMark RX2 := ⟨hx, hb, hml, hown, hts⟩
  subst hsz
  have hXP := hP
  obtain ⟨hn, hd, hP, hT, hF⟩ := hP
  have hP : va_P D vwCl (xW K ad n d S) s.heap := hP
  have hS0 : va_S (XA ad s.heap.size) s.heap s.heap [] := va_S.rf
  have hin2 : ∀ w ∈ u_ws RX2 TX2 6, w ∈ wsX2_setMark := by decide +kernel
  have hD := (X_apart hDJ (ids := xWi) (ws := xW K ad n d S) rfl xWl xWn).self (sz := s.heap.size)
  generalize hAe : va_A (xW K ad n d S) s.heap.size = A at hD
  have hS : va_S A s.heap s.heap [] := va_S.rf
  have hl := lv_entry ([.ref (ad 0 0), .int p0]) (n := 3) (Nat.le_of_ble_eq_true rfl)
  rw [lg_entry_eq]
  generalize (lg_sl ([.ref (ad 0 0), .int p0]) ++ List.replicate (3 - (lg_sl ([.ref (ad 0 0), .int p0])).length) Slot.unset).toArray = ls at hl ⊢
  have hl : lv_has ls 3 [(0, .ref (ad 0 0)), (1, .int p0)] := hl
  refine lv_iload_n hx hb dX2_setMark_0 rfl (lv_at hl 1 rfl) ?_
  refine lv_iconst (v := 1) hx hb dX2_setMark_1 (by decide) ?_
  refine lv_icmp_lt (tgt := 12) hx hb dX2_setMark_2 (by decide) (fun c_2 => ?_) (fun c_2 => ?_)
  · skip
    have hsp : sp_X2_setMark S p0 = ((1, 0, S) : Int32 × Int32 × (Nat → Nat → Nat → Int32)) := Eq.trans (if_pos c_2) (rfl)
    obtain ⟨sa_12, hstr_12⟩ := hX.1 (134, "mark is out of range") (by decide)
    exact vx_throwS (own := RX2) (cls := "java/lang/IllegalArgumentException") (text := "mark is out of range") (names := ["java/lang/RuntimeException", "java/lang/Exception"]) (ik := 59) (is := 134) (ic := 63) hx hb hl0 hown x_fit63 x_fits (hts (.classLink RX2 59 "java/lang/IllegalArgumentException") (by decide +kernel)) (hts (.initialized "java/lang/IllegalArgumentException") (by decide +kernel)) hstr_12 (x_hat63 (fun w h => hts w (List.mem_cons_of_mem _ (List.mem_append_right _ h))) hX) x_good63 hZ.1 hZ.2 hS0 (hl.1.trans hml.symm) dX2_setMark_12 dX2_setMark_15 dX2_setMark_16 dX2_setMark_18 dX2_setMark_21 (fun x h => (hnox x h).elim) (Nat.le_of_ble_eq_true rfl) (Nat.le_of_ble_eq_true rfl) (Nat.le_of_ble_eq_true rfl) (Nat.le_of_ble_eq_true rfl) hlocks (fun t hv hz hk => ⟨(), trivial, ⟨by rw [hsp]; exact Or.inl ⟨rfl, rfl⟩, hXP.kept hk⟩, ⟨hz, fun q h1 _ => hk q h1⟩⟩) hS0.2.2 (Nat.le_of_ble_eq_true rfl) (Nat.le_of_ble_eq_true rfl)
  · skip
    refine lv_iload_n hx hb dX2_setMark_5 rfl (lv_at hl 1 rfl) ?_
    refine lv_sipush (v := 1000) hx hb dX2_setMark_6 (by decide) ?_
    refine lv_icmp_le (tgt := 22) hx hb dX2_setMark_9 (by decide) (fun c_9 => ?_) (fun c_9 => ?_)
    · skip
      refine lv_aload_n hx hb dX2_setMark_22 rfl (lv_at hl 0 rfl) ?_
      refine va_get (D := D) (ci := 2) (v := .int (S 16 0 0)) (C := RX2) (T := TX2) (N := 6) hx hb hts hin2 hown hK hP 0 rfl rfl 5 (by decide) (hts (.fieldLink RX2 32 "CartelWatch" "leastSuspicionForFile" "I") (by decide +kernel)) (fun _ h9 => h9) rfl dX2_setMark_23 ?_
      refine lv_istore_n (lv' := [(2, .int (S 16 0 0)), (0, .ref (ad 0 0)), (1, .int p0)]) hx hb dX2_setMark_26 rfl hl (by decide) rfl (fun ls hl => ?_)
      refine lv_aload_n hx hb dX2_setMark_27 rfl (lv_at hl 1 rfl) ?_
      refine lv_iload_n hx hb dX2_setMark_28 rfl (lv_at hl 2 rfl) ?_
      refine va_put (D := D) (ci := 2) (v := .int p0) (ty := .int) (C := RX2) (T := TX2) (N := 6) hx hb hts hin2 tyX2 tyX2_ok nmX2 hown hK hP hD hS 0 rfl rfl 5 (by decide) (hts (.fieldLink RX2 32 "CartelWatch" "leastSuspicionForFile" "I") (by decide +kernel)) (fun _ h9 => h9) rfl (by decide +kernel) rfl rfl (Nat.le_of_ble_eq_true rfl) dX2_setMark_29 (fun H locs hP hD hS => ?_)
      have hP : va_P D vwCl [(ad 0 0, .inr (2, [.ref (ad 1 0), .int (nI n), .ref (ad 2 0), .int (nI d), .ref (ad 3 0), .int p0])), (ad 1 0, .inl (K 3, 30, .inr (.inr (.inr (.inr (tArr ad n)))))), (ad 2 0, .inl (K 2, 20, .inr (.inr (.inr (.inr (dArr ad d)))))), (ad 3 0, .inl (K 0, 7, .inl (S 15 0)))] H := hP
      have hD : va_D A [(ad 0 0, .inr (2, [.ref (ad 1 0), .int (nI n), .ref (ad 2 0), .int (nI d), .ref (ad 3 0), .int p0])), (ad 1 0, .inl (K 3, 30, .inr (.inr (.inr (.inr (tArr ad n)))))), (ad 2 0, .inl (K 2, 20, .inr (.inr (.inr (.inr (dArr ad d)))))), (ad 3 0, .inl (K 0, 7, .inl (S 15 0)))] := hD
      refine lv_iload_n hx hb dX2_setMark_32 rfl (lv_at hl 0 rfl) ?_
      have hsp : sp_X2_setMark S p0 = ((0, S 16 0 0, us S 16 0 (fun _ => p0)) : Int32 × Int32 × (Nat → Nat → Nat → Int32)) := Eq.trans (if_neg c_2) (Eq.trans (if_pos c_9) (rfl))
      have hP9 := (fun (v9 : Int32) (h : va_P D vwCl [(ad 0 0, .inr (2, [.ref (ad 1 0), .int (nI n), .ref (ad 2 0), .int (nI d), .ref (ad 3 0), .int v9])), (ad 1 0, .inl (K 3, 30, .inr (.inr (.inr (.inr (tArr ad n)))))), (ad 2 0, .inl (K 2, 20, .inr (.inr (.inr (.inr (dArr ad d)))))), (ad 3 0, .inl (K 0, 7, .inl (S 15 0)))] H) => (show va_P D vwCl (xW K ad n d (us S 16 0 (fun _ => v9))) H from h)) p0 hP
      have hXe := XP_upX (Or.inr rfl) hDJ hXP (fun q h1 h2 => hS.2.1 q h1 (by rw [← hAe]; exact h2)) hP9
      have hSe : va_S (XA ad s.heap.size) s.heap H locs := hS.mono (fun q h => va_A_XA (ws := xW K ad n d S) (ids := xWi) rfl (Nat.le_refl _) q (by rw [hAe]; exact h))
      refine vx_ret (W.widen (k := 4) (n := 60) (Nat.le_of_ble_eq_true rfl) (Nat.le_of_ble_eq_true rfl) ?_)
      exact W.iret (v := S 16 0 0) hx hb hr (fun t ht hW => ⟨⟨_, (), rfl, ⟨by rw [hsp], by rw [hsp]⟩, by dsimp only; rw [ht, hsp]; exact hXe⟩, hSe.F ht⟩) hSe.2.2 dX2_setMark_33
    · skip
      have hsp : sp_X2_setMark S p0 = ((1, 0, S) : Int32 × Int32 × (Nat → Nat → Nat → Int32)) := Eq.trans (if_neg c_2) (Eq.trans (if_neg c_9) (rfl))
      obtain ⟨sa_12, hstr_12⟩ := hX.1 (134, "mark is out of range") (by decide)
      exact vx_throwS (own := RX2) (cls := "java/lang/IllegalArgumentException") (text := "mark is out of range") (names := ["java/lang/RuntimeException", "java/lang/Exception"]) (ik := 59) (is := 134) (ic := 63) hx hb hl0 hown x_fit63 x_fits (hts (.classLink RX2 59 "java/lang/IllegalArgumentException") (by decide +kernel)) (hts (.initialized "java/lang/IllegalArgumentException") (by decide +kernel)) hstr_12 (x_hat63 (fun w h => hts w (List.mem_cons_of_mem _ (List.mem_append_right _ h))) hX) x_good63 hZ.1 hZ.2 hS0 (hl.1.trans hml.symm) dX2_setMark_12 dX2_setMark_15 dX2_setMark_16 dX2_setMark_18 dX2_setMark_21 (fun x h => (hnox x h).elim) (Nat.le_of_ble_eq_true rfl) (Nat.le_of_ble_eq_true rfl) (Nat.le_of_ble_eq_true rfl) (Nat.le_of_ble_eq_true rfl) hlocks (fun t hv hz hk => ⟨(), trivial, ⟨by rw [hsp]; exact Or.inl ⟨rfl, rfl⟩, hXP.kept hk⟩, ⟨hz, fun q h1 _ => hk q h1⟩⟩) hS0.2.2 (Nat.le_of_ble_eq_true rfl) (Nat.le_of_ble_eq_true rfl)

def sp_X2_compensate (S : Nat → Nat → Nat → Int32) (p0 : Int32) (p1 : Int32) : Int32 × Int32 × (Nat → Nat → Nat → Int32) := if sp_X2_isBidder p0 = true then (if sp_X2_isMoney p1 = true then ((0, (upd (S 15 0) p0.toNatClampNeg (((S 15 0) p0.toNatClampNeg) + p1)) p0.toNatClampNeg, us S 15 0 (upd (S 15 0) p0.toNatClampNeg (((S 15 0) p0.toNatClampNeg) + p1)))) else ((1, 0, S))) else ((1, 0, S))
set_option maxHeartbeats 4000000 in
set_option maxRecDepth 100000 in
theorem c_X2_compensate (l : Launch) (hl0 : l.stackTraces = false) (D : va_G) (K : Nat → ClassId) (sz : Nat) (ad : Nat → Nat → Nat) (n d : Nat) (S : Nat → Nat → Nat → Int32) (p0 p1 : Int32) (hDJ : DJ ad n d) : XMet l yX2_compensate wsX2_compensate 6 100 D K [.ref (ad 0 0), .int p0, .int p1] sz (XA ad sz) (fun H => XP D K ad n d S H) ((sp_X2_compensate S p0 p1).2.1) ((sp_X2_compensate S p0 p1).1) (fun H => XP D K ad n d ((sp_X2_compensate S p0 p1).2.2) H) "java/lang/IllegalArgumentException" "" "" := by
  refine vx_ofW (cc := cX2_compensate) (maxL := 3) (ret := (some .int)) (by decide) rfl ?_
  intro p e s m args below meth c s₁ B hml hnox hv
  obtain ⟨rfl, hsz, hZ, hX, hP, hK, hE⟩ := hv
  have hx := B.exec
  have hb := B.bytes
  have hr := B.returns
  have hts := atoms_spec (ws := wsX2_compensate) B.pre
  have hown : s.vm.findClass RX2 = some m.cls := findClass_of_methodNamed B.named
  have hlocks := B.notSynchronized
  have hc : CallFix p m c cX2_compensate 3 s ([.ref (ad 0 0), .int p0, .int p1] : List Value).toArray wsX2_compensate RX2 := ⟨hx, hb, hml, hown, hts⟩
  subst hsz
  have hXP := hP
  obtain ⟨hn, hd, hP, hT, hF⟩ := hP
  have hP : va_P D vwCl (xW K ad n d S) s.heap := hP
  have hS0 : va_S (XA ad s.heap.size) s.heap s.heap [] := va_S.rf
  have hin2 : ∀ w ∈ u_ws RX2 TX2 6, w ∈ wsX2_compensate := by decide +kernel
  have hD := (X_apart hDJ (ids := xWi) (ws := xW K ad n d S) rfl xWl xWn).self (sz := s.heap.size)
  generalize hAe : va_A (xW K ad n d S) s.heap.size = A at hD
  have hS : va_S A s.heap s.heap [] := va_S.rf
  have hl := lv_entry ([.ref (ad 0 0), .int p0, .int p1]) (n := 3) (Nat.le_of_ble_eq_true rfl)
  rw [lg_entry_eq]
  generalize (lg_sl ([.ref (ad 0 0), .int p0, .int p1]) ++ List.replicate (3 - (lg_sl ([.ref (ad 0 0), .int p0, .int p1])).length) Slot.unset).toArray = ls at hl ⊢
  have hl : lv_has ls 3 [(0, .ref (ad 0 0)), (1, .int p0), (2, .int p1)] := hl
  refine lv_iload_n hx hb dX2_compensate_0 rfl (lv_at hl 1 rfl) ?_
  refine pu_S (As := [.int p0]) (rest := []) hc (c_X2_isBidder l D K p0) (va_cwS 1 hts gX2_compensate_X2_isBidder rfl rfl rfl (by decide +kernel) ⟨Nat.le_of_ble_eq_true rfl, Nat.le_of_ble_eq_true rfl⟩) trivial hK hE rfl rfl hl.1 (Nat.le_of_ble_eq_true rfl) dX2_compensate_1 ⟨Nat.le_of_ble_eq_true rfl, Nat.le_of_ble_eq_true rfl⟩ ?_
  refine lb_eq (tgt := 14) hx hb dX2_compensate_4 (by decide) (fun c_4 => ?_) (fun c_4 => ?_)
  · skip
    have hsp : sp_X2_compensate S p0 p1 = ((1, 0, S) : Int32 × Int32 × (Nat → Nat → Nat → Int32)) := Eq.trans (if_neg (ntr c_4)) (rfl)
    obtain ⟨sa_14, hstr_14⟩ := hX.1 (170, "bidder or money is out of range") (by decide)
    exact vx_throwS (own := RX2) (cls := "java/lang/IllegalArgumentException") (text := "bidder or money is out of range") (names := ["java/lang/RuntimeException", "java/lang/Exception"]) (ik := 59) (is := 170) (ic := 63) hx hb hl0 hown x_fit63 x_fits (hts (.classLink RX2 59 "java/lang/IllegalArgumentException") (by decide +kernel)) (hts (.initialized "java/lang/IllegalArgumentException") (by decide +kernel)) hstr_14 (x_hat63 (fun w h => hts w (List.mem_cons_of_mem _ (List.mem_append_right _ h))) hX) x_good63 hZ.1 hZ.2 hS0 (hl.1.trans hml.symm) dX2_compensate_14 dX2_compensate_17 dX2_compensate_18 dX2_compensate_20 dX2_compensate_23 (fun x h => (hnox x h).elim) (Nat.le_of_ble_eq_true rfl) (Nat.le_of_ble_eq_true rfl) (Nat.le_of_ble_eq_true rfl) (Nat.le_of_ble_eq_true rfl) hlocks (fun t hv hz hk => ⟨(), trivial, ⟨by rw [hsp]; exact Or.inl ⟨rfl, rfl⟩, hXP.kept hk⟩, ⟨hz, fun q h1 _ => hk q h1⟩⟩) hS0.2.2 (Nat.le_of_ble_eq_true rfl) (Nat.le_of_ble_eq_true rfl)
  · skip
    refine lv_iload_n hx hb dX2_compensate_7 rfl (lv_at hl 2 rfl) ?_
    refine pu_S (As := [.int p1]) (rest := []) hc (c_X2_isMoney l D K p1) (va_cwS 1 hts gX2_compensate_X2_isMoney rfl rfl rfl (by decide +kernel) ⟨Nat.le_of_ble_eq_true rfl, Nat.le_of_ble_eq_true rfl⟩) trivial hK hE rfl rfl hl.1 (Nat.le_of_ble_eq_true rfl) dX2_compensate_8 ⟨Nat.le_of_ble_eq_true rfl, Nat.le_of_ble_eq_true rfl⟩ ?_
    refine lb_ne (tgt := 24) hx hb dX2_compensate_11 (by decide) (fun c_11 => ?_) (fun c_11 => ?_)
    · skip
      refine lv_aload_n hx hb dX2_compensate_24 rfl (lv_at hl 0 rfl) ?_
      refine va_get (D := D) (ci := 2) (v := .ref (ad 3 0)) (C := RX2) (T := TX2) (N := 6) hx hb hts hin2 hown hK hP 0 rfl rfl 4 (by decide) (hts (.fieldLink RX2 28 "CartelWatch" "paidToHarmed" "[I") (by decide +kernel)) (fun _ h9 => h9) rfl dX2_compensate_25 ?_
      refine lv_iload_n hx hb dX2_compensate_28 rfl (lv_at hl 1 rfl) ?_
      refine lv_dup2_11 hx hb dX2_compensate_29 rfl rfl ?_
      refine va_iald hx hb hK hP 3 0 (cA := K 0) rfl rfl (in7 c_4) dX2_compensate_30 ?_
      refine lv_iload_n hx hb dX2_compensate_31 rfl (lv_at hl 2 rfl) ?_
      refine lv_iadd hx hb dX2_compensate_32 ?_
      refine va_iast hx hb hK hP hD hS 3 0 (cA := K 0) rfl rfl (in7 c_4) dX2_compensate_33 (fun H locs hP hD hS => ?_)
      have hP : va_P D vwCl [(ad 0 0, .inr (2, [.ref (ad 1 0), .int (nI n), .ref (ad 2 0), .int (nI d), .ref (ad 3 0), .int (S 16 0 0)])), (ad 1 0, .inl (K 3, 30, .inr (.inr (.inr (.inr (tArr ad n)))))), (ad 2 0, .inl (K 2, 20, .inr (.inr (.inr (.inr (dArr ad d)))))), (ad 3 0, .inl (K 0, 7, .inl (upd (S 15 0) p0.toNatClampNeg (((S 15 0) p0.toNatClampNeg) + p1))))] H := hP
      have hD : va_D A [(ad 0 0, .inr (2, [.ref (ad 1 0), .int (nI n), .ref (ad 2 0), .int (nI d), .ref (ad 3 0), .int (S 16 0 0)])), (ad 1 0, .inl (K 3, 30, .inr (.inr (.inr (.inr (tArr ad n)))))), (ad 2 0, .inl (K 2, 20, .inr (.inr (.inr (.inr (dArr ad d)))))), (ad 3 0, .inl (K 0, 7, .inl (upd (S 15 0) p0.toNatClampNeg (((S 15 0) p0.toNatClampNeg) + p1))))] := hD
      refine W.eq (g2 := F0 m 34 ls []) rfl ?_
      refine lv_aload_n hx hb dX2_compensate_34 rfl (lv_at hl 0 rfl) ?_
      refine va_get (D := D) (ci := 2) (v := .ref (ad 3 0)) (C := RX2) (T := TX2) (N := 6) hx hb hts hin2 hown hK hP 0 rfl rfl 4 (by decide) (hts (.fieldLink RX2 28 "CartelWatch" "paidToHarmed" "[I") (by decide +kernel)) (fun _ h9 => h9) rfl dX2_compensate_35 ?_
      refine lv_iload_n hx hb dX2_compensate_38 rfl (lv_at hl 1 rfl) ?_
      refine va_iald hx hb hK hP 3 0 (cA := K 0) rfl rfl (in7 c_4) dX2_compensate_39 ?_
      have hsp : sp_X2_compensate S p0 p1 = ((0, (upd (S 15 0) p0.toNatClampNeg (((S 15 0) p0.toNatClampNeg) + p1)) p0.toNatClampNeg, us S 15 0 (upd (S 15 0) p0.toNatClampNeg (((S 15 0) p0.toNatClampNeg) + p1))) : Int32 × Int32 × (Nat → Nat → Nat → Int32)) := Eq.trans (if_pos c_4) (Eq.trans (if_pos c_11) (rfl))
      have hP9 := (fun (v9 : Nat → Int32) (h : va_P D vwCl [(ad 0 0, .inr (2, [.ref (ad 1 0), .int (nI n), .ref (ad 2 0), .int (nI d), .ref (ad 3 0), .int (S 16 0 0)])), (ad 1 0, .inl (K 3, 30, .inr (.inr (.inr (.inr (tArr ad n)))))), (ad 2 0, .inl (K 2, 20, .inr (.inr (.inr (.inr (dArr ad d)))))), (ad 3 0, .inl (K 0, 7, .inl v9))] H) => (show va_P D vwCl (xW K ad n d (us S 15 0 v9)) H from h)) (upd (S 15 0) p0.toNatClampNeg (((S 15 0) p0.toNatClampNeg) + p1)) hP
      have hXe := XP_upX (Or.inl rfl) hDJ hXP (fun q h1 h2 => hS.2.1 q h1 (by rw [← hAe]; exact h2)) hP9
      have hSe : va_S (XA ad s.heap.size) s.heap H locs := hS.mono (fun q h => va_A_XA (ws := xW K ad n d S) (ids := xWi) rfl (Nat.le_refl _) q (by rw [hAe]; exact h))
      refine vx_ret (W.widen (k := 4) (n := 60) (Nat.le_of_ble_eq_true rfl) (Nat.le_of_ble_eq_true rfl) ?_)
      exact W.iret (v := (upd (S 15 0) p0.toNatClampNeg (((S 15 0) p0.toNatClampNeg) + p1)) p0.toNatClampNeg) hx hb hr (fun t ht hW => ⟨⟨_, (), rfl, ⟨by rw [hsp], by rw [hsp]⟩, by dsimp only; rw [ht, hsp]; exact hXe⟩, hSe.F ht⟩) hSe.2.2 dX2_compensate_40
    · skip
      have hsp : sp_X2_compensate S p0 p1 = ((1, 0, S) : Int32 × Int32 × (Nat → Nat → Nat → Int32)) := Eq.trans (if_pos c_4) (Eq.trans (if_neg (ntr c_11)) (rfl))
      obtain ⟨sa_14, hstr_14⟩ := hX.1 (170, "bidder or money is out of range") (by decide)
      exact vx_throwS (own := RX2) (cls := "java/lang/IllegalArgumentException") (text := "bidder or money is out of range") (names := ["java/lang/RuntimeException", "java/lang/Exception"]) (ik := 59) (is := 170) (ic := 63) hx hb hl0 hown x_fit63 x_fits (hts (.classLink RX2 59 "java/lang/IllegalArgumentException") (by decide +kernel)) (hts (.initialized "java/lang/IllegalArgumentException") (by decide +kernel)) hstr_14 (x_hat63 (fun w h => hts w (List.mem_cons_of_mem _ (List.mem_append_right _ h))) hX) x_good63 hZ.1 hZ.2 hS0 (hl.1.trans hml.symm) dX2_compensate_14 dX2_compensate_17 dX2_compensate_18 dX2_compensate_20 dX2_compensate_23 (fun x h => (hnox x h).elim) (Nat.le_of_ble_eq_true rfl) (Nat.le_of_ble_eq_true rfl) (Nat.le_of_ble_eq_true rfl) (Nat.le_of_ble_eq_true rfl) hlocks (fun t hv hz hk => ⟨(), trivial, ⟨by rw [hsp]; exact Or.inl ⟨rfl, rfl⟩, hXP.kept hk⟩, ⟨hz, fun q h1 _ => hk q h1⟩⟩) hS0.2.2 (Nat.le_of_ble_eq_true rfl) (Nat.le_of_ble_eq_true rfl)

def sp_X2_bid (n : Nat) (S : Nat → Nat → Nat → Int32) (p0 : Int32) (p1 : Int32) (p2 : Int32) : Int32 × Int32 × (Nat → Nat → Nat → Int32) := if tIn n p0 = true then (if sp_X2_isBidder p1 = true then (if sp_X2_isMoney p2 = true then (if sp_X1_isOpen (S 3 p0.toNatClampNeg 0) = true then (if sp_X1_hasBidOf (S 1 p0.toNatClampNeg) p1 = true then ((3, 0, S)) else ((0, sp_X1_countStanding ((setT S p0.toNatClampNeg (upd (S 1 p0.toNatClampNeg) (p1.toNatClampNeg) p2) (S 2 p0.toNatClampNeg) (S 3 p0.toNatClampNeg 0) (S 4 p0.toNatClampNeg 0) (S 5 p0.toNatClampNeg 0) (S 6 p0.toNatClampNeg 0)) 1 p0.toNatClampNeg) ((setT S p0.toNatClampNeg (upd (S 1 p0.toNatClampNeg) (p1.toNatClampNeg) p2) (S 2 p0.toNatClampNeg) (S 3 p0.toNatClampNeg 0) (S 4 p0.toNatClampNeg 0) (S 5 p0.toNatClampNeg 0) (S 6 p0.toNatClampNeg 0)) 2 p0.toNatClampNeg), (setT S p0.toNatClampNeg (upd (S 1 p0.toNatClampNeg) (p1.toNatClampNeg) p2) (S 2 p0.toNatClampNeg) (S 3 p0.toNatClampNeg 0) (S 4 p0.toNatClampNeg 0) (S 5 p0.toNatClampNeg 0) (S 6 p0.toNatClampNeg 0))))) else ((3, 0, S))) else ((2, 0, S))) else ((2, 0, S))) else ((1, 0, S))
set_option maxHeartbeats 4000000 in
set_option maxRecDepth 100000 in
theorem c_X2_bid (l : Launch) (hl0 : l.stackTraces = false) (D : va_G) (K : Nat → ClassId) (sz : Nat) (ad : Nat → Nat → Nat) (n d : Nat) (S : Nat → Nat → Nat → Int32) (p0 p1 p2 : Int32) (hDJ : DJ ad n d) : XMet l yX2_bid wsX2_bid 6 100 D K [.ref (ad 0 0), .int p0, .int p1, .int p2] sz (XA ad sz) (fun H => XP D K ad n d S H) ((sp_X2_bid n S p0 p1 p2).2.1) ((sp_X2_bid n S p0 p1 p2).1) (fun H => XP D K ad n d ((sp_X2_bid n S p0 p1 p2).2.2) H) "java/lang/IndexOutOfBoundsException" "java/lang/IllegalArgumentException" "java/lang/IllegalStateException" := by
  refine vx_ofW (cc := cX2_bid) (maxL := 5) (ret := (some .int)) (by decide) rfl ?_
  intro p e s m args below meth c s₁ B hml hnox hv
  obtain ⟨rfl, hsz, hZ, hX, hP, hK, hE⟩ := hv
  have hx := B.exec
  have hb := B.bytes
  have hr := B.returns
  have hts := atoms_spec (ws := wsX2_bid) B.pre
  have hown : s.vm.findClass RX2 = some m.cls := findClass_of_methodNamed B.named
  have hlocks := B.notSynchronized
  have hc : CallFix p m c cX2_bid 5 s ([.ref (ad 0 0), .int p0, .int p1, .int p2] : List Value).toArray wsX2_bid RX2 := ⟨hx, hb, hml, hown, hts⟩
  subst hsz
  have hXP := hP
  obtain ⟨hn, hd, hP, hT, hF⟩ := hP
  have hP : va_P D vwCl (xW K ad n d S) s.heap := hP
  have hS0 : va_S (XA ad s.heap.size) s.heap s.heap [] := va_S.rf
  have hl := lv_entry ([.ref (ad 0 0), .int p0, .int p1, .int p2]) (n := 5) (Nat.le_of_ble_eq_true rfl)
  rw [lg_entry_eq]
  generalize (lg_sl ([.ref (ad 0 0), .int p0, .int p1, .int p2]) ++ List.replicate (5 - (lg_sl ([.ref (ad 0 0), .int p0, .int p1, .int p2])).length) Slot.unset).toArray = ls at hl ⊢
  have hl : lv_has ls 5 [(0, .ref (ad 0 0)), (1, .int p0), (2, .int p1), (3, .int p2)] := hl
  refine lv_aload_n hx hb dX2_bid_0 rfl (lv_at hl 0 rfl) ?_
  refine lv_iload_n hx hb dX2_bid_1 rfl (lv_at hl 1 rfl) ?_
  refine pu_V (As := [.int p0]) (rest := []) hc (c_X2_tenderAt l D K ad n d S p0) (cwV 1 hts gX2_bid_X2_tenderAt rfl rfl rfl (by decide +kernel) ⟨Nat.le_of_ble_eq_true rfl, Nat.le_of_ble_eq_true rfl⟩) hXP hK hE (va_recv hK hP (ci := 2) (q0 := 0) rfl rfl) rfl rfl hl.1 (Nat.le_of_ble_eq_true rfl) dX2_bid_2 ⟨Nat.le_of_ble_eq_true rfl, Nat.le_of_ble_eq_true rfl⟩ ?_
  rcases tAt_or (ad := ad) (x := p0) hn with ⟨hs_2, qs_2⟩ | ⟨hs_2, qs_2⟩
  · skip
    refine W.eq (g2 := F0 m 5 ls [.ref (ad 4 p0.toNatClampNeg)]) (by rw [qs_2]; rfl) ?_
    refine lv_astore (lv' := [(4, .ref (ad 4 p0.toNatClampNeg)), (0, .ref (ad 0 0)), (1, .int p0), (2, .int p1), (3, .int p2)]) hx hb dX2_bid_5 hl (by decide) rfl (fun ls hl => ?_)
    refine lv_aload hx hb dX2_bid_7 (lv_at hl 0 rfl) ?_
    refine lv_ifnonnull (tgt := 22) hx hb dX2_bid_9 (by decide) ?_
    refine lv_iload_n hx hb dX2_bid_22 rfl (lv_at hl 3 rfl) ?_
    refine pu_S (As := [.int p1]) (rest := []) hc (c_X2_isBidder l D K p1) (va_cwS 1 hts gX2_bid_X2_isBidder rfl rfl rfl (by decide +kernel) ⟨Nat.le_of_ble_eq_true rfl, Nat.le_of_ble_eq_true rfl⟩) trivial hK hE rfl rfl hl.1 (Nat.le_of_ble_eq_true rfl) dX2_bid_23 ⟨Nat.le_of_ble_eq_true rfl, Nat.le_of_ble_eq_true rfl⟩ ?_
    refine lb_eq (tgt := 36) hx hb dX2_bid_26 (by decide) (fun c_26 => ?_) (fun c_26 => ?_)
    · skip
      have hsp : sp_X2_bid n S p0 p1 p2 = ((2, 0, S) : Int32 × Int32 × (Nat → Nat → Nat → Int32)) := Eq.trans (if_pos hs_2) (Eq.trans (if_neg (ntr c_26)) (rfl))
      obtain ⟨sa_36, hstr_36⟩ := hX.1 (61, "bidder or sum is out of range") (by decide)
      exact vx_throwS (own := RX2) (cls := "java/lang/IllegalArgumentException") (text := "bidder or sum is out of range") (names := ["java/lang/RuntimeException", "java/lang/Exception"]) (ik := 59) (is := 61) (ic := 63) hx hb hl0 hown x_fit63 x_fits (hts (.classLink RX2 59 "java/lang/IllegalArgumentException") (by decide +kernel)) (hts (.initialized "java/lang/IllegalArgumentException") (by decide +kernel)) hstr_36 (x_hat63 (fun w h => hts w (List.mem_cons_of_mem _ (List.mem_append_left _ (List.mem_append_right _ h)))) hX) x_good63 hZ.1 hZ.2 hS0 (hl.1.trans hml.symm) dX2_bid_36 dX2_bid_39 dX2_bid_40 dX2_bid_42 dX2_bid_45 (fun x h => (hnox x h).elim) (Nat.le_of_ble_eq_true rfl) (Nat.le_of_ble_eq_true rfl) (Nat.le_of_ble_eq_true rfl) (Nat.le_of_ble_eq_true rfl) hlocks (fun t hv hz hk => ⟨(), trivial, ⟨by rw [hsp]; exact Or.inr (Or.inl ⟨rfl, rfl⟩), hXP.kept hk⟩, ⟨hz, fun q h1 _ => hk q h1⟩⟩) hS0.2.2 (Nat.le_of_ble_eq_true rfl) (Nat.le_of_ble_eq_true rfl)
    · skip
      refine lv_iload_n hx hb dX2_bid_29 rfl (lv_at hl 4 rfl) ?_
      refine pu_S (As := [.int p2]) (rest := []) hc (c_X2_isMoney l D K p2) (va_cwS 1 hts gX2_bid_X2_isMoney rfl rfl rfl (by decide +kernel) ⟨Nat.le_of_ble_eq_true rfl, Nat.le_of_ble_eq_true rfl⟩) trivial hK hE rfl rfl hl.1 (Nat.le_of_ble_eq_true rfl) dX2_bid_30 ⟨Nat.le_of_ble_eq_true rfl, Nat.le_of_ble_eq_true rfl⟩ ?_
      refine lb_ne (tgt := 46) hx hb dX2_bid_33 (by decide) (fun c_33 => ?_) (fun c_33 => ?_)
      · skip
        refine lv_aload hx hb dX2_bid_46 (lv_at hl 0 rfl) ?_
        refine pu_V (As := []) (rest := []) hc (c_X1_isOpen l D K (ad 4 p0.toNatClampNeg) (ad 5 p0.toNatClampNeg) (ad 6 p0.toNatClampNeg) (S 1 p0.toNatClampNeg) (S 2 p0.toNatClampNeg) (S 3 p0.toNatClampNeg 0) (S 4 p0.toNatClampNeg 0) (S 5 p0.toNatClampNeg 0) (S 6 p0.toNatClampNeg 0)) (cwV 0 hts gX2_bid_X1_isOpen rfl rfl rfl (by decide +kernel) ⟨Nat.le_of_ble_eq_true rfl, Nat.le_of_ble_eq_true rfl⟩) (hT p0.toNatClampNeg (tIn_lt hs_2 (by omega))) hK hE (va_recv hK (hT p0.toNatClampNeg (tIn_lt hs_2 (by omega))) (ci := 1) (q0 := 0) rfl rfl) rfl rfl hl.1 (Nat.le_of_ble_eq_true rfl) dX2_bid_48 ⟨Nat.le_of_ble_eq_true rfl, Nat.le_of_ble_eq_true rfl⟩ ?_
        refine lb_eq (tgt := 63) hx hb dX2_bid_51 (by decide) (fun c_51 => ?_) (fun c_51 => ?_)
        · skip
          have hsp : sp_X2_bid n S p0 p1 p2 = ((3, 0, S) : Int32 × Int32 × (Nat → Nat → Nat → Int32)) := Eq.trans (if_pos hs_2) (Eq.trans (if_pos c_26) (Eq.trans (if_pos c_33) (Eq.trans (if_neg (ntr c_51)) (rfl))))
          obtain ⟨sa_63, hstr_63⟩ := hX.1 (71, "the tender is not open, or the bidder has made a bid") (by decide)
          exact vx_throwS (own := RX2) (cls := "java/lang/IllegalStateException") (text := "the tender is not open, or the bidder has made a bid") (names := ["java/lang/RuntimeException", "java/lang/Exception"]) (ik := 35) (is := 71) (ic := 39) hx hb hl0 hown x_fit39 x_fits (hts (.classLink RX2 35 "java/lang/IllegalStateException") (by decide +kernel)) (hts (.initialized "java/lang/IllegalStateException") (by decide +kernel)) hstr_63 (x_hat39 (fun w h => hts w (List.mem_cons_of_mem _ (List.mem_append_right _ h))) hX) x_good39 hZ.1 hZ.2 hS0 (hl.1.trans hml.symm) dX2_bid_63 dX2_bid_66 dX2_bid_67 dX2_bid_69 dX2_bid_72 (fun x h => (hnox x h).elim) (Nat.le_of_ble_eq_true rfl) (Nat.le_of_ble_eq_true rfl) (Nat.le_of_ble_eq_true rfl) (Nat.le_of_ble_eq_true rfl) hlocks (fun t hv hz hk => ⟨(), trivial, ⟨by rw [hsp]; exact Or.inr (Or.inr ⟨rfl, rfl⟩), hXP.kept hk⟩, ⟨hz, fun q h1 _ => hk q h1⟩⟩) hS0.2.2 (Nat.le_of_ble_eq_true rfl) (Nat.le_of_ble_eq_true rfl)
        · skip
          refine lv_aload hx hb dX2_bid_54 (lv_at hl 0 rfl) ?_
          refine lv_iload_n hx hb dX2_bid_56 rfl (lv_at hl 3 rfl) ?_
          refine pu_V (As := [.int p1]) (rest := []) hc (c_X1_hasBidOf l D K (ad 4 p0.toNatClampNeg) (ad 5 p0.toNatClampNeg) (ad 6 p0.toNatClampNeg) (S 1 p0.toNatClampNeg) (S 2 p0.toNatClampNeg) (S 3 p0.toNatClampNeg 0) (S 4 p0.toNatClampNeg 0) (S 5 p0.toNatClampNeg 0) (S 6 p0.toNatClampNeg 0) p1) (cwV 1 hts gX2_bid_X1_hasBidOf rfl rfl rfl (by decide +kernel) ⟨Nat.le_of_ble_eq_true rfl, Nat.le_of_ble_eq_true rfl⟩) (hT p0.toNatClampNeg (tIn_lt hs_2 (by omega))) hK hE (va_recv hK (hT p0.toNatClampNeg (tIn_lt hs_2 (by omega))) (ci := 1) (q0 := 0) rfl rfl) rfl rfl hl.1 (Nat.le_of_ble_eq_true rfl) dX2_bid_57 ⟨Nat.le_of_ble_eq_true rfl, Nat.le_of_ble_eq_true rfl⟩ ?_
          refine lb_eq (tgt := 73) hx hb dX2_bid_60 (by decide) (fun c_60 => ?_) (fun c_60 => ?_)
          · skip
            refine lv_aload hx hb dX2_bid_73 (lv_at hl 0 rfl) ?_
            refine lv_iload_n hx hb dX2_bid_75 rfl (lv_at hl 3 rfl) ?_
            refine lv_iload_n hx hb dX2_bid_76 rfl (lv_at hl 4 rfl) ?_
            refine ef_Vv (As := [.int p1, .int p2]) (rest := []) hc (c_X1_takeBid l D K (s.heap.size) (ad 4 p0.toNatClampNeg) (ad 5 p0.toNatClampNeg) (ad 6 p0.toNatClampNeg) (S 1 p0.toNatClampNeg) (S 2 p0.toNatClampNeg) (S 3 p0.toNatClampNeg 0) (S 4 p0.toNatClampNeg 0) (S 5 p0.toNatClampNeg 0) (S 6 p0.toNatClampNeg 0) p1 p2 c_26) (cwV 2 hts gX2_bid_X1_takeBid rfl rfl rfl (by decide +kernel) ⟨Nat.le_of_ble_eq_true rfl, Nat.le_of_ble_eq_true rfl⟩) (hT p0.toNatClampNeg (tIn_lt hs_2 (by omega))) (X_apart hDJ (ids := xTi p0.toNatClampNeg) rfl (xTl (tIn_lt hs_2 (by omega))) xTn) hK hE (va_recv hK (hT p0.toNatClampNeg (tIn_lt hs_2 (by omega))) (ci := 1) (q0 := 0) rfl rfl) rfl rfl hl.1 (Nat.le_of_ble_eq_true rfl) dX2_bid_77 ⟨Nat.le_of_ble_eq_true rfl, Nat.le_of_ble_eq_true rfl⟩ hS0 (va_A_XA (ids := xTi p0.toNatClampNeg) rfl (Nat.le_refl _)) (fun H locs hP1 hD1 hz1 hk1 hS => ?_)
            have hXP := XP_upT (k := p0.toNatClampNeg) (tIn_lt hs_2 (by omega)) hDJ hXP hk1 hP1
            obtain ⟨-, -, hP, hT, hF⟩ := id hXP
            have hP : va_P D vwCl (xW K ad n d (setT S p0.toNatClampNeg (upd (S 1 p0.toNatClampNeg) (p1.toNatClampNeg) p2) (S 2 p0.toNatClampNeg) (S 3 p0.toNatClampNeg 0) (S 4 p0.toNatClampNeg 0) (S 5 p0.toNatClampNeg 0) (S 6 p0.toNatClampNeg 0))) H := hP
            refine lv_aload hx hb dX2_bid_80 (lv_at hl 0 rfl) ?_
            refine pu_V (As := []) (rest := []) hc (c_X1_countStanding l D K (ad 4 p0.toNatClampNeg) (ad 5 p0.toNatClampNeg) (ad 6 p0.toNatClampNeg) ((setT S p0.toNatClampNeg (upd (S 1 p0.toNatClampNeg) (p1.toNatClampNeg) p2) (S 2 p0.toNatClampNeg) (S 3 p0.toNatClampNeg 0) (S 4 p0.toNatClampNeg 0) (S 5 p0.toNatClampNeg 0) (S 6 p0.toNatClampNeg 0)) 1 p0.toNatClampNeg) ((setT S p0.toNatClampNeg (upd (S 1 p0.toNatClampNeg) (p1.toNatClampNeg) p2) (S 2 p0.toNatClampNeg) (S 3 p0.toNatClampNeg 0) (S 4 p0.toNatClampNeg 0) (S 5 p0.toNatClampNeg 0) (S 6 p0.toNatClampNeg 0)) 2 p0.toNatClampNeg) ((setT S p0.toNatClampNeg (upd (S 1 p0.toNatClampNeg) (p1.toNatClampNeg) p2) (S 2 p0.toNatClampNeg) (S 3 p0.toNatClampNeg 0) (S 4 p0.toNatClampNeg 0) (S 5 p0.toNatClampNeg 0) (S 6 p0.toNatClampNeg 0)) 3 p0.toNatClampNeg 0) ((setT S p0.toNatClampNeg (upd (S 1 p0.toNatClampNeg) (p1.toNatClampNeg) p2) (S 2 p0.toNatClampNeg) (S 3 p0.toNatClampNeg 0) (S 4 p0.toNatClampNeg 0) (S 5 p0.toNatClampNeg 0) (S 6 p0.toNatClampNeg 0)) 4 p0.toNatClampNeg 0) ((setT S p0.toNatClampNeg (upd (S 1 p0.toNatClampNeg) (p1.toNatClampNeg) p2) (S 2 p0.toNatClampNeg) (S 3 p0.toNatClampNeg 0) (S 4 p0.toNatClampNeg 0) (S 5 p0.toNatClampNeg 0) (S 6 p0.toNatClampNeg 0)) 5 p0.toNatClampNeg 0) ((setT S p0.toNatClampNeg (upd (S 1 p0.toNatClampNeg) (p1.toNatClampNeg) p2) (S 2 p0.toNatClampNeg) (S 3 p0.toNatClampNeg 0) (S 4 p0.toNatClampNeg 0) (S 5 p0.toNatClampNeg 0) (S 6 p0.toNatClampNeg 0)) 6 p0.toNatClampNeg 0)) (cwV 0 hts gX2_bid_X1_countStanding rfl rfl rfl (by decide +kernel) ⟨Nat.le_of_ble_eq_true rfl, Nat.le_of_ble_eq_true rfl⟩) (hT p0.toNatClampNeg (tIn_lt hs_2 (by omega))) hK hE (va_recv hK (hT p0.toNatClampNeg (tIn_lt hs_2 (by omega))) (ci := 1) (q0 := 0) rfl rfl) rfl rfl hl.1 (Nat.le_of_ble_eq_true rfl) dX2_bid_82 ⟨Nat.le_of_ble_eq_true rfl, Nat.le_of_ble_eq_true rfl⟩ ?_
            have hsp : sp_X2_bid n S p0 p1 p2 = ((0, sp_X1_countStanding ((setT S p0.toNatClampNeg (upd (S 1 p0.toNatClampNeg) (p1.toNatClampNeg) p2) (S 2 p0.toNatClampNeg) (S 3 p0.toNatClampNeg 0) (S 4 p0.toNatClampNeg 0) (S 5 p0.toNatClampNeg 0) (S 6 p0.toNatClampNeg 0)) 1 p0.toNatClampNeg) ((setT S p0.toNatClampNeg (upd (S 1 p0.toNatClampNeg) (p1.toNatClampNeg) p2) (S 2 p0.toNatClampNeg) (S 3 p0.toNatClampNeg 0) (S 4 p0.toNatClampNeg 0) (S 5 p0.toNatClampNeg 0) (S 6 p0.toNatClampNeg 0)) 2 p0.toNatClampNeg), (setT S p0.toNatClampNeg (upd (S 1 p0.toNatClampNeg) (p1.toNatClampNeg) p2) (S 2 p0.toNatClampNeg) (S 3 p0.toNatClampNeg 0) (S 4 p0.toNatClampNeg 0) (S 5 p0.toNatClampNeg 0) (S 6 p0.toNatClampNeg 0))) : Int32 × Int32 × (Nat → Nat → Nat → Int32)) := Eq.trans (if_pos hs_2) (Eq.trans (if_pos c_26) (Eq.trans (if_pos c_33) (Eq.trans (if_pos c_51) (Eq.trans (if_neg (ntr c_60)) (rfl)))))
            have hXe := hXP
            have hSe := hS
            refine vx_ret (W.widen (k := 4) (n := 60) (Nat.le_of_ble_eq_true rfl) (Nat.le_of_ble_eq_true rfl) ?_)
            exact W.iret (v := sp_X1_countStanding ((setT S p0.toNatClampNeg (upd (S 1 p0.toNatClampNeg) (p1.toNatClampNeg) p2) (S 2 p0.toNatClampNeg) (S 3 p0.toNatClampNeg 0) (S 4 p0.toNatClampNeg 0) (S 5 p0.toNatClampNeg 0) (S 6 p0.toNatClampNeg 0)) 1 p0.toNatClampNeg) ((setT S p0.toNatClampNeg (upd (S 1 p0.toNatClampNeg) (p1.toNatClampNeg) p2) (S 2 p0.toNatClampNeg) (S 3 p0.toNatClampNeg 0) (S 4 p0.toNatClampNeg 0) (S 5 p0.toNatClampNeg 0) (S 6 p0.toNatClampNeg 0)) 2 p0.toNatClampNeg)) hx hb hr (fun t ht hW => ⟨⟨_, (), rfl, ⟨by rw [hsp], by rw [hsp]⟩, by dsimp only; rw [ht, hsp]; exact hXe⟩, hSe.F ht⟩) hSe.2.2 dX2_bid_85
          · skip
            have hsp : sp_X2_bid n S p0 p1 p2 = ((3, 0, S) : Int32 × Int32 × (Nat → Nat → Nat → Int32)) := Eq.trans (if_pos hs_2) (Eq.trans (if_pos c_26) (Eq.trans (if_pos c_33) (Eq.trans (if_pos c_51) (Eq.trans (if_pos c_60) (rfl)))))
            obtain ⟨sa_63, hstr_63⟩ := hX.1 (71, "the tender is not open, or the bidder has made a bid") (by decide)
            exact vx_throwS (own := RX2) (cls := "java/lang/IllegalStateException") (text := "the tender is not open, or the bidder has made a bid") (names := ["java/lang/RuntimeException", "java/lang/Exception"]) (ik := 35) (is := 71) (ic := 39) hx hb hl0 hown x_fit39 x_fits (hts (.classLink RX2 35 "java/lang/IllegalStateException") (by decide +kernel)) (hts (.initialized "java/lang/IllegalStateException") (by decide +kernel)) hstr_63 (x_hat39 (fun w h => hts w (List.mem_cons_of_mem _ (List.mem_append_right _ h))) hX) x_good39 hZ.1 hZ.2 hS0 (hl.1.trans hml.symm) dX2_bid_63 dX2_bid_66 dX2_bid_67 dX2_bid_69 dX2_bid_72 (fun x h => (hnox x h).elim) (Nat.le_of_ble_eq_true rfl) (Nat.le_of_ble_eq_true rfl) (Nat.le_of_ble_eq_true rfl) (Nat.le_of_ble_eq_true rfl) hlocks (fun t hv hz hk => ⟨(), trivial, ⟨by rw [hsp]; exact Or.inr (Or.inr ⟨rfl, rfl⟩), hXP.kept hk⟩, ⟨hz, fun q h1 _ => hk q h1⟩⟩) hS0.2.2 (Nat.le_of_ble_eq_true rfl) (Nat.le_of_ble_eq_true rfl)
      · skip
        have hsp : sp_X2_bid n S p0 p1 p2 = ((2, 0, S) : Int32 × Int32 × (Nat → Nat → Nat → Int32)) := Eq.trans (if_pos hs_2) (Eq.trans (if_pos c_26) (Eq.trans (if_neg (ntr c_33)) (rfl)))
        obtain ⟨sa_36, hstr_36⟩ := hX.1 (61, "bidder or sum is out of range") (by decide)
        exact vx_throwS (own := RX2) (cls := "java/lang/IllegalArgumentException") (text := "bidder or sum is out of range") (names := ["java/lang/RuntimeException", "java/lang/Exception"]) (ik := 59) (is := 61) (ic := 63) hx hb hl0 hown x_fit63 x_fits (hts (.classLink RX2 59 "java/lang/IllegalArgumentException") (by decide +kernel)) (hts (.initialized "java/lang/IllegalArgumentException") (by decide +kernel)) hstr_36 (x_hat63 (fun w h => hts w (List.mem_cons_of_mem _ (List.mem_append_left _ (List.mem_append_right _ h)))) hX) x_good63 hZ.1 hZ.2 hS0 (hl.1.trans hml.symm) dX2_bid_36 dX2_bid_39 dX2_bid_40 dX2_bid_42 dX2_bid_45 (fun x h => (hnox x h).elim) (Nat.le_of_ble_eq_true rfl) (Nat.le_of_ble_eq_true rfl) (Nat.le_of_ble_eq_true rfl) (Nat.le_of_ble_eq_true rfl) hlocks (fun t hv hz hk => ⟨(), trivial, ⟨by rw [hsp]; exact Or.inr (Or.inl ⟨rfl, rfl⟩), hXP.kept hk⟩, ⟨hz, fun q h1 _ => hk q h1⟩⟩) hS0.2.2 (Nat.le_of_ble_eq_true rfl) (Nat.le_of_ble_eq_true rfl)
  · skip
    refine W.eq (g2 := F0 m 5 ls [.null]) (by rw [qs_2]; rfl) ?_
    refine lv_astoreN (lv' := [(4, .null), (0, .ref (ad 0 0)), (1, .int p0), (2, .int p1), (3, .int p2)]) hx hb dX2_bid_5 hl (by decide) rfl (fun ls hl => ?_)
    refine lv_aloadN hx hb dX2_bid_7 (lv_at hl 0 rfl) ?_
    refine lv_ifnonnullN hx hb dX2_bid_9 ?_
    have hsp : sp_X2_bid n S p0 p1 p2 = ((1, 0, S) : Int32 × Int32 × (Nat → Nat → Nat → Int32)) := Eq.trans (if_neg (ntr hs_2)) (rfl)
    obtain ⟨sa_12, hstr_12⟩ := hX.1 (49, "no such tender") (by decide)
    exact vx_throwS (own := RX2) (cls := "java/lang/IndexOutOfBoundsException") (text := "no such tender") (names := ["java/lang/RuntimeException", "java/lang/Exception"]) (ik := 47) (is := 49) (ic := 51) hx hb hl0 hown x_fit51 x_fits (hts (.classLink RX2 47 "java/lang/IndexOutOfBoundsException") (by decide +kernel)) (hts (.initialized "java/lang/IndexOutOfBoundsException") (by decide +kernel)) hstr_12 (x_hat51 (fun w h => hts w (List.mem_cons_of_mem _ (List.mem_append_left _ (List.mem_append_left _ (List.mem_append_right _ h))))) hX) x_good51 hZ.1 hZ.2 hS0 (hl.1.trans hml.symm) dX2_bid_12 dX2_bid_15 dX2_bid_16 dX2_bid_18 dX2_bid_21 (fun x h => (hnox x h).elim) (Nat.le_of_ble_eq_true rfl) (Nat.le_of_ble_eq_true rfl) (Nat.le_of_ble_eq_true rfl) (Nat.le_of_ble_eq_true rfl) hlocks (fun t hv hz hk => ⟨(), trivial, ⟨by rw [hsp]; exact Or.inl ⟨rfl, rfl⟩, hXP.kept hk⟩, ⟨hz, fun q h1 _ => hk q h1⟩⟩) hS0.2.2 (Nat.le_of_ble_eq_true rfl) (Nat.le_of_ble_eq_true rfl)

def sp_X2_withdraw (n : Nat) (S : Nat → Nat → Nat → Int32) (p0 : Int32) (p1 : Int32) : Int32 × Int32 × (Nat → Nat → Nat → Int32) := if tIn n p0 = true then (if sp_X2_isBidder p1 = true then (if sp_X1_isOpen (S 3 p0.toNatClampNeg 0) = true then (if sp_X1_isStanding (S 1 p0.toNatClampNeg) (S 2 p0.toNatClampNeg) p1 = true then ((0, sp_X1_sumOf ((setT S p0.toNatClampNeg (S 1 p0.toNatClampNeg) (upd (S 2 p0.toNatClampNeg) (p1.toNatClampNeg) 1) (S 3 p0.toNatClampNeg 0) (S 4 p0.toNatClampNeg 0) (S 5 p0.toNatClampNeg 0) (S 6 p0.toNatClampNeg 0)) 1 p0.toNatClampNeg) p1, (setT S p0.toNatClampNeg (S 1 p0.toNatClampNeg) (upd (S 2 p0.toNatClampNeg) (p1.toNatClampNeg) 1) (S 3 p0.toNatClampNeg 0) (S 4 p0.toNatClampNeg 0) (S 5 p0.toNatClampNeg 0) (S 6 p0.toNatClampNeg 0)))) else ((3, 0, S))) else ((3, 0, S))) else ((2, 0, S))) else ((1, 0, S))
set_option maxHeartbeats 4000000 in
set_option maxRecDepth 100000 in
theorem c_X2_withdraw (l : Launch) (hl0 : l.stackTraces = false) (D : va_G) (K : Nat → ClassId) (sz : Nat) (ad : Nat → Nat → Nat) (n d : Nat) (S : Nat → Nat → Nat → Int32) (p0 p1 : Int32) (hDJ : DJ ad n d) : XMet l yX2_withdraw wsX2_withdraw 6 100 D K [.ref (ad 0 0), .int p0, .int p1] sz (XA ad sz) (fun H => XP D K ad n d S H) ((sp_X2_withdraw n S p0 p1).2.1) ((sp_X2_withdraw n S p0 p1).1) (fun H => XP D K ad n d ((sp_X2_withdraw n S p0 p1).2.2) H) "java/lang/IndexOutOfBoundsException" "java/lang/IllegalArgumentException" "java/lang/IllegalStateException" := by
  refine vx_ofW (cc := cX2_withdraw) (maxL := 4) (ret := (some .int)) (by decide) rfl ?_
  intro p e s m args below meth c s₁ B hml hnox hv
  obtain ⟨rfl, hsz, hZ, hX, hP, hK, hE⟩ := hv
  have hx := B.exec
  have hb := B.bytes
  have hr := B.returns
  have hts := atoms_spec (ws := wsX2_withdraw) B.pre
  have hown : s.vm.findClass RX2 = some m.cls := findClass_of_methodNamed B.named
  have hlocks := B.notSynchronized
  have hc : CallFix p m c cX2_withdraw 4 s ([.ref (ad 0 0), .int p0, .int p1] : List Value).toArray wsX2_withdraw RX2 := ⟨hx, hb, hml, hown, hts⟩
  subst hsz
  have hXP := hP
  obtain ⟨hn, hd, hP, hT, hF⟩ := hP
  have hP : va_P D vwCl (xW K ad n d S) s.heap := hP
  have hS0 : va_S (XA ad s.heap.size) s.heap s.heap [] := va_S.rf
  have hl := lv_entry ([.ref (ad 0 0), .int p0, .int p1]) (n := 4) (Nat.le_of_ble_eq_true rfl)
  rw [lg_entry_eq]
  generalize (lg_sl ([.ref (ad 0 0), .int p0, .int p1]) ++ List.replicate (4 - (lg_sl ([.ref (ad 0 0), .int p0, .int p1])).length) Slot.unset).toArray = ls at hl ⊢
  have hl : lv_has ls 4 [(0, .ref (ad 0 0)), (1, .int p0), (2, .int p1)] := hl
  refine lv_aload_n hx hb dX2_withdraw_0 rfl (lv_at hl 0 rfl) ?_
  refine lv_iload_n hx hb dX2_withdraw_1 rfl (lv_at hl 1 rfl) ?_
  refine pu_V (As := [.int p0]) (rest := []) hc (c_X2_tenderAt l D K ad n d S p0) (cwV 1 hts gX2_withdraw_X2_tenderAt rfl rfl rfl (by decide +kernel) ⟨Nat.le_of_ble_eq_true rfl, Nat.le_of_ble_eq_true rfl⟩) hXP hK hE (va_recv hK hP (ci := 2) (q0 := 0) rfl rfl) rfl rfl hl.1 (Nat.le_of_ble_eq_true rfl) dX2_withdraw_2 ⟨Nat.le_of_ble_eq_true rfl, Nat.le_of_ble_eq_true rfl⟩ ?_
  rcases tAt_or (ad := ad) (x := p0) hn with ⟨hs_2, qs_2⟩ | ⟨hs_2, qs_2⟩
  · skip
    refine W.eq (g2 := F0 m 5 ls [.ref (ad 4 p0.toNatClampNeg)]) (by rw [qs_2]; rfl) ?_
    refine lv_astore_n (lv' := [(3, .ref (ad 4 p0.toNatClampNeg)), (0, .ref (ad 0 0)), (1, .int p0), (2, .int p1)]) hx hb dX2_withdraw_5 rfl hl (by decide) rfl (fun ls hl => ?_)
    refine lv_aload_n hx hb dX2_withdraw_6 rfl (lv_at hl 0 rfl) ?_
    refine lv_ifnonnull (tgt := 20) hx hb dX2_withdraw_7 (by decide) ?_
    refine lv_iload_n hx hb dX2_withdraw_20 rfl (lv_at hl 3 rfl) ?_
    refine pu_S (As := [.int p1]) (rest := []) hc (c_X2_isBidder l D K p1) (va_cwS 1 hts gX2_withdraw_X2_isBidder rfl rfl rfl (by decide +kernel) ⟨Nat.le_of_ble_eq_true rfl, Nat.le_of_ble_eq_true rfl⟩) trivial hK hE rfl rfl hl.1 (Nat.le_of_ble_eq_true rfl) dX2_withdraw_21 ⟨Nat.le_of_ble_eq_true rfl, Nat.le_of_ble_eq_true rfl⟩ ?_
    refine lb_ne (tgt := 37) hx hb dX2_withdraw_24 (by decide) (fun c_24 => ?_) (fun c_24 => ?_)
    · skip
      refine lv_aload_n hx hb dX2_withdraw_37 rfl (lv_at hl 0 rfl) ?_
      refine pu_V (As := []) (rest := []) hc (c_X1_isOpen l D K (ad 4 p0.toNatClampNeg) (ad 5 p0.toNatClampNeg) (ad 6 p0.toNatClampNeg) (S 1 p0.toNatClampNeg) (S 2 p0.toNatClampNeg) (S 3 p0.toNatClampNeg 0) (S 4 p0.toNatClampNeg 0) (S 5 p0.toNatClampNeg 0) (S 6 p0.toNatClampNeg 0)) (cwV 0 hts gX2_withdraw_X1_isOpen rfl rfl rfl (by decide +kernel) ⟨Nat.le_of_ble_eq_true rfl, Nat.le_of_ble_eq_true rfl⟩) (hT p0.toNatClampNeg (tIn_lt hs_2 (by omega))) hK hE (va_recv hK (hT p0.toNatClampNeg (tIn_lt hs_2 (by omega))) (ci := 1) (q0 := 0) rfl rfl) rfl rfl hl.1 (Nat.le_of_ble_eq_true rfl) dX2_withdraw_38 ⟨Nat.le_of_ble_eq_true rfl, Nat.le_of_ble_eq_true rfl⟩ ?_
      refine lb_eq (tgt := 52) hx hb dX2_withdraw_41 (by decide) (fun c_41 => ?_) (fun c_41 => ?_)
      · skip
        have hsp : sp_X2_withdraw n S p0 p1 = ((3, 0, S) : Int32 × Int32 × (Nat → Nat → Nat → Int32)) := Eq.trans (if_pos hs_2) (Eq.trans (if_pos c_24) (Eq.trans (if_neg (ntr c_41)) (rfl)))
        obtain ⟨sa_52, hstr_52⟩ := hX.1 (86, "the tender is not open, or the bidder does not stand in it") (by decide)
        exact vx_throwS (own := RX2) (cls := "java/lang/IllegalStateException") (text := "the tender is not open, or the bidder does not stand in it") (names := ["java/lang/RuntimeException", "java/lang/Exception"]) (ik := 35) (is := 86) (ic := 39) hx hb hl0 hown x_fit39 x_fits (hts (.classLink RX2 35 "java/lang/IllegalStateException") (by decide +kernel)) (hts (.initialized "java/lang/IllegalStateException") (by decide +kernel)) hstr_52 (x_hat39 (fun w h => hts w (List.mem_cons_of_mem _ (List.mem_append_right _ h))) hX) x_good39 hZ.1 hZ.2 hS0 (hl.1.trans hml.symm) dX2_withdraw_52 dX2_withdraw_55 dX2_withdraw_56 dX2_withdraw_58 dX2_withdraw_61 (fun x h => (hnox x h).elim) (Nat.le_of_ble_eq_true rfl) (Nat.le_of_ble_eq_true rfl) (Nat.le_of_ble_eq_true rfl) (Nat.le_of_ble_eq_true rfl) hlocks (fun t hv hz hk => ⟨(), trivial, ⟨by rw [hsp]; exact Or.inr (Or.inr ⟨rfl, rfl⟩), hXP.kept hk⟩, ⟨hz, fun q h1 _ => hk q h1⟩⟩) hS0.2.2 (Nat.le_of_ble_eq_true rfl) (Nat.le_of_ble_eq_true rfl)
      · skip
        refine lv_aload_n hx hb dX2_withdraw_44 rfl (lv_at hl 0 rfl) ?_
        refine lv_iload_n hx hb dX2_withdraw_45 rfl (lv_at hl 3 rfl) ?_
        refine pu_V (As := [.int p1]) (rest := []) hc (c_X1_isStanding l D K (ad 4 p0.toNatClampNeg) (ad 5 p0.toNatClampNeg) (ad 6 p0.toNatClampNeg) (S 1 p0.toNatClampNeg) (S 2 p0.toNatClampNeg) (S 3 p0.toNatClampNeg 0) (S 4 p0.toNatClampNeg 0) (S 5 p0.toNatClampNeg 0) (S 6 p0.toNatClampNeg 0) p1) (cwV 1 hts gX2_withdraw_X1_isStanding rfl rfl rfl (by decide +kernel) ⟨Nat.le_of_ble_eq_true rfl, Nat.le_of_ble_eq_true rfl⟩) (hT p0.toNatClampNeg (tIn_lt hs_2 (by omega))) hK hE (va_recv hK (hT p0.toNatClampNeg (tIn_lt hs_2 (by omega))) (ci := 1) (q0 := 0) rfl rfl) rfl rfl hl.1 (Nat.le_of_ble_eq_true rfl) dX2_withdraw_46 ⟨Nat.le_of_ble_eq_true rfl, Nat.le_of_ble_eq_true rfl⟩ ?_
        refine lb_ne (tgt := 62) hx hb dX2_withdraw_49 (by decide) (fun c_49 => ?_) (fun c_49 => ?_)
        · skip
          refine lv_aload_n hx hb dX2_withdraw_62 rfl (lv_at hl 0 rfl) ?_
          refine lv_iload_n hx hb dX2_withdraw_63 rfl (lv_at hl 3 rfl) ?_
          refine ef_Vv (As := [.int p1]) (rest := []) hc (c_X1_giveBack l D K (s.heap.size) (ad 4 p0.toNatClampNeg) (ad 5 p0.toNatClampNeg) (ad 6 p0.toNatClampNeg) (S 1 p0.toNatClampNeg) (S 2 p0.toNatClampNeg) (S 3 p0.toNatClampNeg 0) (S 4 p0.toNatClampNeg 0) (S 5 p0.toNatClampNeg 0) (S 6 p0.toNatClampNeg 0) p1 c_24) (cwV 1 hts gX2_withdraw_X1_giveBack rfl rfl rfl (by decide +kernel) ⟨Nat.le_of_ble_eq_true rfl, Nat.le_of_ble_eq_true rfl⟩) (hT p0.toNatClampNeg (tIn_lt hs_2 (by omega))) (X_apart hDJ (ids := xTi p0.toNatClampNeg) rfl (xTl (tIn_lt hs_2 (by omega))) xTn) hK hE (va_recv hK (hT p0.toNatClampNeg (tIn_lt hs_2 (by omega))) (ci := 1) (q0 := 0) rfl rfl) rfl rfl hl.1 (Nat.le_of_ble_eq_true rfl) dX2_withdraw_64 ⟨Nat.le_of_ble_eq_true rfl, Nat.le_of_ble_eq_true rfl⟩ hS0 (va_A_XA (ids := xTi p0.toNatClampNeg) rfl (Nat.le_refl _)) (fun H locs hP1 hD1 hz1 hk1 hS => ?_)
          have hXP := XP_upT (k := p0.toNatClampNeg) (tIn_lt hs_2 (by omega)) hDJ hXP hk1 hP1
          obtain ⟨-, -, hP, hT, hF⟩ := id hXP
          have hP : va_P D vwCl (xW K ad n d (setT S p0.toNatClampNeg (S 1 p0.toNatClampNeg) (upd (S 2 p0.toNatClampNeg) (p1.toNatClampNeg) 1) (S 3 p0.toNatClampNeg 0) (S 4 p0.toNatClampNeg 0) (S 5 p0.toNatClampNeg 0) (S 6 p0.toNatClampNeg 0))) H := hP
          refine lv_aload_n hx hb dX2_withdraw_67 rfl (lv_at hl 0 rfl) ?_
          refine lv_iload_n hx hb dX2_withdraw_68 rfl (lv_at hl 3 rfl) ?_
          refine pu_V (As := [.int p1]) (rest := []) hc (c_X1_sumOf l D K (ad 4 p0.toNatClampNeg) (ad 5 p0.toNatClampNeg) (ad 6 p0.toNatClampNeg) ((setT S p0.toNatClampNeg (S 1 p0.toNatClampNeg) (upd (S 2 p0.toNatClampNeg) (p1.toNatClampNeg) 1) (S 3 p0.toNatClampNeg 0) (S 4 p0.toNatClampNeg 0) (S 5 p0.toNatClampNeg 0) (S 6 p0.toNatClampNeg 0)) 1 p0.toNatClampNeg) ((setT S p0.toNatClampNeg (S 1 p0.toNatClampNeg) (upd (S 2 p0.toNatClampNeg) (p1.toNatClampNeg) 1) (S 3 p0.toNatClampNeg 0) (S 4 p0.toNatClampNeg 0) (S 5 p0.toNatClampNeg 0) (S 6 p0.toNatClampNeg 0)) 2 p0.toNatClampNeg) ((setT S p0.toNatClampNeg (S 1 p0.toNatClampNeg) (upd (S 2 p0.toNatClampNeg) (p1.toNatClampNeg) 1) (S 3 p0.toNatClampNeg 0) (S 4 p0.toNatClampNeg 0) (S 5 p0.toNatClampNeg 0) (S 6 p0.toNatClampNeg 0)) 3 p0.toNatClampNeg 0) ((setT S p0.toNatClampNeg (S 1 p0.toNatClampNeg) (upd (S 2 p0.toNatClampNeg) (p1.toNatClampNeg) 1) (S 3 p0.toNatClampNeg 0) (S 4 p0.toNatClampNeg 0) (S 5 p0.toNatClampNeg 0) (S 6 p0.toNatClampNeg 0)) 4 p0.toNatClampNeg 0) ((setT S p0.toNatClampNeg (S 1 p0.toNatClampNeg) (upd (S 2 p0.toNatClampNeg) (p1.toNatClampNeg) 1) (S 3 p0.toNatClampNeg 0) (S 4 p0.toNatClampNeg 0) (S 5 p0.toNatClampNeg 0) (S 6 p0.toNatClampNeg 0)) 5 p0.toNatClampNeg 0) ((setT S p0.toNatClampNeg (S 1 p0.toNatClampNeg) (upd (S 2 p0.toNatClampNeg) (p1.toNatClampNeg) 1) (S 3 p0.toNatClampNeg 0) (S 4 p0.toNatClampNeg 0) (S 5 p0.toNatClampNeg 0) (S 6 p0.toNatClampNeg 0)) 6 p0.toNatClampNeg 0) p1) (cwV 1 hts gX2_withdraw_X1_sumOf rfl rfl rfl (by decide +kernel) ⟨Nat.le_of_ble_eq_true rfl, Nat.le_of_ble_eq_true rfl⟩) (hT p0.toNatClampNeg (tIn_lt hs_2 (by omega))) hK hE (va_recv hK (hT p0.toNatClampNeg (tIn_lt hs_2 (by omega))) (ci := 1) (q0 := 0) rfl rfl) rfl rfl hl.1 (Nat.le_of_ble_eq_true rfl) dX2_withdraw_69 ⟨Nat.le_of_ble_eq_true rfl, Nat.le_of_ble_eq_true rfl⟩ ?_
          have hsp : sp_X2_withdraw n S p0 p1 = ((0, sp_X1_sumOf ((setT S p0.toNatClampNeg (S 1 p0.toNatClampNeg) (upd (S 2 p0.toNatClampNeg) (p1.toNatClampNeg) 1) (S 3 p0.toNatClampNeg 0) (S 4 p0.toNatClampNeg 0) (S 5 p0.toNatClampNeg 0) (S 6 p0.toNatClampNeg 0)) 1 p0.toNatClampNeg) p1, (setT S p0.toNatClampNeg (S 1 p0.toNatClampNeg) (upd (S 2 p0.toNatClampNeg) (p1.toNatClampNeg) 1) (S 3 p0.toNatClampNeg 0) (S 4 p0.toNatClampNeg 0) (S 5 p0.toNatClampNeg 0) (S 6 p0.toNatClampNeg 0))) : Int32 × Int32 × (Nat → Nat → Nat → Int32)) := Eq.trans (if_pos hs_2) (Eq.trans (if_pos c_24) (Eq.trans (if_pos c_41) (Eq.trans (if_pos c_49) (rfl))))
          have hXe := hXP
          have hSe := hS
          refine vx_ret (W.widen (k := 4) (n := 60) (Nat.le_of_ble_eq_true rfl) (Nat.le_of_ble_eq_true rfl) ?_)
          exact W.iret (v := sp_X1_sumOf ((setT S p0.toNatClampNeg (S 1 p0.toNatClampNeg) (upd (S 2 p0.toNatClampNeg) (p1.toNatClampNeg) 1) (S 3 p0.toNatClampNeg 0) (S 4 p0.toNatClampNeg 0) (S 5 p0.toNatClampNeg 0) (S 6 p0.toNatClampNeg 0)) 1 p0.toNatClampNeg) p1) hx hb hr (fun t ht hW => ⟨⟨_, (), rfl, ⟨by rw [hsp], by rw [hsp]⟩, by dsimp only; rw [ht, hsp]; exact hXe⟩, hSe.F ht⟩) hSe.2.2 dX2_withdraw_72
        · skip
          have hsp : sp_X2_withdraw n S p0 p1 = ((3, 0, S) : Int32 × Int32 × (Nat → Nat → Nat → Int32)) := Eq.trans (if_pos hs_2) (Eq.trans (if_pos c_24) (Eq.trans (if_pos c_41) (Eq.trans (if_neg (ntr c_49)) (rfl))))
          obtain ⟨sa_52, hstr_52⟩ := hX.1 (86, "the tender is not open, or the bidder does not stand in it") (by decide)
          exact vx_throwS (own := RX2) (cls := "java/lang/IllegalStateException") (text := "the tender is not open, or the bidder does not stand in it") (names := ["java/lang/RuntimeException", "java/lang/Exception"]) (ik := 35) (is := 86) (ic := 39) hx hb hl0 hown x_fit39 x_fits (hts (.classLink RX2 35 "java/lang/IllegalStateException") (by decide +kernel)) (hts (.initialized "java/lang/IllegalStateException") (by decide +kernel)) hstr_52 (x_hat39 (fun w h => hts w (List.mem_cons_of_mem _ (List.mem_append_right _ h))) hX) x_good39 hZ.1 hZ.2 hS0 (hl.1.trans hml.symm) dX2_withdraw_52 dX2_withdraw_55 dX2_withdraw_56 dX2_withdraw_58 dX2_withdraw_61 (fun x h => (hnox x h).elim) (Nat.le_of_ble_eq_true rfl) (Nat.le_of_ble_eq_true rfl) (Nat.le_of_ble_eq_true rfl) (Nat.le_of_ble_eq_true rfl) hlocks (fun t hv hz hk => ⟨(), trivial, ⟨by rw [hsp]; exact Or.inr (Or.inr ⟨rfl, rfl⟩), hXP.kept hk⟩, ⟨hz, fun q h1 _ => hk q h1⟩⟩) hS0.2.2 (Nat.le_of_ble_eq_true rfl) (Nat.le_of_ble_eq_true rfl)
    · skip
      have hsp : sp_X2_withdraw n S p0 p1 = ((2, 0, S) : Int32 × Int32 × (Nat → Nat → Nat → Int32)) := Eq.trans (if_pos hs_2) (Eq.trans (if_neg (ntr c_24)) (rfl))
      obtain ⟨sa_27, hstr_27⟩ := hX.1 (81, "bidder is out of range") (by decide)
      exact vx_throwS (own := RX2) (cls := "java/lang/IllegalArgumentException") (text := "bidder is out of range") (names := ["java/lang/RuntimeException", "java/lang/Exception"]) (ik := 59) (is := 81) (ic := 63) hx hb hl0 hown x_fit63 x_fits (hts (.classLink RX2 59 "java/lang/IllegalArgumentException") (by decide +kernel)) (hts (.initialized "java/lang/IllegalArgumentException") (by decide +kernel)) hstr_27 (x_hat63 (fun w h => hts w (List.mem_cons_of_mem _ (List.mem_append_left _ (List.mem_append_right _ h)))) hX) x_good63 hZ.1 hZ.2 hS0 (hl.1.trans hml.symm) dX2_withdraw_27 dX2_withdraw_30 dX2_withdraw_31 dX2_withdraw_33 dX2_withdraw_36 (fun x h => (hnox x h).elim) (Nat.le_of_ble_eq_true rfl) (Nat.le_of_ble_eq_true rfl) (Nat.le_of_ble_eq_true rfl) (Nat.le_of_ble_eq_true rfl) hlocks (fun t hv hz hk => ⟨(), trivial, ⟨by rw [hsp]; exact Or.inr (Or.inl ⟨rfl, rfl⟩), hXP.kept hk⟩, ⟨hz, fun q h1 _ => hk q h1⟩⟩) hS0.2.2 (Nat.le_of_ble_eq_true rfl) (Nat.le_of_ble_eq_true rfl)
  · skip
    refine W.eq (g2 := F0 m 5 ls [.null]) (by rw [qs_2]; rfl) ?_
    refine lv_astore_nN (lv' := [(3, .null), (0, .ref (ad 0 0)), (1, .int p0), (2, .int p1)]) hx hb dX2_withdraw_5 rfl hl (by decide) rfl (fun ls hl => ?_)
    refine lv_aload_nN hx hb dX2_withdraw_6 rfl (lv_at hl 0 rfl) ?_
    refine lv_ifnonnullN hx hb dX2_withdraw_7 ?_
    have hsp : sp_X2_withdraw n S p0 p1 = ((1, 0, S) : Int32 × Int32 × (Nat → Nat → Nat → Int32)) := Eq.trans (if_neg (ntr hs_2)) (rfl)
    obtain ⟨sa_10, hstr_10⟩ := hX.1 (49, "no such tender") (by decide)
    exact vx_throwS (own := RX2) (cls := "java/lang/IndexOutOfBoundsException") (text := "no such tender") (names := ["java/lang/RuntimeException", "java/lang/Exception"]) (ik := 47) (is := 49) (ic := 51) hx hb hl0 hown x_fit51 x_fits (hts (.classLink RX2 47 "java/lang/IndexOutOfBoundsException") (by decide +kernel)) (hts (.initialized "java/lang/IndexOutOfBoundsException") (by decide +kernel)) hstr_10 (x_hat51 (fun w h => hts w (List.mem_cons_of_mem _ (List.mem_append_left _ (List.mem_append_left _ (List.mem_append_right _ h))))) hX) x_good51 hZ.1 hZ.2 hS0 (hl.1.trans hml.symm) dX2_withdraw_10 dX2_withdraw_13 dX2_withdraw_14 dX2_withdraw_16 dX2_withdraw_19 (fun x h => (hnox x h).elim) (Nat.le_of_ble_eq_true rfl) (Nat.le_of_ble_eq_true rfl) (Nat.le_of_ble_eq_true rfl) (Nat.le_of_ble_eq_true rfl) hlocks (fun t hv hz hk => ⟨(), trivial, ⟨by rw [hsp]; exact Or.inl ⟨rfl, rfl⟩, hXP.kept hk⟩, ⟨hz, fun q h1 _ => hk q h1⟩⟩) hS0.2.2 (Nat.le_of_ble_eq_true rfl) (Nat.le_of_ble_eq_true rfl)

def sp_X2_award (n : Nat) (S : Nat → Nat → Nat → Int32) (p0 : Int32) : Int32 × Int32 × (Nat → Nat → Nat → Int32) := if tIn n p0 = true then (if sp_X1_isOpen (S 3 p0.toNatClampNeg 0) = true then ((0, sp_X1_winner ((setT S p0.toNatClampNeg (S 1 p0.toNatClampNeg) (S 2 p0.toNatClampNeg) 1 (sp_X1_decide_L4 (S 1 p0.toNatClampNeg) (S 2 p0.toNatClampNeg) 7) (S 5 p0.toNatClampNeg 0) (S 6 p0.toNatClampNeg 0)) 4 p0.toNatClampNeg 0), (setT S p0.toNatClampNeg (S 1 p0.toNatClampNeg) (S 2 p0.toNatClampNeg) 1 (sp_X1_decide_L4 (S 1 p0.toNatClampNeg) (S 2 p0.toNatClampNeg) 7) (S 5 p0.toNatClampNeg 0) (S 6 p0.toNatClampNeg 0)))) else ((2, 0, S))) else ((1, 0, S))
set_option maxHeartbeats 4000000 in
set_option maxRecDepth 100000 in
theorem c_X2_award (l : Launch) (hl0 : l.stackTraces = false) (D : va_G) (K : Nat → ClassId) (sz : Nat) (ad : Nat → Nat → Nat) (n d : Nat) (S : Nat → Nat → Nat → Int32) (p0 : Int32) (hDJ : DJ ad n d) : XMet l yX2_award wsX2_award 6 100 D K [.ref (ad 0 0), .int p0] sz (XA ad sz) (fun H => XP D K ad n d S H) ((sp_X2_award n S p0).2.1) ((sp_X2_award n S p0).1) (fun H => XP D K ad n d ((sp_X2_award n S p0).2.2) H) "java/lang/IndexOutOfBoundsException" "java/lang/IllegalStateException" "" := by
  refine vx_ofW (cc := cX2_award) (maxL := 3) (ret := (some .int)) (by decide) rfl ?_
  intro p e s m args below meth c s₁ B hml hnox hv
  obtain ⟨rfl, hsz, hZ, hX, hP, hK, hE⟩ := hv
  have hx := B.exec
  have hb := B.bytes
  have hr := B.returns
  have hts := atoms_spec (ws := wsX2_award) B.pre
  have hown : s.vm.findClass RX2 = some m.cls := findClass_of_methodNamed B.named
  have hlocks := B.notSynchronized
  have hc : CallFix p m c cX2_award 3 s ([.ref (ad 0 0), .int p0] : List Value).toArray wsX2_award RX2 := ⟨hx, hb, hml, hown, hts⟩
  subst hsz
  have hXP := hP
  obtain ⟨hn, hd, hP, hT, hF⟩ := hP
  have hP : va_P D vwCl (xW K ad n d S) s.heap := hP
  have hS0 : va_S (XA ad s.heap.size) s.heap s.heap [] := va_S.rf
  have hl := lv_entry ([.ref (ad 0 0), .int p0]) (n := 3) (Nat.le_of_ble_eq_true rfl)
  rw [lg_entry_eq]
  generalize (lg_sl ([.ref (ad 0 0), .int p0]) ++ List.replicate (3 - (lg_sl ([.ref (ad 0 0), .int p0])).length) Slot.unset).toArray = ls at hl ⊢
  have hl : lv_has ls 3 [(0, .ref (ad 0 0)), (1, .int p0)] := hl
  refine lv_aload_n hx hb dX2_award_0 rfl (lv_at hl 0 rfl) ?_
  refine lv_iload_n hx hb dX2_award_1 rfl (lv_at hl 1 rfl) ?_
  refine pu_V (As := [.int p0]) (rest := []) hc (c_X2_tenderAt l D K ad n d S p0) (cwV 1 hts gX2_award_X2_tenderAt rfl rfl rfl (by decide +kernel) ⟨Nat.le_of_ble_eq_true rfl, Nat.le_of_ble_eq_true rfl⟩) hXP hK hE (va_recv hK hP (ci := 2) (q0 := 0) rfl rfl) rfl rfl hl.1 (Nat.le_of_ble_eq_true rfl) dX2_award_2 ⟨Nat.le_of_ble_eq_true rfl, Nat.le_of_ble_eq_true rfl⟩ ?_
  rcases tAt_or (ad := ad) (x := p0) hn with ⟨hs_2, qs_2⟩ | ⟨hs_2, qs_2⟩
  · skip
    refine W.eq (g2 := F0 m 5 ls [.ref (ad 4 p0.toNatClampNeg)]) (by rw [qs_2]; rfl) ?_
    refine lv_astore_n (lv' := [(2, .ref (ad 4 p0.toNatClampNeg)), (0, .ref (ad 0 0)), (1, .int p0)]) hx hb dX2_award_5 rfl hl (by decide) rfl (fun ls hl => ?_)
    refine lv_aload_n hx hb dX2_award_6 rfl (lv_at hl 0 rfl) ?_
    refine lv_ifnonnull (tgt := 20) hx hb dX2_award_7 (by decide) ?_
    refine lv_aload_n hx hb dX2_award_20 rfl (lv_at hl 0 rfl) ?_
    refine pu_V (As := []) (rest := []) hc (c_X1_isOpen l D K (ad 4 p0.toNatClampNeg) (ad 5 p0.toNatClampNeg) (ad 6 p0.toNatClampNeg) (S 1 p0.toNatClampNeg) (S 2 p0.toNatClampNeg) (S 3 p0.toNatClampNeg 0) (S 4 p0.toNatClampNeg 0) (S 5 p0.toNatClampNeg 0) (S 6 p0.toNatClampNeg 0)) (cwV 0 hts gX2_award_X1_isOpen rfl rfl rfl (by decide +kernel) ⟨Nat.le_of_ble_eq_true rfl, Nat.le_of_ble_eq_true rfl⟩) (hT p0.toNatClampNeg (tIn_lt hs_2 (by omega))) hK hE (va_recv hK (hT p0.toNatClampNeg (tIn_lt hs_2 (by omega))) (ci := 1) (q0 := 0) rfl rfl) rfl rfl hl.1 (Nat.le_of_ble_eq_true rfl) dX2_award_21 ⟨Nat.le_of_ble_eq_true rfl, Nat.le_of_ble_eq_true rfl⟩ ?_
    refine lb_ne (tgt := 37) hx hb dX2_award_24 (by decide) (fun c_24 => ?_) (fun c_24 => ?_)
    · skip
      refine lv_aload_n hx hb dX2_award_37 rfl (lv_at hl 0 rfl) ?_
      refine ef_Vv (As := []) (rest := []) hc (c_X1_decide l D K (s.heap.size) (ad 4 p0.toNatClampNeg) (ad 5 p0.toNatClampNeg) (ad 6 p0.toNatClampNeg) (S 1 p0.toNatClampNeg) (S 2 p0.toNatClampNeg) (S 3 p0.toNatClampNeg 0) (S 4 p0.toNatClampNeg 0) (S 5 p0.toNatClampNeg 0) (S 6 p0.toNatClampNeg 0)) (cwV 0 hts gX2_award_X1_decide rfl rfl rfl (by decide +kernel) ⟨Nat.le_of_ble_eq_true rfl, Nat.le_of_ble_eq_true rfl⟩) (hT p0.toNatClampNeg (tIn_lt hs_2 (by omega))) (X_apart hDJ (ids := xTi p0.toNatClampNeg) rfl (xTl (tIn_lt hs_2 (by omega))) xTn) hK hE (va_recv hK (hT p0.toNatClampNeg (tIn_lt hs_2 (by omega))) (ci := 1) (q0 := 0) rfl rfl) rfl rfl hl.1 (Nat.le_of_ble_eq_true rfl) dX2_award_38 ⟨Nat.le_of_ble_eq_true rfl, Nat.le_of_ble_eq_true rfl⟩ hS0 (va_A_XA (ids := xTi p0.toNatClampNeg) rfl (Nat.le_refl _)) (fun H locs hP1 hD1 hz1 hk1 hS => ?_)
      have hXP := XP_upT (k := p0.toNatClampNeg) (tIn_lt hs_2 (by omega)) hDJ hXP hk1 hP1
      obtain ⟨-, -, hP, hT, hF⟩ := id hXP
      have hP : va_P D vwCl (xW K ad n d (setT S p0.toNatClampNeg (S 1 p0.toNatClampNeg) (S 2 p0.toNatClampNeg) 1 (sp_X1_decide_L4 (S 1 p0.toNatClampNeg) (S 2 p0.toNatClampNeg) 7) (S 5 p0.toNatClampNeg 0) (S 6 p0.toNatClampNeg 0))) H := hP
      refine lv_aload_n hx hb dX2_award_41 rfl (lv_at hl 0 rfl) ?_
      refine pu_V (As := []) (rest := []) hc (c_X1_winner l D K (ad 4 p0.toNatClampNeg) (ad 5 p0.toNatClampNeg) (ad 6 p0.toNatClampNeg) ((setT S p0.toNatClampNeg (S 1 p0.toNatClampNeg) (S 2 p0.toNatClampNeg) 1 (sp_X1_decide_L4 (S 1 p0.toNatClampNeg) (S 2 p0.toNatClampNeg) 7) (S 5 p0.toNatClampNeg 0) (S 6 p0.toNatClampNeg 0)) 1 p0.toNatClampNeg) ((setT S p0.toNatClampNeg (S 1 p0.toNatClampNeg) (S 2 p0.toNatClampNeg) 1 (sp_X1_decide_L4 (S 1 p0.toNatClampNeg) (S 2 p0.toNatClampNeg) 7) (S 5 p0.toNatClampNeg 0) (S 6 p0.toNatClampNeg 0)) 2 p0.toNatClampNeg) ((setT S p0.toNatClampNeg (S 1 p0.toNatClampNeg) (S 2 p0.toNatClampNeg) 1 (sp_X1_decide_L4 (S 1 p0.toNatClampNeg) (S 2 p0.toNatClampNeg) 7) (S 5 p0.toNatClampNeg 0) (S 6 p0.toNatClampNeg 0)) 3 p0.toNatClampNeg 0) ((setT S p0.toNatClampNeg (S 1 p0.toNatClampNeg) (S 2 p0.toNatClampNeg) 1 (sp_X1_decide_L4 (S 1 p0.toNatClampNeg) (S 2 p0.toNatClampNeg) 7) (S 5 p0.toNatClampNeg 0) (S 6 p0.toNatClampNeg 0)) 4 p0.toNatClampNeg 0) ((setT S p0.toNatClampNeg (S 1 p0.toNatClampNeg) (S 2 p0.toNatClampNeg) 1 (sp_X1_decide_L4 (S 1 p0.toNatClampNeg) (S 2 p0.toNatClampNeg) 7) (S 5 p0.toNatClampNeg 0) (S 6 p0.toNatClampNeg 0)) 5 p0.toNatClampNeg 0) ((setT S p0.toNatClampNeg (S 1 p0.toNatClampNeg) (S 2 p0.toNatClampNeg) 1 (sp_X1_decide_L4 (S 1 p0.toNatClampNeg) (S 2 p0.toNatClampNeg) 7) (S 5 p0.toNatClampNeg 0) (S 6 p0.toNatClampNeg 0)) 6 p0.toNatClampNeg 0)) (cwV 0 hts gX2_award_X1_winner rfl rfl rfl (by decide +kernel) ⟨Nat.le_of_ble_eq_true rfl, Nat.le_of_ble_eq_true rfl⟩) (hT p0.toNatClampNeg (tIn_lt hs_2 (by omega))) hK hE (va_recv hK (hT p0.toNatClampNeg (tIn_lt hs_2 (by omega))) (ci := 1) (q0 := 0) rfl rfl) rfl rfl hl.1 (Nat.le_of_ble_eq_true rfl) dX2_award_42 ⟨Nat.le_of_ble_eq_true rfl, Nat.le_of_ble_eq_true rfl⟩ ?_
      have hsp : sp_X2_award n S p0 = ((0, sp_X1_winner ((setT S p0.toNatClampNeg (S 1 p0.toNatClampNeg) (S 2 p0.toNatClampNeg) 1 (sp_X1_decide_L4 (S 1 p0.toNatClampNeg) (S 2 p0.toNatClampNeg) 7) (S 5 p0.toNatClampNeg 0) (S 6 p0.toNatClampNeg 0)) 4 p0.toNatClampNeg 0), (setT S p0.toNatClampNeg (S 1 p0.toNatClampNeg) (S 2 p0.toNatClampNeg) 1 (sp_X1_decide_L4 (S 1 p0.toNatClampNeg) (S 2 p0.toNatClampNeg) 7) (S 5 p0.toNatClampNeg 0) (S 6 p0.toNatClampNeg 0))) : Int32 × Int32 × (Nat → Nat → Nat → Int32)) := Eq.trans (if_pos hs_2) (Eq.trans (if_pos c_24) (rfl))
      have hXe := hXP
      have hSe := hS
      refine vx_ret (W.widen (k := 4) (n := 60) (Nat.le_of_ble_eq_true rfl) (Nat.le_of_ble_eq_true rfl) ?_)
      exact W.iret (v := sp_X1_winner ((setT S p0.toNatClampNeg (S 1 p0.toNatClampNeg) (S 2 p0.toNatClampNeg) 1 (sp_X1_decide_L4 (S 1 p0.toNatClampNeg) (S 2 p0.toNatClampNeg) 7) (S 5 p0.toNatClampNeg 0) (S 6 p0.toNatClampNeg 0)) 4 p0.toNatClampNeg 0)) hx hb hr (fun t ht hW => ⟨⟨_, (), rfl, ⟨by rw [hsp], by rw [hsp]⟩, by dsimp only; rw [ht, hsp]; exact hXe⟩, hSe.F ht⟩) hSe.2.2 dX2_award_45
    · skip
      have hsp : sp_X2_award n S p0 = ((2, 0, S) : Int32 × Int32 × (Nat → Nat → Nat → Int32)) := Eq.trans (if_pos hs_2) (Eq.trans (if_neg (ntr c_24)) (rfl))
      obtain ⟨sa_27, hstr_27⟩ := hX.1 (96, "the tender is not open") (by decide)
      exact vx_throwS (own := RX2) (cls := "java/lang/IllegalStateException") (text := "the tender is not open") (names := ["java/lang/RuntimeException", "java/lang/Exception"]) (ik := 35) (is := 96) (ic := 39) hx hb hl0 hown x_fit39 x_fits (hts (.classLink RX2 35 "java/lang/IllegalStateException") (by decide +kernel)) (hts (.initialized "java/lang/IllegalStateException") (by decide +kernel)) hstr_27 (x_hat39 (fun w h => hts w (List.mem_cons_of_mem _ (List.mem_append_right _ h))) hX) x_good39 hZ.1 hZ.2 hS0 (hl.1.trans hml.symm) dX2_award_27 dX2_award_30 dX2_award_31 dX2_award_33 dX2_award_36 (fun x h => (hnox x h).elim) (Nat.le_of_ble_eq_true rfl) (Nat.le_of_ble_eq_true rfl) (Nat.le_of_ble_eq_true rfl) (Nat.le_of_ble_eq_true rfl) hlocks (fun t hv hz hk => ⟨(), trivial, ⟨by rw [hsp]; exact Or.inr (Or.inl ⟨rfl, rfl⟩), hXP.kept hk⟩, ⟨hz, fun q h1 _ => hk q h1⟩⟩) hS0.2.2 (Nat.le_of_ble_eq_true rfl) (Nat.le_of_ble_eq_true rfl)
  · skip
    refine W.eq (g2 := F0 m 5 ls [.null]) (by rw [qs_2]; rfl) ?_
    refine lv_astore_nN (lv' := [(2, .null), (0, .ref (ad 0 0)), (1, .int p0)]) hx hb dX2_award_5 rfl hl (by decide) rfl (fun ls hl => ?_)
    refine lv_aload_nN hx hb dX2_award_6 rfl (lv_at hl 0 rfl) ?_
    refine lv_ifnonnullN hx hb dX2_award_7 ?_
    have hsp : sp_X2_award n S p0 = ((1, 0, S) : Int32 × Int32 × (Nat → Nat → Nat → Int32)) := Eq.trans (if_neg (ntr hs_2)) (rfl)
    obtain ⟨sa_10, hstr_10⟩ := hX.1 (49, "no such tender") (by decide)
    exact vx_throwS (own := RX2) (cls := "java/lang/IndexOutOfBoundsException") (text := "no such tender") (names := ["java/lang/RuntimeException", "java/lang/Exception"]) (ik := 47) (is := 49) (ic := 51) hx hb hl0 hown x_fit51 x_fits (hts (.classLink RX2 47 "java/lang/IndexOutOfBoundsException") (by decide +kernel)) (hts (.initialized "java/lang/IndexOutOfBoundsException") (by decide +kernel)) hstr_10 (x_hat51 (fun w h => hts w (List.mem_cons_of_mem _ (List.mem_append_left _ (List.mem_append_right _ h)))) hX) x_good51 hZ.1 hZ.2 hS0 (hl.1.trans hml.symm) dX2_award_10 dX2_award_13 dX2_award_14 dX2_award_16 dX2_award_19 (fun x h => (hnox x h).elim) (Nat.le_of_ble_eq_true rfl) (Nat.le_of_ble_eq_true rfl) (Nat.le_of_ble_eq_true rfl) (Nat.le_of_ble_eq_true rfl) hlocks (fun t hv hz hk => ⟨(), trivial, ⟨by rw [hsp]; exact Or.inl ⟨rfl, rfl⟩, hXP.kept hk⟩, ⟨hz, fun q h1 _ => hk q h1⟩⟩) hS0.2.2 (Nat.le_of_ble_eq_true rfl) (Nat.le_of_ble_eq_true rfl)

def sp_X2_passOn (n : Nat) (S : Nat → Nat → Nat → Int32) (p0 : Int32) (p1 : Int32) (p2 : Int32) : Int32 × Int32 × (Nat → Nat → Nat → Int32) := if tIn n p0 = true then (if sp_X1_isAwarded (S 4 p0.toNatClampNeg 0) = true then (if sp_X1_isPassedOn (S 5 p0.toNatClampNeg 0) = true then ((2, 0, S)) else (if sp_X2_isBidder p1 = true then (if p1 = (sp_X1_winner (S 4 p0.toNatClampNeg 0)) then ((3, 0, S)) else (if p2 < 1 then ((3, 0, S)) else (if p2 ≤ (sp_X1_sumOf (S 1 p0.toNatClampNeg) (sp_X1_winner (S 4 p0.toNatClampNeg 0))) then ((0, sp_X1_winner (S 4 p0.toNatClampNeg 0), (setT S p0.toNatClampNeg (S 1 p0.toNatClampNeg) (S 2 p0.toNatClampNeg) (S 3 p0.toNatClampNeg 0) (S 4 p0.toNatClampNeg 0) p1 p2))) else ((3, 0, S))))) else ((3, 0, S)))) else ((2, 0, S))) else ((1, 0, S))
set_option maxHeartbeats 4000000 in
set_option maxRecDepth 100000 in
theorem c_X2_passOn (l : Launch) (hl0 : l.stackTraces = false) (D : va_G) (K : Nat → ClassId) (sz : Nat) (ad : Nat → Nat → Nat) (n d : Nat) (S : Nat → Nat → Nat → Int32) (p0 p1 p2 : Int32) (hDJ : DJ ad n d) : XMet l yX2_passOn wsX2_passOn 6 100 D K [.ref (ad 0 0), .int p0, .int p1, .int p2] sz (XA ad sz) (fun H => XP D K ad n d S H) ((sp_X2_passOn n S p0 p1 p2).2.1) ((sp_X2_passOn n S p0 p1 p2).1) (fun H => XP D K ad n d ((sp_X2_passOn n S p0 p1 p2).2.2) H) "java/lang/IndexOutOfBoundsException" "java/lang/IllegalStateException" "java/lang/IllegalArgumentException" := by
  refine vx_ofW (cc := cX2_passOn) (maxL := 6) (ret := (some .int)) (by decide) rfl ?_
  intro p e s m args below meth c s₁ B hml hnox hv
  obtain ⟨rfl, hsz, hZ, hX, hP, hK, hE⟩ := hv
  have hx := B.exec
  have hb := B.bytes
  have hr := B.returns
  have hts := atoms_spec (ws := wsX2_passOn) B.pre
  have hown : s.vm.findClass RX2 = some m.cls := findClass_of_methodNamed B.named
  have hlocks := B.notSynchronized
  have hc : CallFix p m c cX2_passOn 6 s ([.ref (ad 0 0), .int p0, .int p1, .int p2] : List Value).toArray wsX2_passOn RX2 := ⟨hx, hb, hml, hown, hts⟩
  subst hsz
  have hXP := hP
  obtain ⟨hn, hd, hP, hT, hF⟩ := hP
  have hP : va_P D vwCl (xW K ad n d S) s.heap := hP
  have hS0 : va_S (XA ad s.heap.size) s.heap s.heap [] := va_S.rf
  have hl := lv_entry ([.ref (ad 0 0), .int p0, .int p1, .int p2]) (n := 6) (Nat.le_of_ble_eq_true rfl)
  rw [lg_entry_eq]
  generalize (lg_sl ([.ref (ad 0 0), .int p0, .int p1, .int p2]) ++ List.replicate (6 - (lg_sl ([.ref (ad 0 0), .int p0, .int p1, .int p2])).length) Slot.unset).toArray = ls at hl ⊢
  have hl : lv_has ls 6 [(0, .ref (ad 0 0)), (1, .int p0), (2, .int p1), (3, .int p2)] := hl
  refine lv_aload_n hx hb dX2_passOn_0 rfl (lv_at hl 0 rfl) ?_
  refine lv_iload_n hx hb dX2_passOn_1 rfl (lv_at hl 1 rfl) ?_
  refine pu_V (As := [.int p0]) (rest := []) hc (c_X2_tenderAt l D K ad n d S p0) (cwV 1 hts gX2_passOn_X2_tenderAt rfl rfl rfl (by decide +kernel) ⟨Nat.le_of_ble_eq_true rfl, Nat.le_of_ble_eq_true rfl⟩) hXP hK hE (va_recv hK hP (ci := 2) (q0 := 0) rfl rfl) rfl rfl hl.1 (Nat.le_of_ble_eq_true rfl) dX2_passOn_2 ⟨Nat.le_of_ble_eq_true rfl, Nat.le_of_ble_eq_true rfl⟩ ?_
  rcases tAt_or (ad := ad) (x := p0) hn with ⟨hs_2, qs_2⟩ | ⟨hs_2, qs_2⟩
  · skip
    refine W.eq (g2 := F0 m 5 ls [.ref (ad 4 p0.toNatClampNeg)]) (by rw [qs_2]; rfl) ?_
    refine lv_astore (lv' := [(4, .ref (ad 4 p0.toNatClampNeg)), (0, .ref (ad 0 0)), (1, .int p0), (2, .int p1), (3, .int p2)]) hx hb dX2_passOn_5 hl (by decide) rfl (fun ls hl => ?_)
    refine lv_aload hx hb dX2_passOn_7 (lv_at hl 0 rfl) ?_
    refine lv_ifnonnull (tgt := 22) hx hb dX2_passOn_9 (by decide) ?_
    refine lv_aload hx hb dX2_passOn_22 (lv_at hl 0 rfl) ?_
    refine pu_V (As := []) (rest := []) hc (c_X1_isAwarded l D K (ad 4 p0.toNatClampNeg) (ad 5 p0.toNatClampNeg) (ad 6 p0.toNatClampNeg) (S 1 p0.toNatClampNeg) (S 2 p0.toNatClampNeg) (S 3 p0.toNatClampNeg 0) (S 4 p0.toNatClampNeg 0) (S 5 p0.toNatClampNeg 0) (S 6 p0.toNatClampNeg 0)) (cwV 0 hts gX2_passOn_X1_isAwarded rfl rfl rfl (by decide +kernel) ⟨Nat.le_of_ble_eq_true rfl, Nat.le_of_ble_eq_true rfl⟩) (hT p0.toNatClampNeg (tIn_lt hs_2 (by omega))) hK hE (va_recv hK (hT p0.toNatClampNeg (tIn_lt hs_2 (by omega))) (ci := 1) (q0 := 0) rfl rfl) rfl rfl hl.1 (Nat.le_of_ble_eq_true rfl) dX2_passOn_24 ⟨Nat.le_of_ble_eq_true rfl, Nat.le_of_ble_eq_true rfl⟩ ?_
    refine lb_eq (tgt := 38) hx hb dX2_passOn_27 (by decide) (fun c_27 => ?_) (fun c_27 => ?_)
    · skip
      have hsp : sp_X2_passOn n S p0 p1 p2 = ((2, 0, S) : Int32 × Int32 × (Nat → Nat → Nat → Int32)) := Eq.trans (if_pos hs_2) (Eq.trans (if_neg (ntr c_27)) (rfl))
      obtain ⟨sa_38, hstr_38⟩ := hX.1 (110, "the tender was not awarded, or was passed on") (by decide)
      exact vx_throwS (own := RX2) (cls := "java/lang/IllegalStateException") (text := "the tender was not awarded, or was passed on") (names := ["java/lang/RuntimeException", "java/lang/Exception"]) (ik := 35) (is := 110) (ic := 39) hx hb hl0 hown x_fit39 x_fits (hts (.classLink RX2 35 "java/lang/IllegalStateException") (by decide +kernel)) (hts (.initialized "java/lang/IllegalStateException") (by decide +kernel)) hstr_38 (x_hat39 (fun w h => hts w (List.mem_cons_of_mem _ (List.mem_append_left _ (List.mem_append_right _ h)))) hX) x_good39 hZ.1 hZ.2 hS0 (hl.1.trans hml.symm) dX2_passOn_38 dX2_passOn_41 dX2_passOn_42 dX2_passOn_44 dX2_passOn_47 (fun x h => (hnox x h).elim) (Nat.le_of_ble_eq_true rfl) (Nat.le_of_ble_eq_true rfl) (Nat.le_of_ble_eq_true rfl) (Nat.le_of_ble_eq_true rfl) hlocks (fun t hv hz hk => ⟨(), trivial, ⟨by rw [hsp]; exact Or.inr (Or.inl ⟨rfl, rfl⟩), hXP.kept hk⟩, ⟨hz, fun q h1 _ => hk q h1⟩⟩) hS0.2.2 (Nat.le_of_ble_eq_true rfl) (Nat.le_of_ble_eq_true rfl)
    · skip
      refine lv_aload hx hb dX2_passOn_30 (lv_at hl 0 rfl) ?_
      refine pu_V (As := []) (rest := []) hc (c_X1_isPassedOn l D K (ad 4 p0.toNatClampNeg) (ad 5 p0.toNatClampNeg) (ad 6 p0.toNatClampNeg) (S 1 p0.toNatClampNeg) (S 2 p0.toNatClampNeg) (S 3 p0.toNatClampNeg 0) (S 4 p0.toNatClampNeg 0) (S 5 p0.toNatClampNeg 0) (S 6 p0.toNatClampNeg 0)) (cwV 0 hts gX2_passOn_X1_isPassedOn rfl rfl rfl (by decide +kernel) ⟨Nat.le_of_ble_eq_true rfl, Nat.le_of_ble_eq_true rfl⟩) (hT p0.toNatClampNeg (tIn_lt hs_2 (by omega))) hK hE (va_recv hK (hT p0.toNatClampNeg (tIn_lt hs_2 (by omega))) (ci := 1) (q0 := 0) rfl rfl) rfl rfl hl.1 (Nat.le_of_ble_eq_true rfl) dX2_passOn_32 ⟨Nat.le_of_ble_eq_true rfl, Nat.le_of_ble_eq_true rfl⟩ ?_
      refine lb_eq (tgt := 48) hx hb dX2_passOn_35 (by decide) (fun c_35 => ?_) (fun c_35 => ?_)
      · skip
        refine lv_aload hx hb dX2_passOn_48 (lv_at hl 0 rfl) ?_
        refine pu_V (As := []) (rest := []) hc (c_X1_winner l D K (ad 4 p0.toNatClampNeg) (ad 5 p0.toNatClampNeg) (ad 6 p0.toNatClampNeg) (S 1 p0.toNatClampNeg) (S 2 p0.toNatClampNeg) (S 3 p0.toNatClampNeg 0) (S 4 p0.toNatClampNeg 0) (S 5 p0.toNatClampNeg 0) (S 6 p0.toNatClampNeg 0)) (cwV 0 hts gX2_passOn_X1_winner rfl rfl rfl (by decide +kernel) ⟨Nat.le_of_ble_eq_true rfl, Nat.le_of_ble_eq_true rfl⟩) (hT p0.toNatClampNeg (tIn_lt hs_2 (by omega))) hK hE (va_recv hK (hT p0.toNatClampNeg (tIn_lt hs_2 (by omega))) (ci := 1) (q0 := 0) rfl rfl) rfl rfl hl.1 (Nat.le_of_ble_eq_true rfl) dX2_passOn_50 ⟨Nat.le_of_ble_eq_true rfl, Nat.le_of_ble_eq_true rfl⟩ ?_
        refine lv_istore (lv' := [(5, .int (sp_X1_winner (S 4 p0.toNatClampNeg 0))), (4, .ref (ad 4 p0.toNatClampNeg)), (0, .ref (ad 0 0)), (1, .int p0), (2, .int p1), (3, .int p2)]) hx hb dX2_passOn_53 hl (by decide) rfl (fun ls hl => ?_)
        refine lv_iload_n hx hb dX2_passOn_55 rfl (lv_at hl 4 rfl) ?_
        refine pu_S (As := [.int p1]) (rest := []) hc (c_X2_isBidder l D K p1) (va_cwS 1 hts gX2_passOn_X2_isBidder rfl rfl rfl (by decide +kernel) ⟨Nat.le_of_ble_eq_true rfl, Nat.le_of_ble_eq_true rfl⟩) trivial hK hE rfl rfl hl.1 (Nat.le_of_ble_eq_true rfl) dX2_passOn_56 ⟨Nat.le_of_ble_eq_true rfl, Nat.le_of_ble_eq_true rfl⟩ ?_
        refine lb_eq (tgt := 84) hx hb dX2_passOn_59 (by decide) (fun c_59 => ?_) (fun c_59 => ?_)
        · skip
          have hsp : sp_X2_passOn n S p0 p1 p2 = ((3, 0, S) : Int32 × Int32 × (Nat → Nat → Nat → Int32)) := Eq.trans (if_pos hs_2) (Eq.trans (if_pos c_27) (Eq.trans (if_neg (ntr c_35)) (Eq.trans (if_neg (ntr c_59)) (rfl))))
          obtain ⟨sa_84, hstr_84⟩ := hX.1 (112, "bidder or part is out of range, or bidder is the winner") (by decide)
          exact vx_throwS (own := RX2) (cls := "java/lang/IllegalArgumentException") (text := "bidder or part is out of range, or bidder is the winner") (names := ["java/lang/RuntimeException", "java/lang/Exception"]) (ik := 59) (is := 112) (ic := 63) hx hb hl0 hown x_fit63 x_fits (hts (.classLink RX2 59 "java/lang/IllegalArgumentException") (by decide +kernel)) (hts (.initialized "java/lang/IllegalArgumentException") (by decide +kernel)) hstr_84 (x_hat63 (fun w h => hts w (List.mem_cons_of_mem _ (List.mem_append_right _ h))) hX) x_good63 hZ.1 hZ.2 hS0 (hl.1.trans hml.symm) dX2_passOn_84 dX2_passOn_87 dX2_passOn_88 dX2_passOn_90 dX2_passOn_93 (fun x h => (hnox x h).elim) (Nat.le_of_ble_eq_true rfl) (Nat.le_of_ble_eq_true rfl) (Nat.le_of_ble_eq_true rfl) (Nat.le_of_ble_eq_true rfl) hlocks (fun t hv hz hk => ⟨(), trivial, ⟨by rw [hsp]; exact Or.inr (Or.inr ⟨rfl, rfl⟩), hXP.kept hk⟩, ⟨hz, fun q h1 _ => hk q h1⟩⟩) hS0.2.2 (Nat.le_of_ble_eq_true rfl) (Nat.le_of_ble_eq_true rfl)
        · skip
          refine lv_iload_n hx hb dX2_passOn_62 rfl (lv_at hl 4 rfl) ?_
          refine lv_iload hx hb dX2_passOn_63 (lv_at hl 0 rfl) ?_
          refine W.eq (g2 := F0 m 65 ls [.int (sp_X1_winner (S 4 p0.toNatClampNeg 0)), .int p1]) rfl ?_
          refine lv_icmp_eq (tgt := 84) hx hb dX2_passOn_65 (by decide) (fun c_65 => ?_) (fun c_65 => ?_)
          · skip
            have hsp : sp_X2_passOn n S p0 p1 p2 = ((3, 0, S) : Int32 × Int32 × (Nat → Nat → Nat → Int32)) := Eq.trans (if_pos hs_2) (Eq.trans (if_pos c_27) (Eq.trans (if_neg (ntr c_35)) (Eq.trans (if_pos c_59) (Eq.trans (if_pos c_65) (rfl)))))
            obtain ⟨sa_84, hstr_84⟩ := hX.1 (112, "bidder or part is out of range, or bidder is the winner") (by decide)
            exact vx_throwS (own := RX2) (cls := "java/lang/IllegalArgumentException") (text := "bidder or part is out of range, or bidder is the winner") (names := ["java/lang/RuntimeException", "java/lang/Exception"]) (ik := 59) (is := 112) (ic := 63) hx hb hl0 hown x_fit63 x_fits (hts (.classLink RX2 59 "java/lang/IllegalArgumentException") (by decide +kernel)) (hts (.initialized "java/lang/IllegalArgumentException") (by decide +kernel)) hstr_84 (x_hat63 (fun w h => hts w (List.mem_cons_of_mem _ (List.mem_append_right _ h))) hX) x_good63 hZ.1 hZ.2 hS0 (hl.1.trans hml.symm) dX2_passOn_84 dX2_passOn_87 dX2_passOn_88 dX2_passOn_90 dX2_passOn_93 (fun x h => (hnox x h).elim) (Nat.le_of_ble_eq_true rfl) (Nat.le_of_ble_eq_true rfl) (Nat.le_of_ble_eq_true rfl) (Nat.le_of_ble_eq_true rfl) hlocks (fun t hv hz hk => ⟨(), trivial, ⟨by rw [hsp]; exact Or.inr (Or.inr ⟨rfl, rfl⟩), hXP.kept hk⟩, ⟨hz, fun q h1 _ => hk q h1⟩⟩) hS0.2.2 (Nat.le_of_ble_eq_true rfl) (Nat.le_of_ble_eq_true rfl)
          · skip
            refine lv_iload_n hx hb dX2_passOn_68 rfl (lv_at hl 5 rfl) ?_
            refine lv_iconst (v := 1) hx hb dX2_passOn_69 (by decide) ?_
            refine lv_icmp_lt (tgt := 84) hx hb dX2_passOn_70 (by decide) (fun c_70 => ?_) (fun c_70 => ?_)
            · skip
              have hsp : sp_X2_passOn n S p0 p1 p2 = ((3, 0, S) : Int32 × Int32 × (Nat → Nat → Nat → Int32)) := Eq.trans (if_pos hs_2) (Eq.trans (if_pos c_27) (Eq.trans (if_neg (ntr c_35)) (Eq.trans (if_pos c_59) (Eq.trans (if_neg c_65) (Eq.trans (if_pos c_70) (rfl))))))
              obtain ⟨sa_84, hstr_84⟩ := hX.1 (112, "bidder or part is out of range, or bidder is the winner") (by decide)
              exact vx_throwS (own := RX2) (cls := "java/lang/IllegalArgumentException") (text := "bidder or part is out of range, or bidder is the winner") (names := ["java/lang/RuntimeException", "java/lang/Exception"]) (ik := 59) (is := 112) (ic := 63) hx hb hl0 hown x_fit63 x_fits (hts (.classLink RX2 59 "java/lang/IllegalArgumentException") (by decide +kernel)) (hts (.initialized "java/lang/IllegalArgumentException") (by decide +kernel)) hstr_84 (x_hat63 (fun w h => hts w (List.mem_cons_of_mem _ (List.mem_append_right _ h))) hX) x_good63 hZ.1 hZ.2 hS0 (hl.1.trans hml.symm) dX2_passOn_84 dX2_passOn_87 dX2_passOn_88 dX2_passOn_90 dX2_passOn_93 (fun x h => (hnox x h).elim) (Nat.le_of_ble_eq_true rfl) (Nat.le_of_ble_eq_true rfl) (Nat.le_of_ble_eq_true rfl) (Nat.le_of_ble_eq_true rfl) hlocks (fun t hv hz hk => ⟨(), trivial, ⟨by rw [hsp]; exact Or.inr (Or.inr ⟨rfl, rfl⟩), hXP.kept hk⟩, ⟨hz, fun q h1 _ => hk q h1⟩⟩) hS0.2.2 (Nat.le_of_ble_eq_true rfl) (Nat.le_of_ble_eq_true rfl)
            · skip
              refine lv_iload_n hx hb dX2_passOn_73 rfl (lv_at hl 5 rfl) ?_
              refine lv_aload hx hb dX2_passOn_74 (lv_at hl 1 rfl) ?_
              refine lv_iload hx hb dX2_passOn_76 (lv_at hl 0 rfl) ?_
              refine pu_V (As := [.int (sp_X1_winner (S 4 p0.toNatClampNeg 0))]) (rest := [.int p2]) hc (c_X1_sumOf l D K (ad 4 p0.toNatClampNeg) (ad 5 p0.toNatClampNeg) (ad 6 p0.toNatClampNeg) (S 1 p0.toNatClampNeg) (S 2 p0.toNatClampNeg) (S 3 p0.toNatClampNeg 0) (S 4 p0.toNatClampNeg 0) (S 5 p0.toNatClampNeg 0) (S 6 p0.toNatClampNeg 0) (sp_X1_winner (S 4 p0.toNatClampNeg 0))) (cwV 1 hts gX2_passOn_X1_sumOf rfl rfl rfl (by decide +kernel) ⟨Nat.le_of_ble_eq_true rfl, Nat.le_of_ble_eq_true rfl⟩) (hT p0.toNatClampNeg (tIn_lt hs_2 (by omega))) hK hE (va_recv hK (hT p0.toNatClampNeg (tIn_lt hs_2 (by omega))) (ci := 1) (q0 := 0) rfl rfl) rfl rfl hl.1 (Nat.le_of_ble_eq_true rfl) dX2_passOn_78 ⟨Nat.le_of_ble_eq_true rfl, Nat.le_of_ble_eq_true rfl⟩ ?_
              refine W.eq (g2 := F0 m 81 ls [.int (sp_X1_sumOf (S 1 p0.toNatClampNeg) (sp_X1_winner (S 4 p0.toNatClampNeg 0))), .int p2]) rfl ?_
              refine lv_icmp_le (tgt := 94) hx hb dX2_passOn_81 (by decide) (fun c_81 => ?_) (fun c_81 => ?_)
              · skip
                refine lv_aload hx hb dX2_passOn_94 (lv_at hl 1 rfl) ?_
                refine lv_iload_n hx hb dX2_passOn_96 rfl (lv_at hl 4 rfl) ?_
                refine lv_iload_n hx hb dX2_passOn_97 rfl (lv_at hl 5 rfl) ?_
                refine ef_Vv (As := [.int p1, .int p2]) (rest := []) hc (c_X1_giveOver l D K (s.heap.size) (ad 4 p0.toNatClampNeg) (ad 5 p0.toNatClampNeg) (ad 6 p0.toNatClampNeg) (S 1 p0.toNatClampNeg) (S 2 p0.toNatClampNeg) (S 3 p0.toNatClampNeg 0) (S 4 p0.toNatClampNeg 0) (S 5 p0.toNatClampNeg 0) (S 6 p0.toNatClampNeg 0) p1 p2) (cwV 2 hts gX2_passOn_X1_giveOver rfl rfl rfl (by decide +kernel) ⟨Nat.le_of_ble_eq_true rfl, Nat.le_of_ble_eq_true rfl⟩) (hT p0.toNatClampNeg (tIn_lt hs_2 (by omega))) (X_apart hDJ (ids := xTi p0.toNatClampNeg) rfl (xTl (tIn_lt hs_2 (by omega))) xTn) hK hE (va_recv hK (hT p0.toNatClampNeg (tIn_lt hs_2 (by omega))) (ci := 1) (q0 := 0) rfl rfl) rfl rfl hl.1 (Nat.le_of_ble_eq_true rfl) dX2_passOn_98 ⟨Nat.le_of_ble_eq_true rfl, Nat.le_of_ble_eq_true rfl⟩ hS0 (va_A_XA (ids := xTi p0.toNatClampNeg) rfl (Nat.le_refl _)) (fun H locs hP1 hD1 hz1 hk1 hS => ?_)
                have hXP := XP_upT (k := p0.toNatClampNeg) (tIn_lt hs_2 (by omega)) hDJ hXP hk1 hP1
                obtain ⟨-, -, hP, hT, hF⟩ := id hXP
                have hP : va_P D vwCl (xW K ad n d (setT S p0.toNatClampNeg (S 1 p0.toNatClampNeg) (S 2 p0.toNatClampNeg) (S 3 p0.toNatClampNeg 0) (S 4 p0.toNatClampNeg 0) p1 p2)) H := hP
                refine lv_iload hx hb dX2_passOn_101 (lv_at hl 0 rfl) ?_
                have hsp : sp_X2_passOn n S p0 p1 p2 = ((0, sp_X1_winner (S 4 p0.toNatClampNeg 0), (setT S p0.toNatClampNeg (S 1 p0.toNatClampNeg) (S 2 p0.toNatClampNeg) (S 3 p0.toNatClampNeg 0) (S 4 p0.toNatClampNeg 0) p1 p2)) : Int32 × Int32 × (Nat → Nat → Nat → Int32)) := Eq.trans (if_pos hs_2) (Eq.trans (if_pos c_27) (Eq.trans (if_neg (ntr c_35)) (Eq.trans (if_pos c_59) (Eq.trans (if_neg c_65) (Eq.trans (if_neg c_70) (Eq.trans (if_pos c_81) (rfl)))))))
                have hXe := hXP
                have hSe := hS
                refine vx_ret (W.widen (k := 4) (n := 60) (Nat.le_of_ble_eq_true rfl) (Nat.le_of_ble_eq_true rfl) ?_)
                exact W.iret (v := sp_X1_winner (S 4 p0.toNatClampNeg 0)) hx hb hr (fun t ht hW => ⟨⟨_, (), rfl, ⟨by rw [hsp], by rw [hsp]⟩, by dsimp only; rw [ht, hsp]; exact hXe⟩, hSe.F ht⟩) hSe.2.2 dX2_passOn_103
              · skip
                have hsp : sp_X2_passOn n S p0 p1 p2 = ((3, 0, S) : Int32 × Int32 × (Nat → Nat → Nat → Int32)) := Eq.trans (if_pos hs_2) (Eq.trans (if_pos c_27) (Eq.trans (if_neg (ntr c_35)) (Eq.trans (if_pos c_59) (Eq.trans (if_neg c_65) (Eq.trans (if_neg c_70) (Eq.trans (if_neg c_81) (rfl)))))))
                obtain ⟨sa_84, hstr_84⟩ := hX.1 (112, "bidder or part is out of range, or bidder is the winner") (by decide)
                exact vx_throwS (own := RX2) (cls := "java/lang/IllegalArgumentException") (text := "bidder or part is out of range, or bidder is the winner") (names := ["java/lang/RuntimeException", "java/lang/Exception"]) (ik := 59) (is := 112) (ic := 63) hx hb hl0 hown x_fit63 x_fits (hts (.classLink RX2 59 "java/lang/IllegalArgumentException") (by decide +kernel)) (hts (.initialized "java/lang/IllegalArgumentException") (by decide +kernel)) hstr_84 (x_hat63 (fun w h => hts w (List.mem_cons_of_mem _ (List.mem_append_right _ h))) hX) x_good63 hZ.1 hZ.2 hS0 (hl.1.trans hml.symm) dX2_passOn_84 dX2_passOn_87 dX2_passOn_88 dX2_passOn_90 dX2_passOn_93 (fun x h => (hnox x h).elim) (Nat.le_of_ble_eq_true rfl) (Nat.le_of_ble_eq_true rfl) (Nat.le_of_ble_eq_true rfl) (Nat.le_of_ble_eq_true rfl) hlocks (fun t hv hz hk => ⟨(), trivial, ⟨by rw [hsp]; exact Or.inr (Or.inr ⟨rfl, rfl⟩), hXP.kept hk⟩, ⟨hz, fun q h1 _ => hk q h1⟩⟩) hS0.2.2 (Nat.le_of_ble_eq_true rfl) (Nat.le_of_ble_eq_true rfl)
      · skip
        have hsp : sp_X2_passOn n S p0 p1 p2 = ((2, 0, S) : Int32 × Int32 × (Nat → Nat → Nat → Int32)) := Eq.trans (if_pos hs_2) (Eq.trans (if_pos c_27) (Eq.trans (if_pos c_35) (rfl)))
        obtain ⟨sa_38, hstr_38⟩ := hX.1 (110, "the tender was not awarded, or was passed on") (by decide)
        exact vx_throwS (own := RX2) (cls := "java/lang/IllegalStateException") (text := "the tender was not awarded, or was passed on") (names := ["java/lang/RuntimeException", "java/lang/Exception"]) (ik := 35) (is := 110) (ic := 39) hx hb hl0 hown x_fit39 x_fits (hts (.classLink RX2 35 "java/lang/IllegalStateException") (by decide +kernel)) (hts (.initialized "java/lang/IllegalStateException") (by decide +kernel)) hstr_38 (x_hat39 (fun w h => hts w (List.mem_cons_of_mem _ (List.mem_append_left _ (List.mem_append_right _ h)))) hX) x_good39 hZ.1 hZ.2 hS0 (hl.1.trans hml.symm) dX2_passOn_38 dX2_passOn_41 dX2_passOn_42 dX2_passOn_44 dX2_passOn_47 (fun x h => (hnox x h).elim) (Nat.le_of_ble_eq_true rfl) (Nat.le_of_ble_eq_true rfl) (Nat.le_of_ble_eq_true rfl) (Nat.le_of_ble_eq_true rfl) hlocks (fun t hv hz hk => ⟨(), trivial, ⟨by rw [hsp]; exact Or.inr (Or.inl ⟨rfl, rfl⟩), hXP.kept hk⟩, ⟨hz, fun q h1 _ => hk q h1⟩⟩) hS0.2.2 (Nat.le_of_ble_eq_true rfl) (Nat.le_of_ble_eq_true rfl)
  · skip
    refine W.eq (g2 := F0 m 5 ls [.null]) (by rw [qs_2]; rfl) ?_
    refine lv_astoreN (lv' := [(4, .null), (0, .ref (ad 0 0)), (1, .int p0), (2, .int p1), (3, .int p2)]) hx hb dX2_passOn_5 hl (by decide) rfl (fun ls hl => ?_)
    refine lv_aloadN hx hb dX2_passOn_7 (lv_at hl 0 rfl) ?_
    refine lv_ifnonnullN hx hb dX2_passOn_9 ?_
    have hsp : sp_X2_passOn n S p0 p1 p2 = ((1, 0, S) : Int32 × Int32 × (Nat → Nat → Nat → Int32)) := Eq.trans (if_neg (ntr hs_2)) (rfl)
    obtain ⟨sa_12, hstr_12⟩ := hX.1 (49, "no such tender") (by decide)
    exact vx_throwS (own := RX2) (cls := "java/lang/IndexOutOfBoundsException") (text := "no such tender") (names := ["java/lang/RuntimeException", "java/lang/Exception"]) (ik := 47) (is := 49) (ic := 51) hx hb hl0 hown x_fit51 x_fits (hts (.classLink RX2 47 "java/lang/IndexOutOfBoundsException") (by decide +kernel)) (hts (.initialized "java/lang/IndexOutOfBoundsException") (by decide +kernel)) hstr_12 (x_hat51 (fun w h => hts w (List.mem_cons_of_mem _ (List.mem_append_left _ (List.mem_append_left _ (List.mem_append_right _ h))))) hX) x_good51 hZ.1 hZ.2 hS0 (hl.1.trans hml.symm) dX2_passOn_12 dX2_passOn_15 dX2_passOn_16 dX2_passOn_18 dX2_passOn_21 (fun x h => (hnox x h).elim) (Nat.le_of_ble_eq_true rfl) (Nat.le_of_ble_eq_true rfl) (Nat.le_of_ble_eq_true rfl) (Nat.le_of_ble_eq_true rfl) hlocks (fun t hv hz hk => ⟨(), trivial, ⟨by rw [hsp]; exact Or.inl ⟨rfl, rfl⟩, hXP.kept hk⟩, ⟨hz, fun q h1 _ => hk q h1⟩⟩) hS0.2.2 (Nat.le_of_ble_eq_true rfl) (Nat.le_of_ble_eq_true rfl)
