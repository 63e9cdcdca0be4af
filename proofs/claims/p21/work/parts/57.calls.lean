set_option maxHeartbeats 4000000 in
set_option maxRecDepth 100000 in
theorem c_L_calls_bid (l : Launch) (hl0 : l.stackTraces = false) (D : va_G) (K : Nat → ClassId) (sz : Nat) (ad : Nat → Nat → Nat) (n d : Nat) (S : Nat → Nat → Nat → Int32) (p0 p1 p2 : Int32) (hDJ : DJ ad n d) (hio : ¬ (sp_X2_bid n S p0 p1 p2).1 = 1) : CMet l yL_calls wsL_calls 7 124 D K [.ref (ad 0 0), .int 0, .int p0, .int p1, .int p2] sz ad (fun H => XP D K ad n d S H) (if (sp_X2_bid n S p0 p1 p2).1 = 0 then (sp_X2_bid n S p0 p1 p2).2.1 else if (sp_X2_bid n S p0 p1 p2).1 = 2 then -2 else -3) (CB ((sp_X2_bid n S p0 p1 p2).1) (fun H => XP D K ad n d S H) (fun H => XP D K ad n d ((sp_X2_bid n S p0 p1 p2).2.2) H)) := by
  refine Met_ofWH (cc := cL_calls) (maxL := 6) (ret := some .int) (hh := [(0, 101, 102, 37), (0, 101, 107, 39)]) (by decide) rfl ?_
  intro p e s m args below meth c s₁ B hml hv
  obtain ⟨rfl, ⟨hsz, hZ, hX, hXP, hK, hE⟩, hN⟩ := hv
  have hx := B.exec
  have hb := B.bytes
  have hr := B.returns
  have hts := atoms_spec (ws := wsL_calls) B.pre
  have hown : s.vm.findClass RL = some m.cls := findClass_of_methodNamed B.named
  have hlocks := B.notSynchronized
  have htab := vx_table (x := yL_calls) B (hts _ List.mem_cons_self)
  have hc : CallFix p m c cL_calls 6 s ([.ref (ad 0 0), .int 0, .int p0, .int p1, .int p2] : List Value).toArray wsL_calls RL := ⟨hx, hb, hml, hown, hts⟩
  subst hsz
  have hP := hXP.2.2.1
  have hS : va_S (XA ad s.heap.size) s.heap s.heap [] := va_S.rf
  have hl := lv_entry ([.ref (ad 0 0), .int 0, .int p0, .int p1, .int p2]) (n := 6) (Nat.le_of_ble_eq_true rfl)
  rw [lg_entry_eq]
  generalize (lg_sl ([.ref (ad 0 0), .int 0, .int p0, .int p1, .int p2]) ++ List.replicate (6 - (lg_sl ([.ref (ad 0 0), .int 0, .int p0, .int p1, .int p2])).length) Slot.unset).toArray = ls at hl ⊢
  have hl : lv_has ls 6 [(0, .ref (ad 0 0)), (1, .int 0), (2, .int p0), (3, .int p1), (4, .int p2)] := hl
  refine lv_iload_n hx hb dL_calls_0 rfl (lv_at hl 1 rfl) ?_
  refine lv_if_ne (tgt := 15) hx hb dL_calls_1 (by decide) (fun h => absurd rfl h) (fun _ => ?_)
  refine lv_aload_n hx hb dL_calls_4 rfl (lv_at hl 0 rfl) ?_
  refine lv_iload_n hx hb dL_calls_5 rfl (lv_at hl 2 rfl) ?_
  refine lv_iload_n hx hb dL_calls_6 rfl (lv_at hl 3 rfl) ?_
  refine lv_iload hx hb dL_calls_7 (lv_at hl 4 rfl) ?_
  refine vx_calli (vx_runV (As := [.int p0, .int p1, .int p2]) (rest := []) hc (c_X2_bid l hl0 D K s.heap.size ad n d S p0 p1 p2 hDJ) (cwV 3 hts gL_calls_X2_bid rfl rfl rfl (by decide +kernel) ⟨(Nat.le_of_ble_eq_true rfl), (Nat.le_of_ble_eq_true rfl)⟩) ⟨XPre_blind, va_recv hK hP (ci := 2) (q0 := 0) rfl rfl, XPre_at hXP hK hE hX ⟨hZ.1, hZ.2⟩⟩ rfl rfl hl.1 rfl (lv_room (Nat.le_of_ble_eq_true rfl)) dL_calls_9 ⟨(Nat.le_of_ble_eq_true rfl), (Nat.le_of_ble_eq_true rfl)⟩) hS (fun q _ h => h) (fun q h => h) (fun q _ h => h) (fun E ce q9 u t H1 locs ht hvm hp hB hz1 hk1 hS hce hcv hcl => ?_) (fun r u t H1 locs ht hvm hp hB hz1 hk1 hS => ?_)
  · rw [ht] at hB
    obtain ⟨hen, hBx⟩ := hB
    rcases hen with ⟨hcode, rfl⟩ | ⟨hcode, rfl⟩ | ⟨hcode, rfl⟩
    · exact absurd hcode hio
    · refine vx_catch (own := RL) (name := "java/lang/IllegalArgumentException") (E := "java/lang/IllegalArgumentException") hown (tableOf []) ⟨0, 101, 102, 37⟩ (tableOf [(0, 101, 107, 39)]) (by rw [htab]; rfl) ?_ (by decide) (by decide) (hts (.classLink RL 37 "java/lang/IllegalArgumentException") (by decide +kernel)) (va_Nw.use rfl (hX.2 (.castable "java/lang/IllegalArgumentException" "java/lang/IllegalArgumentException") (by decide +kernel))) hce hcv hcl ?_
      · intro z hz
        exact absurd hz List.not_mem_nil
      · refine W.eq (g2 := F0 m 102 ls [.ref q9]) rfl ?_
        refine lv_astore (lv' := [(5, .ref q9), (0, .ref (ad 0 0)), (1, .int 0), (2, .int p0), (3, .int p1), (4, .int p2)]) hx hb dL_calls_102 hl (by decide) rfl (fun ls hl => ?_)
        refine lv_bipush (v := -2) hx hb dL_calls_104 (by decide) ?_
        refine W.widen (k := 4) (n := 60) (Nat.le_of_ble_eq_true rfl) (Nat.le_of_ble_eq_true rfl) ?_
        exact W.iret (v := -2) hx hb hr (fun t9 ht9 hW => ⟨⟨_, (), rfl, (show (-2 : Int32) = (if (sp_X2_bid n S p0 p1 p2).1 = 0 then (sp_X2_bid n S p0 p1 p2).2.1 else if (sp_X2_bid n S p0 p1 p2).1 = 2 then -2 else -3) from by rw [if_neg (by rw [hcode]; decide), if_pos hcode]), by dsimp only; rw [ht9]; exact Or.inr ⟨by rw [hcode]; decide, hBx⟩⟩, hS.F ht9⟩) hS.2.2 dL_calls_106
    · refine vx_catch (own := RL) (name := "java/lang/IllegalStateException") (E := "java/lang/IllegalStateException") hown (tableOf [(0, 101, 102, 37)]) ⟨0, 101, 107, 39⟩ (tableOf []) (by rw [htab]; rfl) ?_ (by decide) (by decide) (hts (.classLink RL 39 "java/lang/IllegalStateException") (by decide +kernel)) (va_Nw.use rfl (hX.2 (.castable "java/lang/IllegalStateException" "java/lang/IllegalStateException") (by decide +kernel))) hce hcv hcl ?_
      · intro z hz
        simp only [tableOf, List.map_cons, List.map_nil, List.mem_cons, List.not_mem_nil, or_false] at hz
        rcases hz with rfl
        exact Or.inr ⟨by decide, "java/lang/IllegalArgumentException", hts (.classLink RL 37 "java/lang/IllegalArgumentException") (by decide +kernel), hN ("java/lang/IllegalStateException", "java/lang/IllegalArgumentException") (by decide +kernel)⟩
      · refine W.eq (g2 := F0 m 107 ls [.ref q9]) rfl ?_
        refine lv_astore (lv' := [(5, .ref q9), (0, .ref (ad 0 0)), (1, .int 0), (2, .int p0), (3, .int p1), (4, .int p2)]) hx hb dL_calls_107 hl (by decide) rfl (fun ls hl => ?_)
        refine lv_bipush (v := -3) hx hb dL_calls_109 (by decide) ?_
        refine W.widen (k := 4) (n := 60) (Nat.le_of_ble_eq_true rfl) (Nat.le_of_ble_eq_true rfl) ?_
        exact W.iret (v := -3) hx hb hr (fun t9 ht9 hW => ⟨⟨_, (), rfl, (show (-3 : Int32) = (if (sp_X2_bid n S p0 p1 p2).1 = 0 then (sp_X2_bid n S p0 p1 p2).2.1 else if (sp_X2_bid n S p0 p1 p2).1 = 2 then -2 else -3) from by rw [if_neg (by rw [hcode]; decide), if_neg (by rw [hcode]; decide)]), by dsimp only; rw [ht9]; exact Or.inr ⟨by rw [hcode]; decide, hBx⟩⟩, hS.F ht9⟩) hS.2.2 dL_calls_111
  · obtain ⟨hcode, rfl⟩ := hp
    rw [ht] at hB
    refine W.eq (g2 := F0 m 12 ls [.int ((sp_X2_bid n S p0 p1 p2).2.1)]) rfl ?_
    refine lv_goto (tgt := 101) hx hb dL_calls_12 (by decide) ?_
    refine W.widen (k := 4) (n := 60) (Nat.le_of_ble_eq_true rfl) (Nat.le_of_ble_eq_true rfl) ?_
    exact W.iret (v := (sp_X2_bid n S p0 p1 p2).2.1) hx hb hr (fun t9 ht9 hW => ⟨⟨_, (), rfl, (if_pos hcode).symm, by dsimp only; rw [ht9]; exact Or.inl ⟨hcode, hB⟩⟩, hS.F ht9⟩) hS.2.2 dL_calls_101

set_option maxHeartbeats 4000000 in
set_option maxRecDepth 100000 in
theorem c_L_calls_withdraw (l : Launch) (hl0 : l.stackTraces = false) (D : va_G) (K : Nat → ClassId) (sz : Nat) (ad : Nat → Nat → Nat) (n d : Nat) (S : Nat → Nat → Nat → Int32) (p0 p1 p2 : Int32) (hDJ : DJ ad n d) (hio : ¬ (sp_X2_withdraw n S p0 p1).1 = 1) : CMet l yL_calls wsL_calls 7 123 D K [.ref (ad 0 0), .int 1, .int p0, .int p1, .int p2] sz ad (fun H => XP D K ad n d S H) (if (sp_X2_withdraw n S p0 p1).1 = 0 then (sp_X2_withdraw n S p0 p1).2.1 else if (sp_X2_withdraw n S p0 p1).1 = 2 then -2 else -3) (CB ((sp_X2_withdraw n S p0 p1).1) (fun H => XP D K ad n d S H) (fun H => XP D K ad n d ((sp_X2_withdraw n S p0 p1).2.2) H)) := by
  refine Met_ofWH (cc := cL_calls) (maxL := 6) (ret := some .int) (hh := [(0, 101, 102, 37), (0, 101, 107, 39)]) (by decide) rfl ?_
  intro p e s m args below meth c s₁ B hml hv
  obtain ⟨rfl, ⟨hsz, hZ, hX, hXP, hK, hE⟩, hN⟩ := hv
  have hx := B.exec
  have hb := B.bytes
  have hr := B.returns
  have hts := atoms_spec (ws := wsL_calls) B.pre
  have hown : s.vm.findClass RL = some m.cls := findClass_of_methodNamed B.named
  have hlocks := B.notSynchronized
  have htab := vx_table (x := yL_calls) B (hts _ List.mem_cons_self)
  have hc : CallFix p m c cL_calls 6 s ([.ref (ad 0 0), .int 1, .int p0, .int p1, .int p2] : List Value).toArray wsL_calls RL := ⟨hx, hb, hml, hown, hts⟩
  subst hsz
  have hP := hXP.2.2.1
  have hS : va_S (XA ad s.heap.size) s.heap s.heap [] := va_S.rf
  have hl := lv_entry ([.ref (ad 0 0), .int 1, .int p0, .int p1, .int p2]) (n := 6) (Nat.le_of_ble_eq_true rfl)
  rw [lg_entry_eq]
  generalize (lg_sl ([.ref (ad 0 0), .int 1, .int p0, .int p1, .int p2]) ++ List.replicate (6 - (lg_sl ([.ref (ad 0 0), .int 1, .int p0, .int p1, .int p2])).length) Slot.unset).toArray = ls at hl ⊢
  have hl : lv_has ls 6 [(0, .ref (ad 0 0)), (1, .int 1), (2, .int p0), (3, .int p1), (4, .int p2)] := hl
  refine lv_iload_n hx hb dL_calls_0 rfl (lv_at hl 1 rfl) ?_
  refine lv_if_ne (tgt := 15) hx hb dL_calls_1 (by decide) (fun _ => ?_) (fun h => absurd h (by decide))
  refine lv_iload_n hx hb dL_calls_15 rfl (lv_at hl 1 rfl) ?_
  refine lv_iconst (v := 1) hx hb dL_calls_16 (by decide) ?_
  refine lv_icmp_ne (tgt := 29) hx hb dL_calls_17 (by decide) (fun h => absurd rfl h) (fun _ => ?_)
  refine lv_aload_n hx hb dL_calls_20 rfl (lv_at hl 0 rfl) ?_
  refine lv_iload_n hx hb dL_calls_21 rfl (lv_at hl 2 rfl) ?_
  refine lv_iload_n hx hb dL_calls_22 rfl (lv_at hl 3 rfl) ?_
  refine vx_calli (vx_runV (As := [.int p0, .int p1]) (rest := []) hc (c_X2_withdraw l hl0 D K s.heap.size ad n d S p0 p1 hDJ) (cwV 2 hts gL_calls_X2_withdraw rfl rfl rfl (by decide +kernel) ⟨(Nat.le_of_ble_eq_true rfl), (Nat.le_of_ble_eq_true rfl)⟩) ⟨XPre_blind, va_recv hK hP (ci := 2) (q0 := 0) rfl rfl, XPre_at hXP hK hE hX ⟨hZ.1, hZ.2⟩⟩ rfl rfl hl.1 rfl (lv_room (Nat.le_of_ble_eq_true rfl)) dL_calls_23 ⟨(Nat.le_of_ble_eq_true rfl), (Nat.le_of_ble_eq_true rfl)⟩) hS (fun q _ h => h) (fun q h => h) (fun q _ h => h) (fun E ce q9 u t H1 locs ht hvm hp hB hz1 hk1 hS hce hcv hcl => ?_) (fun r u t H1 locs ht hvm hp hB hz1 hk1 hS => ?_)
  · rw [ht] at hB
    obtain ⟨hen, hBx⟩ := hB
    rcases hen with ⟨hcode, rfl⟩ | ⟨hcode, rfl⟩ | ⟨hcode, rfl⟩
    · exact absurd hcode hio
    · refine vx_catch (own := RL) (name := "java/lang/IllegalArgumentException") (E := "java/lang/IllegalArgumentException") hown (tableOf []) ⟨0, 101, 102, 37⟩ (tableOf [(0, 101, 107, 39)]) (by rw [htab]; rfl) ?_ (by decide) (by decide) (hts (.classLink RL 37 "java/lang/IllegalArgumentException") (by decide +kernel)) (va_Nw.use rfl (hX.2 (.castable "java/lang/IllegalArgumentException" "java/lang/IllegalArgumentException") (by decide +kernel))) hce hcv hcl ?_
      · intro z hz
        exact absurd hz List.not_mem_nil
      · refine W.eq (g2 := F0 m 102 ls [.ref q9]) rfl ?_
        refine lv_astore (lv' := [(5, .ref q9), (0, .ref (ad 0 0)), (1, .int 1), (2, .int p0), (3, .int p1), (4, .int p2)]) hx hb dL_calls_102 hl (by decide) rfl (fun ls hl => ?_)
        refine lv_bipush (v := -2) hx hb dL_calls_104 (by decide) ?_
        refine W.widen (k := 4) (n := 60) (Nat.le_of_ble_eq_true rfl) (Nat.le_of_ble_eq_true rfl) ?_
        exact W.iret (v := -2) hx hb hr (fun t9 ht9 hW => ⟨⟨_, (), rfl, (show (-2 : Int32) = (if (sp_X2_withdraw n S p0 p1).1 = 0 then (sp_X2_withdraw n S p0 p1).2.1 else if (sp_X2_withdraw n S p0 p1).1 = 2 then -2 else -3) from by rw [if_neg (by rw [hcode]; decide), if_pos hcode]), by dsimp only; rw [ht9]; exact Or.inr ⟨by rw [hcode]; decide, hBx⟩⟩, hS.F ht9⟩) hS.2.2 dL_calls_106
    · refine vx_catch (own := RL) (name := "java/lang/IllegalStateException") (E := "java/lang/IllegalStateException") hown (tableOf [(0, 101, 102, 37)]) ⟨0, 101, 107, 39⟩ (tableOf []) (by rw [htab]; rfl) ?_ (by decide) (by decide) (hts (.classLink RL 39 "java/lang/IllegalStateException") (by decide +kernel)) (va_Nw.use rfl (hX.2 (.castable "java/lang/IllegalStateException" "java/lang/IllegalStateException") (by decide +kernel))) hce hcv hcl ?_
      · intro z hz
        simp only [tableOf, List.map_cons, List.map_nil, List.mem_cons, List.not_mem_nil, or_false] at hz
        rcases hz with rfl
        exact Or.inr ⟨by decide, "java/lang/IllegalArgumentException", hts (.classLink RL 37 "java/lang/IllegalArgumentException") (by decide +kernel), hN ("java/lang/IllegalStateException", "java/lang/IllegalArgumentException") (by decide +kernel)⟩
      · refine W.eq (g2 := F0 m 107 ls [.ref q9]) rfl ?_
        refine lv_astore (lv' := [(5, .ref q9), (0, .ref (ad 0 0)), (1, .int 1), (2, .int p0), (3, .int p1), (4, .int p2)]) hx hb dL_calls_107 hl (by decide) rfl (fun ls hl => ?_)
        refine lv_bipush (v := -3) hx hb dL_calls_109 (by decide) ?_
        refine W.widen (k := 4) (n := 60) (Nat.le_of_ble_eq_true rfl) (Nat.le_of_ble_eq_true rfl) ?_
        exact W.iret (v := -3) hx hb hr (fun t9 ht9 hW => ⟨⟨_, (), rfl, (show (-3 : Int32) = (if (sp_X2_withdraw n S p0 p1).1 = 0 then (sp_X2_withdraw n S p0 p1).2.1 else if (sp_X2_withdraw n S p0 p1).1 = 2 then -2 else -3) from by rw [if_neg (by rw [hcode]; decide), if_neg (by rw [hcode]; decide)]), by dsimp only; rw [ht9]; exact Or.inr ⟨by rw [hcode]; decide, hBx⟩⟩, hS.F ht9⟩) hS.2.2 dL_calls_111
  · obtain ⟨hcode, rfl⟩ := hp
    rw [ht] at hB
    refine W.eq (g2 := F0 m 26 ls [.int ((sp_X2_withdraw n S p0 p1).2.1)]) rfl ?_
    refine lv_goto (tgt := 101) hx hb dL_calls_26 (by decide) ?_
    refine W.widen (k := 4) (n := 60) (Nat.le_of_ble_eq_true rfl) (Nat.le_of_ble_eq_true rfl) ?_
    exact W.iret (v := (sp_X2_withdraw n S p0 p1).2.1) hx hb hr (fun t9 ht9 hW => ⟨⟨_, (), rfl, (if_pos hcode).symm, by dsimp only; rw [ht9]; exact Or.inl ⟨hcode, hB⟩⟩, hS.F ht9⟩) hS.2.2 dL_calls_101

set_option maxHeartbeats 4000000 in
set_option maxRecDepth 100000 in
theorem c_L_calls_award (l : Launch) (hl0 : l.stackTraces = false) (D : va_G) (K : Nat → ClassId) (sz : Nat) (ad : Nat → Nat → Nat) (n d : Nat) (S : Nat → Nat → Nat → Int32) (p0 p1 p2 : Int32) (hDJ : DJ ad n d) (hio : ¬ (sp_X2_award n S p0).1 = 1) : CMet l yL_calls wsL_calls 7 122 D K [.ref (ad 0 0), .int 2, .int p0, .int p1, .int p2] sz ad (fun H => XP D K ad n d S H) (if (sp_X2_award n S p0).1 = 0 then (sp_X2_award n S p0).2.1 else if (sp_X2_award n S p0).1 = 2 then -3 else -3) (CB ((sp_X2_award n S p0).1) (fun H => XP D K ad n d S H) (fun H => XP D K ad n d ((sp_X2_award n S p0).2.2) H)) := by
  refine Met_ofWH (cc := cL_calls) (maxL := 6) (ret := some .int) (hh := [(0, 101, 102, 37), (0, 101, 107, 39)]) (by decide) rfl ?_
  intro p e s m args below meth c s₁ B hml hv
  obtain ⟨rfl, ⟨hsz, hZ, hX, hXP, hK, hE⟩, hN⟩ := hv
  have hx := B.exec
  have hb := B.bytes
  have hr := B.returns
  have hts := atoms_spec (ws := wsL_calls) B.pre
  have hown : s.vm.findClass RL = some m.cls := findClass_of_methodNamed B.named
  have hlocks := B.notSynchronized
  have htab := vx_table (x := yL_calls) B (hts _ List.mem_cons_self)
  have hc : CallFix p m c cL_calls 6 s ([.ref (ad 0 0), .int 2, .int p0, .int p1, .int p2] : List Value).toArray wsL_calls RL := ⟨hx, hb, hml, hown, hts⟩
  subst hsz
  have hP := hXP.2.2.1
  have hS : va_S (XA ad s.heap.size) s.heap s.heap [] := va_S.rf
  have hl := lv_entry ([.ref (ad 0 0), .int 2, .int p0, .int p1, .int p2]) (n := 6) (Nat.le_of_ble_eq_true rfl)
  rw [lg_entry_eq]
  generalize (lg_sl ([.ref (ad 0 0), .int 2, .int p0, .int p1, .int p2]) ++ List.replicate (6 - (lg_sl ([.ref (ad 0 0), .int 2, .int p0, .int p1, .int p2])).length) Slot.unset).toArray = ls at hl ⊢
  have hl : lv_has ls 6 [(0, .ref (ad 0 0)), (1, .int 2), (2, .int p0), (3, .int p1), (4, .int p2)] := hl
  refine lv_iload_n hx hb dL_calls_0 rfl (lv_at hl 1 rfl) ?_
  refine lv_if_ne (tgt := 15) hx hb dL_calls_1 (by decide) (fun _ => ?_) (fun h => absurd h (by decide))
  refine lv_iload_n hx hb dL_calls_15 rfl (lv_at hl 1 rfl) ?_
  refine lv_iconst (v := 1) hx hb dL_calls_16 (by decide) ?_
  refine lv_icmp_ne (tgt := 29) hx hb dL_calls_17 (by decide) (fun _ => ?_) (fun h => absurd h (by decide))
  refine lv_iload_n hx hb dL_calls_29 rfl (lv_at hl 1 rfl) ?_
  refine lv_iconst (v := 2) hx hb dL_calls_30 (by decide) ?_
  refine lv_icmp_ne (tgt := 42) hx hb dL_calls_31 (by decide) (fun h => absurd rfl h) (fun _ => ?_)
  refine lv_aload_n hx hb dL_calls_34 rfl (lv_at hl 0 rfl) ?_
  refine lv_iload_n hx hb dL_calls_35 rfl (lv_at hl 2 rfl) ?_
  refine vx_calli (vx_runV (As := [.int p0]) (rest := []) hc (c_X2_award l hl0 D K s.heap.size ad n d S p0 hDJ) (cwV 1 hts gL_calls_X2_award rfl rfl rfl (by decide +kernel) ⟨(Nat.le_of_ble_eq_true rfl), (Nat.le_of_ble_eq_true rfl)⟩) ⟨XPre_blind, va_recv hK hP (ci := 2) (q0 := 0) rfl rfl, XPre_at hXP hK hE hX ⟨hZ.1, hZ.2⟩⟩ rfl rfl hl.1 rfl (lv_room (Nat.le_of_ble_eq_true rfl)) dL_calls_36 ⟨(Nat.le_of_ble_eq_true rfl), (Nat.le_of_ble_eq_true rfl)⟩) hS (fun q _ h => h) (fun q h => h) (fun q _ h => h) (fun E ce q9 u t H1 locs ht hvm hp hB hz1 hk1 hS hce hcv hcl => ?_) (fun r u t H1 locs ht hvm hp hB hz1 hk1 hS => ?_)
  · rw [ht] at hB
    obtain ⟨hen, hBx⟩ := hB
    rcases hen with ⟨hcode, rfl⟩ | ⟨hcode, rfl⟩ | ⟨hcode, rfl⟩
    · exact absurd hcode hio
    · refine vx_catch (own := RL) (name := "java/lang/IllegalStateException") (E := "java/lang/IllegalStateException") hown (tableOf [(0, 101, 102, 37)]) ⟨0, 101, 107, 39⟩ (tableOf []) (by rw [htab]; rfl) ?_ (by decide) (by decide) (hts (.classLink RL 39 "java/lang/IllegalStateException") (by decide +kernel)) (va_Nw.use rfl (hX.2 (.castable "java/lang/IllegalStateException" "java/lang/IllegalStateException") (by decide +kernel))) hce hcv hcl ?_
      · intro z hz
        simp only [tableOf, List.map_cons, List.map_nil, List.mem_cons, List.not_mem_nil, or_false] at hz
        rcases hz with rfl
        exact Or.inr ⟨by decide, "java/lang/IllegalArgumentException", hts (.classLink RL 37 "java/lang/IllegalArgumentException") (by decide +kernel), hN ("java/lang/IllegalStateException", "java/lang/IllegalArgumentException") (by decide +kernel)⟩
      · refine W.eq (g2 := F0 m 107 ls [.ref q9]) rfl ?_
        refine lv_astore (lv' := [(5, .ref q9), (0, .ref (ad 0 0)), (1, .int 2), (2, .int p0), (3, .int p1), (4, .int p2)]) hx hb dL_calls_107 hl (by decide) rfl (fun ls hl => ?_)
        refine lv_bipush (v := -3) hx hb dL_calls_109 (by decide) ?_
        refine W.widen (k := 4) (n := 60) (Nat.le_of_ble_eq_true rfl) (Nat.le_of_ble_eq_true rfl) ?_
        exact W.iret (v := -3) hx hb hr (fun t9 ht9 hW => ⟨⟨_, (), rfl, (show (-3 : Int32) = (if (sp_X2_award n S p0).1 = 0 then (sp_X2_award n S p0).2.1 else if (sp_X2_award n S p0).1 = 2 then -3 else -3) from by rw [if_neg (by rw [hcode]; decide), if_pos hcode]), by dsimp only; rw [ht9]; exact Or.inr ⟨by rw [hcode]; decide, hBx⟩⟩, hS.F ht9⟩) hS.2.2 dL_calls_111
    · exfalso; unfold sp_X2_award at hcode; repeat' split at hcode
      all_goals first | exact absurd (show (0 : Int32) = 3 from hcode) (by decide) | exact absurd (show (1 : Int32) = 3 from hcode) (by decide) | exact absurd (show (2 : Int32) = 3 from hcode) (by decide)
  · obtain ⟨hcode, rfl⟩ := hp
    rw [ht] at hB
    refine W.eq (g2 := F0 m 39 ls [.int ((sp_X2_award n S p0).2.1)]) rfl ?_
    refine lv_goto (tgt := 101) hx hb dL_calls_39 (by decide) ?_
    refine W.widen (k := 4) (n := 60) (Nat.le_of_ble_eq_true rfl) (Nat.le_of_ble_eq_true rfl) ?_
    exact W.iret (v := (sp_X2_award n S p0).2.1) hx hb hr (fun t9 ht9 hW => ⟨⟨_, (), rfl, (if_pos hcode).symm, by dsimp only; rw [ht9]; exact Or.inl ⟨hcode, hB⟩⟩, hS.F ht9⟩) hS.2.2 dL_calls_101

set_option maxHeartbeats 4000000 in
set_option maxRecDepth 100000 in
theorem c_L_calls_passOn (l : Launch) (hl0 : l.stackTraces = false) (D : va_G) (K : Nat → ClassId) (sz : Nat) (ad : Nat → Nat → Nat) (n d : Nat) (S : Nat → Nat → Nat → Int32) (p0 p1 p2 : Int32) (hDJ : DJ ad n d) (hio : ¬ (sp_X2_passOn n S p0 p1 p2).1 = 1) : CMet l yL_calls wsL_calls 7 125 D K [.ref (ad 0 0), .int 3, .int p0, .int p1, .int p2] sz ad (fun H => XP D K ad n d S H) (if (sp_X2_passOn n S p0 p1 p2).1 = 0 then (sp_X2_passOn n S p0 p1 p2).2.1 else if (sp_X2_passOn n S p0 p1 p2).1 = 2 then -3 else -2) (CB ((sp_X2_passOn n S p0 p1 p2).1) (fun H => XP D K ad n d S H) (fun H => XP D K ad n d ((sp_X2_passOn n S p0 p1 p2).2.2) H)) := by
  refine Met_ofWH (cc := cL_calls) (maxL := 6) (ret := some .int) (hh := [(0, 101, 102, 37), (0, 101, 107, 39)]) (by decide) rfl ?_
  intro p e s m args below meth c s₁ B hml hv
  obtain ⟨rfl, ⟨hsz, hZ, hX, hXP, hK, hE⟩, hN⟩ := hv
  have hx := B.exec
  have hb := B.bytes
  have hr := B.returns
  have hts := atoms_spec (ws := wsL_calls) B.pre
  have hown : s.vm.findClass RL = some m.cls := findClass_of_methodNamed B.named
  have hlocks := B.notSynchronized
  have htab := vx_table (x := yL_calls) B (hts _ List.mem_cons_self)
  have hc : CallFix p m c cL_calls 6 s ([.ref (ad 0 0), .int 3, .int p0, .int p1, .int p2] : List Value).toArray wsL_calls RL := ⟨hx, hb, hml, hown, hts⟩
  subst hsz
  have hP := hXP.2.2.1
  have hS : va_S (XA ad s.heap.size) s.heap s.heap [] := va_S.rf
  have hl := lv_entry ([.ref (ad 0 0), .int 3, .int p0, .int p1, .int p2]) (n := 6) (Nat.le_of_ble_eq_true rfl)
  rw [lg_entry_eq]
  generalize (lg_sl ([.ref (ad 0 0), .int 3, .int p0, .int p1, .int p2]) ++ List.replicate (6 - (lg_sl ([.ref (ad 0 0), .int 3, .int p0, .int p1, .int p2])).length) Slot.unset).toArray = ls at hl ⊢
  have hl : lv_has ls 6 [(0, .ref (ad 0 0)), (1, .int 3), (2, .int p0), (3, .int p1), (4, .int p2)] := hl
  refine lv_iload_n hx hb dL_calls_0 rfl (lv_at hl 1 rfl) ?_
  refine lv_if_ne (tgt := 15) hx hb dL_calls_1 (by decide) (fun _ => ?_) (fun h => absurd h (by decide))
  refine lv_iload_n hx hb dL_calls_15 rfl (lv_at hl 1 rfl) ?_
  refine lv_iconst (v := 1) hx hb dL_calls_16 (by decide) ?_
  refine lv_icmp_ne (tgt := 29) hx hb dL_calls_17 (by decide) (fun _ => ?_) (fun h => absurd h (by decide))
  refine lv_iload_n hx hb dL_calls_29 rfl (lv_at hl 1 rfl) ?_
  refine lv_iconst (v := 2) hx hb dL_calls_30 (by decide) ?_
  refine lv_icmp_ne (tgt := 42) hx hb dL_calls_31 (by decide) (fun _ => ?_) (fun h => absurd h (by decide))
  refine lv_iload_n hx hb dL_calls_42 rfl (lv_at hl 1 rfl) ?_
  refine lv_iconst (v := 3) hx hb dL_calls_43 (by decide) ?_
  refine lv_icmp_ne (tgt := 58) hx hb dL_calls_44 (by decide) (fun h => absurd rfl h) (fun _ => ?_)
  refine lv_aload_n hx hb dL_calls_47 rfl (lv_at hl 0 rfl) ?_
  refine lv_iload_n hx hb dL_calls_48 rfl (lv_at hl 2 rfl) ?_
  refine lv_iload_n hx hb dL_calls_49 rfl (lv_at hl 3 rfl) ?_
  refine lv_iload hx hb dL_calls_50 (lv_at hl 4 rfl) ?_
  refine vx_calli (vx_runV (As := [.int p0, .int p1, .int p2]) (rest := []) hc (c_X2_passOn l hl0 D K s.heap.size ad n d S p0 p1 p2 hDJ) (cwV 3 hts gL_calls_X2_passOn rfl rfl rfl (by decide +kernel) ⟨(Nat.le_of_ble_eq_true rfl), (Nat.le_of_ble_eq_true rfl)⟩) ⟨XPre_blind, va_recv hK hP (ci := 2) (q0 := 0) rfl rfl, XPre_at hXP hK hE hX ⟨hZ.1, hZ.2⟩⟩ rfl rfl hl.1 rfl (lv_room (Nat.le_of_ble_eq_true rfl)) dL_calls_52 ⟨(Nat.le_of_ble_eq_true rfl), (Nat.le_of_ble_eq_true rfl)⟩) hS (fun q _ h => h) (fun q h => h) (fun q _ h => h) (fun E ce q9 u t H1 locs ht hvm hp hB hz1 hk1 hS hce hcv hcl => ?_) (fun r u t H1 locs ht hvm hp hB hz1 hk1 hS => ?_)
  · rw [ht] at hB
    obtain ⟨hen, hBx⟩ := hB
    rcases hen with ⟨hcode, rfl⟩ | ⟨hcode, rfl⟩ | ⟨hcode, rfl⟩
    · exact absurd hcode hio
    · refine vx_catch (own := RL) (name := "java/lang/IllegalStateException") (E := "java/lang/IllegalStateException") hown (tableOf [(0, 101, 102, 37)]) ⟨0, 101, 107, 39⟩ (tableOf []) (by rw [htab]; rfl) ?_ (by decide) (by decide) (hts (.classLink RL 39 "java/lang/IllegalStateException") (by decide +kernel)) (va_Nw.use rfl (hX.2 (.castable "java/lang/IllegalStateException" "java/lang/IllegalStateException") (by decide +kernel))) hce hcv hcl ?_
      · intro z hz
        simp only [tableOf, List.map_cons, List.map_nil, List.mem_cons, List.not_mem_nil, or_false] at hz
        rcases hz with rfl
        exact Or.inr ⟨by decide, "java/lang/IllegalArgumentException", hts (.classLink RL 37 "java/lang/IllegalArgumentException") (by decide +kernel), hN ("java/lang/IllegalStateException", "java/lang/IllegalArgumentException") (by decide +kernel)⟩
      · refine W.eq (g2 := F0 m 107 ls [.ref q9]) rfl ?_
        refine lv_astore (lv' := [(5, .ref q9), (0, .ref (ad 0 0)), (1, .int 3), (2, .int p0), (3, .int p1), (4, .int p2)]) hx hb dL_calls_107 hl (by decide) rfl (fun ls hl => ?_)
        refine lv_bipush (v := -3) hx hb dL_calls_109 (by decide) ?_
        refine W.widen (k := 4) (n := 60) (Nat.le_of_ble_eq_true rfl) (Nat.le_of_ble_eq_true rfl) ?_
        exact W.iret (v := -3) hx hb hr (fun t9 ht9 hW => ⟨⟨_, (), rfl, (show (-3 : Int32) = (if (sp_X2_passOn n S p0 p1 p2).1 = 0 then (sp_X2_passOn n S p0 p1 p2).2.1 else if (sp_X2_passOn n S p0 p1 p2).1 = 2 then -3 else -2) from by rw [if_neg (by rw [hcode]; decide), if_pos hcode]), by dsimp only; rw [ht9]; exact Or.inr ⟨by rw [hcode]; decide, hBx⟩⟩, hS.F ht9⟩) hS.2.2 dL_calls_111
    · refine vx_catch (own := RL) (name := "java/lang/IllegalArgumentException") (E := "java/lang/IllegalArgumentException") hown (tableOf []) ⟨0, 101, 102, 37⟩ (tableOf [(0, 101, 107, 39)]) (by rw [htab]; rfl) ?_ (by decide) (by decide) (hts (.classLink RL 37 "java/lang/IllegalArgumentException") (by decide +kernel)) (va_Nw.use rfl (hX.2 (.castable "java/lang/IllegalArgumentException" "java/lang/IllegalArgumentException") (by decide +kernel))) hce hcv hcl ?_
      · intro z hz
        exact absurd hz List.not_mem_nil
      · refine W.eq (g2 := F0 m 102 ls [.ref q9]) rfl ?_
        refine lv_astore (lv' := [(5, .ref q9), (0, .ref (ad 0 0)), (1, .int 3), (2, .int p0), (3, .int p1), (4, .int p2)]) hx hb dL_calls_102 hl (by decide) rfl (fun ls hl => ?_)
        refine lv_bipush (v := -2) hx hb dL_calls_104 (by decide) ?_
        refine W.widen (k := 4) (n := 60) (Nat.le_of_ble_eq_true rfl) (Nat.le_of_ble_eq_true rfl) ?_
        exact W.iret (v := -2) hx hb hr (fun t9 ht9 hW => ⟨⟨_, (), rfl, (show (-2 : Int32) = (if (sp_X2_passOn n S p0 p1 p2).1 = 0 then (sp_X2_passOn n S p0 p1 p2).2.1 else if (sp_X2_passOn n S p0 p1 p2).1 = 2 then -3 else -2) from by rw [if_neg (by rw [hcode]; decide), if_neg (by rw [hcode]; decide)]), by dsimp only; rw [ht9]; exact Or.inr ⟨by rw [hcode]; decide, hBx⟩⟩, hS.F ht9⟩) hS.2.2 dL_calls_106
  · obtain ⟨hcode, rfl⟩ := hp
    rw [ht] at hB
    refine W.eq (g2 := F0 m 55 ls [.int ((sp_X2_passOn n S p0 p1 p2).2.1)]) rfl ?_
    refine lv_goto (tgt := 101) hx hb dL_calls_55 (by decide) ?_
    refine W.widen (k := 4) (n := 60) (Nat.le_of_ble_eq_true rfl) (Nat.le_of_ble_eq_true rfl) ?_
    exact W.iret (v := (sp_X2_passOn n S p0 p1 p2).2.1) hx hb hr (fun t9 ht9 hW => ⟨⟨_, (), rfl, (if_pos hcode).symm, by dsimp only; rw [ht9]; exact Or.inl ⟨hcode, hB⟩⟩, hS.F ht9⟩) hS.2.2 dL_calls_101

set_option maxHeartbeats 4000000 in
set_option maxRecDepth 100000 in
theorem c_L_calls_file (l : Launch) (hl0 : l.stackTraces = false) (D : va_G) (K : Nat → ClassId) (sz : Nat) (ad : Nat → Nat → Nat) (n d : Nat) (S : Nat → Nat → Nat → Int32) (p0 p1 p2 : Int32) (hDJ : DJ ad n d) : CMet l yL_calls wsL_calls 7 161 D K [.ref (ad 0 0), .int 4, .int p0, .int p1, .int p2] sz ad (fun H => XP D K ad n d S H) (if (sp_X2_file n d S p0 p1).1 = 0 then (sp_X2_file n d S p0 p1).2.1 else if (sp_X2_file n d S p0 p1).1 = 1 then -2 else -3) (CB ((sp_X2_file n d S p0 p1).1) (fun H => XP D K ad n d S H) (fun H => ∃ ad2, XP D K ad2 n (d + 1) ((sp_X2_file n d S p0 p1).2.2) H ∧ DJ ad2 n (d + 1) ∧ ∀ k i, ad2 k i = ad k i ∨ 4 ≤ k ∧ sz ≤ ad2 k i)) := by
  refine Met_ofWH (cc := cL_calls) (maxL := 6) (ret := some .int) (hh := [(0, 101, 102, 37), (0, 101, 107, 39)]) (by decide) rfl ?_
  intro p e s m args below meth c s₁ B hml hv
  obtain ⟨rfl, ⟨hsz, hZ, hX, hXP, hK, hE⟩, hN⟩ := hv
  have hx := B.exec
  have hb := B.bytes
  have hr := B.returns
  have hts := atoms_spec (ws := wsL_calls) B.pre
  have hown : s.vm.findClass RL = some m.cls := findClass_of_methodNamed B.named
  have hlocks := B.notSynchronized
  have htab := vx_table (x := yL_calls) B (hts _ List.mem_cons_self)
  have hc : CallFix p m c cL_calls 6 s ([.ref (ad 0 0), .int 4, .int p0, .int p1, .int p2] : List Value).toArray wsL_calls RL := ⟨hx, hb, hml, hown, hts⟩
  subst hsz
  have hP := hXP.2.2.1
  have hS : va_S (XA ad s.heap.size) s.heap s.heap [] := va_S.rf
  have hl := lv_entry ([.ref (ad 0 0), .int 4, .int p0, .int p1, .int p2]) (n := 6) (Nat.le_of_ble_eq_true rfl)
  rw [lg_entry_eq]
  generalize (lg_sl ([.ref (ad 0 0), .int 4, .int p0, .int p1, .int p2]) ++ List.replicate (6 - (lg_sl ([.ref (ad 0 0), .int 4, .int p0, .int p1, .int p2])).length) Slot.unset).toArray = ls at hl ⊢
  have hl : lv_has ls 6 [(0, .ref (ad 0 0)), (1, .int 4), (2, .int p0), (3, .int p1), (4, .int p2)] := hl
  refine lv_iload_n hx hb dL_calls_0 rfl (lv_at hl 1 rfl) ?_
  refine lv_if_ne (tgt := 15) hx hb dL_calls_1 (by decide) (fun _ => ?_) (fun h => absurd h (by decide))
  refine lv_iload_n hx hb dL_calls_15 rfl (lv_at hl 1 rfl) ?_
  refine lv_iconst (v := 1) hx hb dL_calls_16 (by decide) ?_
  refine lv_icmp_ne (tgt := 29) hx hb dL_calls_17 (by decide) (fun _ => ?_) (fun h => absurd h (by decide))
  refine lv_iload_n hx hb dL_calls_29 rfl (lv_at hl 1 rfl) ?_
  refine lv_iconst (v := 2) hx hb dL_calls_30 (by decide) ?_
  refine lv_icmp_ne (tgt := 42) hx hb dL_calls_31 (by decide) (fun _ => ?_) (fun h => absurd h (by decide))
  refine lv_iload_n hx hb dL_calls_42 rfl (lv_at hl 1 rfl) ?_
  refine lv_iconst (v := 3) hx hb dL_calls_43 (by decide) ?_
  refine lv_icmp_ne (tgt := 58) hx hb dL_calls_44 (by decide) (fun _ => ?_) (fun h => absurd h (by decide))
  refine lv_iload_n hx hb dL_calls_58 rfl (lv_at hl 1 rfl) ?_
  refine lv_iconst (v := 4) hx hb dL_calls_59 (by decide) ?_
  refine lv_icmp_ne (tgt := 72) hx hb dL_calls_60 (by decide) (fun h => absurd rfl h) (fun _ => ?_)
  refine lv_aload_n hx hb dL_calls_63 rfl (lv_at hl 0 rfl) ?_
  refine lv_iload_n hx hb dL_calls_64 rfl (lv_at hl 2 rfl) ?_
  refine lv_iload_n hx hb dL_calls_65 rfl (lv_at hl 3 rfl) ?_
  refine vx_calli (vx_runV (As := [.int p0, .int p1]) (rest := []) hc (c_X2_file l hl0 D K s.heap.size ad n d S p0 p1 hDJ) (cwV 2 hts gL_calls_X2_file rfl rfl rfl (by decide +kernel) ⟨(Nat.le_of_ble_eq_true rfl), (Nat.le_of_ble_eq_true rfl)⟩) ⟨XPre_blind, va_recv hK hP (ci := 2) (q0 := 0) rfl rfl, XPre_at hXP hK hE hX ⟨hZ.1, hZ.2⟩⟩ rfl rfl hl.1 rfl (lv_room (Nat.le_of_ble_eq_true rfl)) dL_calls_66 ⟨(Nat.le_of_ble_eq_true rfl), (Nat.le_of_ble_eq_true rfl)⟩) hS (fun q _ h => h) (fun q h => h) (fun q _ h => h) (fun E ce q9 u t H1 locs ht hvm hp hB hz1 hk1 hS hce hcv hcl => ?_) (fun r u t H1 locs ht hvm hp hB hz1 hk1 hS => ?_)
  · rw [ht] at hB
    obtain ⟨hen, hBx⟩ := hB
    rcases hen with ⟨hcode, rfl⟩ | ⟨hcode, rfl⟩ | ⟨hcode, rfl⟩
    · refine vx_catch (own := RL) (name := "java/lang/IllegalArgumentException") (E := "java/lang/IllegalArgumentException") hown (tableOf []) ⟨0, 101, 102, 37⟩ (tableOf [(0, 101, 107, 39)]) (by rw [htab]; rfl) ?_ (by decide) (by decide) (hts (.classLink RL 37 "java/lang/IllegalArgumentException") (by decide +kernel)) (va_Nw.use rfl (hX.2 (.castable "java/lang/IllegalArgumentException" "java/lang/IllegalArgumentException") (by decide +kernel))) hce hcv hcl ?_
      · intro z hz
        exact absurd hz List.not_mem_nil
      · refine W.eq (g2 := F0 m 102 ls [.ref q9]) rfl ?_
        refine lv_astore (lv' := [(5, .ref q9), (0, .ref (ad 0 0)), (1, .int 4), (2, .int p0), (3, .int p1), (4, .int p2)]) hx hb dL_calls_102 hl (by decide) rfl (fun ls hl => ?_)
        refine lv_bipush (v := -2) hx hb dL_calls_104 (by decide) ?_
        refine W.widen (k := 4) (n := 60) (Nat.le_of_ble_eq_true rfl) (Nat.le_of_ble_eq_true rfl) ?_
        exact W.iret (v := -2) hx hb hr (fun t9 ht9 hW => ⟨⟨_, (), rfl, (show (-2 : Int32) = (if (sp_X2_file n d S p0 p1).1 = 0 then (sp_X2_file n d S p0 p1).2.1 else if (sp_X2_file n d S p0 p1).1 = 1 then -2 else -3) from by rw [if_neg (by rw [hcode]; decide), if_pos hcode]), by dsimp only; rw [ht9]; exact Or.inr ⟨by rw [hcode]; decide, hBx⟩⟩, hS.F ht9⟩) hS.2.2 dL_calls_106
    · refine vx_catch (own := RL) (name := "java/lang/IllegalStateException") (E := "java/lang/IllegalStateException") hown (tableOf [(0, 101, 102, 37)]) ⟨0, 101, 107, 39⟩ (tableOf []) (by rw [htab]; rfl) ?_ (by decide) (by decide) (hts (.classLink RL 39 "java/lang/IllegalStateException") (by decide +kernel)) (va_Nw.use rfl (hX.2 (.castable "java/lang/IllegalStateException" "java/lang/IllegalStateException") (by decide +kernel))) hce hcv hcl ?_
      · intro z hz
        simp only [tableOf, List.map_cons, List.map_nil, List.mem_cons, List.not_mem_nil, or_false] at hz
        rcases hz with rfl
        exact Or.inr ⟨by decide, "java/lang/IllegalArgumentException", hts (.classLink RL 37 "java/lang/IllegalArgumentException") (by decide +kernel), hN ("java/lang/IllegalStateException", "java/lang/IllegalArgumentException") (by decide +kernel)⟩
      · refine W.eq (g2 := F0 m 107 ls [.ref q9]) rfl ?_
        refine lv_astore (lv' := [(5, .ref q9), (0, .ref (ad 0 0)), (1, .int 4), (2, .int p0), (3, .int p1), (4, .int p2)]) hx hb dL_calls_107 hl (by decide) rfl (fun ls hl => ?_)
        refine lv_bipush (v := -3) hx hb dL_calls_109 (by decide) ?_
        refine W.widen (k := 4) (n := 60) (Nat.le_of_ble_eq_true rfl) (Nat.le_of_ble_eq_true rfl) ?_
        exact W.iret (v := -3) hx hb hr (fun t9 ht9 hW => ⟨⟨_, (), rfl, (show (-3 : Int32) = (if (sp_X2_file n d S p0 p1).1 = 0 then (sp_X2_file n d S p0 p1).2.1 else if (sp_X2_file n d S p0 p1).1 = 1 then -2 else -3) from by rw [if_neg (by rw [hcode]; decide), if_neg (by rw [hcode]; decide)]), by dsimp only; rw [ht9]; exact Or.inr ⟨by rw [hcode]; decide, hBx⟩⟩, hS.F ht9⟩) hS.2.2 dL_calls_111
    · exfalso; unfold sp_X2_file at hcode; repeat' split at hcode
      all_goals first | exact absurd (show (0 : Int32) = 3 from hcode) (by decide) | exact absurd (show (1 : Int32) = 3 from hcode) (by decide) | exact absurd (show (2 : Int32) = 3 from hcode) (by decide)
  · obtain ⟨hcode, rfl⟩ := hp
    rw [ht] at hB
    refine W.eq (g2 := F0 m 69 ls [.int ((sp_X2_file n d S p0 p1).2.1)]) rfl ?_
    refine lv_goto (tgt := 101) hx hb dL_calls_69 (by decide) ?_
    refine W.widen (k := 4) (n := 60) (Nat.le_of_ble_eq_true rfl) (Nat.le_of_ble_eq_true rfl) ?_
    exact W.iret (v := (sp_X2_file n d S p0 p1).2.1) hx hb hr (fun t9 ht9 hW => ⟨⟨_, (), rfl, (if_pos hcode).symm, by dsimp only; rw [ht9]; exact Or.inl ⟨hcode, hB⟩⟩, hS.F ht9⟩) hS.2.2 dL_calls_101

set_option maxHeartbeats 4000000 in
set_option maxRecDepth 100000 in
theorem c_L_calls_close (l : Launch) (hl0 : l.stackTraces = false) (D : va_G) (K : Nat → ClassId) (sz : Nat) (ad : Nat → Nat → Nat) (n d : Nat) (S : Nat → Nat → Nat → Int32) (p0 p1 p2 : Int32) (hDJ : DJ ad n d) (hz : ∀ j, j < d → narrow .boolean (.int (S 14 j 0)) = .int (S 14 j 0)) (hO : ∀ j, j < d → sp_X2_isBidder (S 7 j 0) = true ∧ sp_X2_isBidder (S 8 j 0) = true) (hio : ¬ (sp_X2_close n d S p0).1 = 1) : CMet l yL_calls wsL_calls 7 134 D K [.ref (ad 0 0), .int 5, .int p0, .int p1, .int p2] sz ad (fun H => XP D K ad n d S H) (if (sp_X2_close n d S p0).1 = 0 then (sp_X2_close n d S p0).2.1 else if (sp_X2_close n d S p0).1 = 2 then -3 else -3) (CB ((sp_X2_close n d S p0).1) (fun H => XP D K ad n d S H) (fun H => XP D K ad n d ((sp_X2_close n d S p0).2.2) H)) := by
  refine Met_ofWH (cc := cL_calls) (maxL := 6) (ret := some .int) (hh := [(0, 101, 102, 37), (0, 101, 107, 39)]) (by decide) rfl ?_
  intro p e s m args below meth c s₁ B hml hv
  obtain ⟨rfl, ⟨hsz, hZ, hX, hXP, hK, hE⟩, hN⟩ := hv
  have hx := B.exec
  have hb := B.bytes
  have hr := B.returns
  have hts := atoms_spec (ws := wsL_calls) B.pre
  have hown : s.vm.findClass RL = some m.cls := findClass_of_methodNamed B.named
  have hlocks := B.notSynchronized
  have htab := vx_table (x := yL_calls) B (hts _ List.mem_cons_self)
  have hc : CallFix p m c cL_calls 6 s ([.ref (ad 0 0), .int 5, .int p0, .int p1, .int p2] : List Value).toArray wsL_calls RL := ⟨hx, hb, hml, hown, hts⟩
  subst hsz
  have hP := hXP.2.2.1
  have hS : va_S (XA ad s.heap.size) s.heap s.heap [] := va_S.rf
  have hl := lv_entry ([.ref (ad 0 0), .int 5, .int p0, .int p1, .int p2]) (n := 6) (Nat.le_of_ble_eq_true rfl)
  rw [lg_entry_eq]
  generalize (lg_sl ([.ref (ad 0 0), .int 5, .int p0, .int p1, .int p2]) ++ List.replicate (6 - (lg_sl ([.ref (ad 0 0), .int 5, .int p0, .int p1, .int p2])).length) Slot.unset).toArray = ls at hl ⊢
  have hl : lv_has ls 6 [(0, .ref (ad 0 0)), (1, .int 5), (2, .int p0), (3, .int p1), (4, .int p2)] := hl
  refine lv_iload_n hx hb dL_calls_0 rfl (lv_at hl 1 rfl) ?_
  refine lv_if_ne (tgt := 15) hx hb dL_calls_1 (by decide) (fun _ => ?_) (fun h => absurd h (by decide))
  refine lv_iload_n hx hb dL_calls_15 rfl (lv_at hl 1 rfl) ?_
  refine lv_iconst (v := 1) hx hb dL_calls_16 (by decide) ?_
  refine lv_icmp_ne (tgt := 29) hx hb dL_calls_17 (by decide) (fun _ => ?_) (fun h => absurd h (by decide))
  refine lv_iload_n hx hb dL_calls_29 rfl (lv_at hl 1 rfl) ?_
  refine lv_iconst (v := 2) hx hb dL_calls_30 (by decide) ?_
  refine lv_icmp_ne (tgt := 42) hx hb dL_calls_31 (by decide) (fun _ => ?_) (fun h => absurd h (by decide))
  refine lv_iload_n hx hb dL_calls_42 rfl (lv_at hl 1 rfl) ?_
  refine lv_iconst (v := 3) hx hb dL_calls_43 (by decide) ?_
  refine lv_icmp_ne (tgt := 58) hx hb dL_calls_44 (by decide) (fun _ => ?_) (fun h => absurd h (by decide))
  refine lv_iload_n hx hb dL_calls_58 rfl (lv_at hl 1 rfl) ?_
  refine lv_iconst (v := 4) hx hb dL_calls_59 (by decide) ?_
  refine lv_icmp_ne (tgt := 72) hx hb dL_calls_60 (by decide) (fun _ => ?_) (fun h => absurd h (by decide))
  refine lv_iload_n hx hb dL_calls_72 rfl (lv_at hl 1 rfl) ?_
  refine lv_iconst (v := 5) hx hb dL_calls_73 (by decide) ?_
  refine lv_icmp_ne (tgt := 85) hx hb dL_calls_74 (by decide) (fun h => absurd rfl h) (fun _ => ?_)
  refine lv_aload_n hx hb dL_calls_77 rfl (lv_at hl 0 rfl) ?_
  refine lv_iload_n hx hb dL_calls_78 rfl (lv_at hl 2 rfl) ?_
  refine vx_calli (vx_runV (As := [.int p0]) (rest := []) hc (c_X2_close l hl0 D K s.heap.size ad n d S p0 hDJ hz hO) (cwV 1 hts gL_calls_X2_close rfl rfl rfl (by decide +kernel) ⟨(Nat.le_of_ble_eq_true rfl), (Nat.le_of_ble_eq_true rfl)⟩) ⟨XPre_blind, va_recv hK hP (ci := 2) (q0 := 0) rfl rfl, XPre_at hXP hK hE hX ⟨hZ.1, hZ.2⟩⟩ rfl rfl hl.1 rfl (lv_room (Nat.le_of_ble_eq_true rfl)) dL_calls_79 ⟨(Nat.le_of_ble_eq_true rfl), (Nat.le_of_ble_eq_true rfl)⟩) hS (fun q _ h => h) (fun q h => h) (fun q _ h => h) (fun E ce q9 u t H1 locs ht hvm hp hB hz1 hk1 hS hce hcv hcl => ?_) (fun r u t H1 locs ht hvm hp hB hz1 hk1 hS => ?_)
  · rw [ht] at hB
    obtain ⟨hen, hBx⟩ := hB
    rcases hen with ⟨hcode, rfl⟩ | ⟨hcode, rfl⟩ | ⟨hcode, rfl⟩
    · exact absurd hcode hio
    · refine vx_catch (own := RL) (name := "java/lang/IllegalStateException") (E := "java/lang/IllegalStateException") hown (tableOf [(0, 101, 102, 37)]) ⟨0, 101, 107, 39⟩ (tableOf []) (by rw [htab]; rfl) ?_ (by decide) (by decide) (hts (.classLink RL 39 "java/lang/IllegalStateException") (by decide +kernel)) (va_Nw.use rfl (hX.2 (.castable "java/lang/IllegalStateException" "java/lang/IllegalStateException") (by decide +kernel))) hce hcv hcl ?_
      · intro z hz
        simp only [tableOf, List.map_cons, List.map_nil, List.mem_cons, List.not_mem_nil, or_false] at hz
        rcases hz with rfl
        exact Or.inr ⟨by decide, "java/lang/IllegalArgumentException", hts (.classLink RL 37 "java/lang/IllegalArgumentException") (by decide +kernel), hN ("java/lang/IllegalStateException", "java/lang/IllegalArgumentException") (by decide +kernel)⟩
      · refine W.eq (g2 := F0 m 107 ls [.ref q9]) rfl ?_
        refine lv_astore (lv' := [(5, .ref q9), (0, .ref (ad 0 0)), (1, .int 5), (2, .int p0), (3, .int p1), (4, .int p2)]) hx hb dL_calls_107 hl (by decide) rfl (fun ls hl => ?_)
        refine lv_bipush (v := -3) hx hb dL_calls_109 (by decide) ?_
        refine W.widen (k := 4) (n := 60) (Nat.le_of_ble_eq_true rfl) (Nat.le_of_ble_eq_true rfl) ?_
        exact W.iret (v := -3) hx hb hr (fun t9 ht9 hW => ⟨⟨_, (), rfl, (show (-3 : Int32) = (if (sp_X2_close n d S p0).1 = 0 then (sp_X2_close n d S p0).2.1 else if (sp_X2_close n d S p0).1 = 2 then -3 else -3) from by rw [if_neg (by rw [hcode]; decide), if_pos hcode]), by dsimp only; rw [ht9]; exact Or.inr ⟨by rw [hcode]; decide, hBx⟩⟩, hS.F ht9⟩) hS.2.2 dL_calls_111
    · exfalso; unfold sp_X2_close at hcode; repeat' split at hcode
      all_goals first | exact absurd (show (0 : Int32) = 3 from hcode) (by decide) | exact absurd (show (1 : Int32) = 3 from hcode) (by decide) | exact absurd (show (2 : Int32) = 3 from hcode) (by decide)
  · obtain ⟨hcode, rfl⟩ := hp
    rw [ht] at hB
    refine W.eq (g2 := F0 m 82 ls [.int ((sp_X2_close n d S p0).2.1)]) rfl ?_
    refine lv_goto (tgt := 101) hx hb dL_calls_82 (by decide) ?_
    refine W.widen (k := 4) (n := 60) (Nat.le_of_ble_eq_true rfl) (Nat.le_of_ble_eq_true rfl) ?_
    exact W.iret (v := (sp_X2_close n d S p0).2.1) hx hb hr (fun t9 ht9 hW => ⟨⟨_, (), rfl, (if_pos hcode).symm, by dsimp only; rw [ht9]; exact Or.inl ⟨hcode, hB⟩⟩, hS.F ht9⟩) hS.2.2 dL_calls_101

set_option maxHeartbeats 4000000 in
set_option maxRecDepth 100000 in
theorem c_L_calls_tell (l : Launch) (hl0 : l.stackTraces = false) (D : va_G) (K : Nat → ClassId) (sz : Nat) (ad : Nat → Nat → Nat) (n d : Nat) (S : Nat → Nat → Nat → Int32) (p0 p1 p2 : Int32) (hDJ : DJ ad n d) (hz : ∀ j, j < d → narrow .boolean (.int (S 14 j 0)) = .int (S 14 j 0)) (hO : ∀ j, j < d → sp_X2_isBidder (S 7 j 0) = true ∧ sp_X2_isBidder (S 8 j 0) = true) (hio : ¬ (sp_X2_tell n d S p0 p1 p2).1 = 1) : CMet l yL_calls wsL_calls 7 124 D K [.ref (ad 0 0), .int 6, .int p0, .int p1, .int p2] sz ad (fun H => XP D K ad n d S H) (if (sp_X2_tell n d S p0 p1 p2).1 = 0 then (if (sp_X2_tell n d S p0 p1 p2).2.1 = 0 then (0 : Int32) else 1) else if (sp_X2_tell n d S p0 p1 p2).1 = 2 then -2 else -3) (CB ((sp_X2_tell n d S p0 p1 p2).1) (fun H => XP D K ad n d S H) (fun H => XP D K ad n d ((sp_X2_tell n d S p0 p1 p2).2.2) H)) := by
  refine Met_ofWH (cc := cL_calls) (maxL := 6) (ret := some .int) (hh := [(0, 101, 102, 37), (0, 101, 107, 39)]) (by decide) rfl ?_
  intro p e s m args below meth c s₁ B hml hv
  obtain ⟨rfl, ⟨hsz, hZ, hX, hXP, hK, hE⟩, hN⟩ := hv
  have hx := B.exec
  have hb := B.bytes
  have hr := B.returns
  have hts := atoms_spec (ws := wsL_calls) B.pre
  have hown : s.vm.findClass RL = some m.cls := findClass_of_methodNamed B.named
  have hlocks := B.notSynchronized
  have htab := vx_table (x := yL_calls) B (hts _ List.mem_cons_self)
  have hc : CallFix p m c cL_calls 6 s ([.ref (ad 0 0), .int 6, .int p0, .int p1, .int p2] : List Value).toArray wsL_calls RL := ⟨hx, hb, hml, hown, hts⟩
  subst hsz
  have hP := hXP.2.2.1
  have hS : va_S (XA ad s.heap.size) s.heap s.heap [] := va_S.rf
  have hl := lv_entry ([.ref (ad 0 0), .int 6, .int p0, .int p1, .int p2]) (n := 6) (Nat.le_of_ble_eq_true rfl)
  rw [lg_entry_eq]
  generalize (lg_sl ([.ref (ad 0 0), .int 6, .int p0, .int p1, .int p2]) ++ List.replicate (6 - (lg_sl ([.ref (ad 0 0), .int 6, .int p0, .int p1, .int p2])).length) Slot.unset).toArray = ls at hl ⊢
  have hl : lv_has ls 6 [(0, .ref (ad 0 0)), (1, .int 6), (2, .int p0), (3, .int p1), (4, .int p2)] := hl
  refine lv_iload_n hx hb dL_calls_0 rfl (lv_at hl 1 rfl) ?_
  refine lv_if_ne (tgt := 15) hx hb dL_calls_1 (by decide) (fun _ => ?_) (fun h => absurd h (by decide))
  refine lv_iload_n hx hb dL_calls_15 rfl (lv_at hl 1 rfl) ?_
  refine lv_iconst (v := 1) hx hb dL_calls_16 (by decide) ?_
  refine lv_icmp_ne (tgt := 29) hx hb dL_calls_17 (by decide) (fun _ => ?_) (fun h => absurd h (by decide))
  refine lv_iload_n hx hb dL_calls_29 rfl (lv_at hl 1 rfl) ?_
  refine lv_iconst (v := 2) hx hb dL_calls_30 (by decide) ?_
  refine lv_icmp_ne (tgt := 42) hx hb dL_calls_31 (by decide) (fun _ => ?_) (fun h => absurd h (by decide))
  refine lv_iload_n hx hb dL_calls_42 rfl (lv_at hl 1 rfl) ?_
  refine lv_iconst (v := 3) hx hb dL_calls_43 (by decide) ?_
  refine lv_icmp_ne (tgt := 58) hx hb dL_calls_44 (by decide) (fun _ => ?_) (fun h => absurd h (by decide))
  refine lv_iload_n hx hb dL_calls_58 rfl (lv_at hl 1 rfl) ?_
  refine lv_iconst (v := 4) hx hb dL_calls_59 (by decide) ?_
  refine lv_icmp_ne (tgt := 72) hx hb dL_calls_60 (by decide) (fun _ => ?_) (fun h => absurd h (by decide))
  refine lv_iload_n hx hb dL_calls_72 rfl (lv_at hl 1 rfl) ?_
  refine lv_iconst (v := 5) hx hb dL_calls_73 (by decide) ?_
  refine lv_icmp_ne (tgt := 85) hx hb dL_calls_74 (by decide) (fun _ => ?_) (fun h => absurd h (by decide))
  refine lv_aload_n hx hb dL_calls_85 rfl (lv_at hl 0 rfl) ?_
  refine lv_iload_n hx hb dL_calls_86 rfl (lv_at hl 2 rfl) ?_
  refine lv_iload_n hx hb dL_calls_87 rfl (lv_at hl 3 rfl) ?_
  refine lv_iload hx hb dL_calls_88 (lv_at hl 4 rfl) ?_
  refine vx_calli (vx_runV (As := [.int p0, .int p1, .int p2]) (rest := []) hc (c_X2_tell l hl0 D K s.heap.size ad n d S p0 p1 p2 hDJ hz hO) (cwV 3 hts gL_calls_X2_tell rfl rfl rfl (by decide +kernel) ⟨(Nat.le_of_ble_eq_true rfl), (Nat.le_of_ble_eq_true rfl)⟩) ⟨XPre_blind, va_recv hK hP (ci := 2) (q0 := 0) rfl rfl, XPre_at hXP hK hE hX ⟨hZ.1, hZ.2⟩⟩ rfl rfl hl.1 rfl (lv_room (Nat.le_of_ble_eq_true rfl)) dL_calls_90 ⟨(Nat.le_of_ble_eq_true rfl), (Nat.le_of_ble_eq_true rfl)⟩) hS (fun q _ h => h) (fun q h => h) (fun q _ h => h) (fun E ce q9 u t H1 locs ht hvm hp hB hz1 hk1 hS hce hcv hcl => ?_) (fun r u t H1 locs ht hvm hp hB hz1 hk1 hS => ?_)
  · rw [ht] at hB
    obtain ⟨hen, hBx⟩ := hB
    rcases hen with ⟨hcode, rfl⟩ | ⟨hcode, rfl⟩ | ⟨hcode, rfl⟩
    · exact absurd hcode hio
    · refine vx_catch (own := RL) (name := "java/lang/IllegalArgumentException") (E := "java/lang/IllegalArgumentException") hown (tableOf []) ⟨0, 101, 102, 37⟩ (tableOf [(0, 101, 107, 39)]) (by rw [htab]; rfl) ?_ (by decide) (by decide) (hts (.classLink RL 37 "java/lang/IllegalArgumentException") (by decide +kernel)) (va_Nw.use rfl (hX.2 (.castable "java/lang/IllegalArgumentException" "java/lang/IllegalArgumentException") (by decide +kernel))) hce hcv hcl ?_
      · intro z hz
        exact absurd hz List.not_mem_nil
      · refine W.eq (g2 := F0 m 102 ls [.ref q9]) rfl ?_
        refine lv_astore (lv' := [(5, .ref q9), (0, .ref (ad 0 0)), (1, .int 6), (2, .int p0), (3, .int p1), (4, .int p2)]) hx hb dL_calls_102 hl (by decide) rfl (fun ls hl => ?_)
        refine lv_bipush (v := -2) hx hb dL_calls_104 (by decide) ?_
        refine W.widen (k := 4) (n := 60) (Nat.le_of_ble_eq_true rfl) (Nat.le_of_ble_eq_true rfl) ?_
        exact W.iret (v := -2) hx hb hr (fun t9 ht9 hW => ⟨⟨_, (), rfl, (show (-2 : Int32) = (if (sp_X2_tell n d S p0 p1 p2).1 = 0 then (if (sp_X2_tell n d S p0 p1 p2).2.1 = 0 then (0 : Int32) else 1) else if (sp_X2_tell n d S p0 p1 p2).1 = 2 then -2 else -3) from by rw [if_neg (by rw [hcode]; decide), if_pos hcode]), by dsimp only; rw [ht9]; exact Or.inr ⟨by rw [hcode]; decide, hBx⟩⟩, hS.F ht9⟩) hS.2.2 dL_calls_106
    · refine vx_catch (own := RL) (name := "java/lang/IllegalStateException") (E := "java/lang/IllegalStateException") hown (tableOf [(0, 101, 102, 37)]) ⟨0, 101, 107, 39⟩ (tableOf []) (by rw [htab]; rfl) ?_ (by decide) (by decide) (hts (.classLink RL 39 "java/lang/IllegalStateException") (by decide +kernel)) (va_Nw.use rfl (hX.2 (.castable "java/lang/IllegalStateException" "java/lang/IllegalStateException") (by decide +kernel))) hce hcv hcl ?_
      · intro z hz
        simp only [tableOf, List.map_cons, List.map_nil, List.mem_cons, List.not_mem_nil, or_false] at hz
        rcases hz with rfl
        exact Or.inr ⟨by decide, "java/lang/IllegalArgumentException", hts (.classLink RL 37 "java/lang/IllegalArgumentException") (by decide +kernel), hN ("java/lang/IllegalStateException", "java/lang/IllegalArgumentException") (by decide +kernel)⟩
      · refine W.eq (g2 := F0 m 107 ls [.ref q9]) rfl ?_
        refine lv_astore (lv' := [(5, .ref q9), (0, .ref (ad 0 0)), (1, .int 6), (2, .int p0), (3, .int p1), (4, .int p2)]) hx hb dL_calls_107 hl (by decide) rfl (fun ls hl => ?_)
        refine lv_bipush (v := -3) hx hb dL_calls_109 (by decide) ?_
        refine W.widen (k := 4) (n := 60) (Nat.le_of_ble_eq_true rfl) (Nat.le_of_ble_eq_true rfl) ?_
        exact W.iret (v := -3) hx hb hr (fun t9 ht9 hW => ⟨⟨_, (), rfl, (show (-3 : Int32) = (if (sp_X2_tell n d S p0 p1 p2).1 = 0 then (if (sp_X2_tell n d S p0 p1 p2).2.1 = 0 then (0 : Int32) else 1) else if (sp_X2_tell n d S p0 p1 p2).1 = 2 then -2 else -3) from by rw [if_neg (by rw [hcode]; decide), if_neg (by rw [hcode]; decide)]), by dsimp only; rw [ht9]; exact Or.inr ⟨by rw [hcode]; decide, hBx⟩⟩, hS.F ht9⟩) hS.2.2 dL_calls_111
  · obtain ⟨hcode, rfl⟩ := hp
    rw [ht] at hB
    refine W.eq (g2 := F0 m 93 ls [.int ((sp_X2_tell n d S p0 p1 p2).2.1)]) rfl ?_
    refine lv_if_eq (tgt := 100) hx hb dL_calls_93 (by decide) (fun c_93 => ?_) (fun c_93 => ?_)
    · skip
      refine lv_iconst (v := 0) hx hb dL_calls_100 (by decide) ?_
      refine W.widen (k := 4) (n := 60) (Nat.le_of_ble_eq_true rfl) (Nat.le_of_ble_eq_true rfl) ?_
      exact W.iret (v := 0) hx hb hr (fun t9 ht9 hW => ⟨⟨_, (), rfl, by rw [if_pos hcode, if_pos c_93], by dsimp only; rw [ht9]; exact Or.inl ⟨hcode, hB⟩⟩, hS.F ht9⟩) hS.2.2 dL_calls_101
    · skip
      refine lv_iconst (v := 1) hx hb dL_calls_96 (by decide) ?_
      refine lv_goto (tgt := 101) hx hb dL_calls_97 (by decide) ?_
      refine W.widen (k := 4) (n := 60) (Nat.le_of_ble_eq_true rfl) (Nat.le_of_ble_eq_true rfl) ?_
      exact W.iret (v := 1) hx hb hr (fun t9 ht9 hW => ⟨⟨_, (), rfl, by rw [if_pos hcode, if_neg c_93], by dsimp only; rw [ht9]; exact Or.inl ⟨hcode, hB⟩⟩, hS.F ht9⟩) hS.2.2 dL_calls_101
