theorem ntr {b : Bool} (h : b = false) : ¬ b = true := by rw [h]; exact Bool.false_ne_true
abbrev tW (K : Nat → ClassId) (q sa wa : Nat) (su go : Nat → Int32) (dec win par prt : Int32) : va_W := [(q, .inr (1, [.ref sa, .ref wa, .int dec, .int win, .int par, .int prt])), (sa, .inl (K 0, 7, .inl su)), (wa, .inl (K 1, 7, .inl go))]
abbrev dW (K : Nat → ClassId) (q ua na fa : Nat) (one oth : Int32) (un nw fi : Nat → Int32) (mc fst cl : Int32) : va_W := [(q, .inr (0, [.int one, .int oth, .ref ua, .ref na, .ref fa, .int mc, .int fst, .int cl])), (ua, .inl (K 1, 30, .inl un)), (na, .inl (K 0, 7, .inl nw)), (fa, .inl (K 0, 7, .inl fi))]

def sp_X2_isBidder (p0 : Int32) : Bool := if p0 < 0 then false else (if 7 ≤ p0 then false else true)
set_option maxHeartbeats 4000000 in
set_option maxRecDepth 100000 in
theorem c_X2_isBidder (l : Launch) (D : va_G) (K : Nat → ClassId) (p0 : Int32) : PU l yX2_isBidder wsX2_isBidder 0 0 D K [.int p0] (fun H => True) (.int (bI (sp_X2_isBidder p0))) := by
  refine Met.ofW (cc := cX2_isBidder) (maxL := 1) (ret := (some .boolean)) (by decide) rfl ?_
  intro p e s m args below meth c s₁ B hml hv
  obtain ⟨rfl, hP, hK, hE⟩ := hv
  have hx := B.exec
  have hb := B.bytes
  have hr := B.returns
  have hts := atoms_spec (ws := wsX2_isBidder) B.pre
  have hown : s.vm.findClass RX2 = some m.cls := findClass_of_methodNamed B.named
  have hlocks := B.notSynchronized
  have hc : CallFix p m c cX2_isBidder 1 s ([.int p0] : List Value).toArray wsX2_isBidder RX2 := ⟨hx, hb, hml, hown, hts⟩
  have hl := lv_entry ([.int p0]) (n := 1) (Nat.le_of_ble_eq_true rfl)
  rw [lg_entry_eq]
  generalize (lg_sl ([.int p0]) ++ List.replicate (1 - (lg_sl ([.int p0])).length) Slot.unset).toArray = ls at hl ⊢
  have hl : lv_has ls 1 [(0, .int p0)] := hl
  refine lv_iload_n hx hb dX2_isBidder_0 rfl (lv_at hl 0 rfl) ?_
  refine lv_if_lt (tgt := 14) hx hb dX2_isBidder_1 (by decide) (fun c_1 => ?_) (fun c_1 => ?_)
  · skip
    refine lv_iconst (v := 0) hx hb dX2_isBidder_14 (by decide) ?_
    exact pu_zret hx hb hr hlocks dX2_isBidder_15 (bI_nar _) (bI_eq (a := false) (Eq.symm (Eq.trans (if_pos c_1) (rfl))))
  · skip
    refine lv_iload_n hx hb dX2_isBidder_4 rfl (lv_at hl 0 rfl) ?_
    refine lv_bipush (v := 7) hx hb dX2_isBidder_5 (by decide) ?_
    refine lv_icmp_ge (tgt := 14) hx hb dX2_isBidder_7 (by decide) (fun c_7 => ?_) (fun c_7 => ?_)
    · skip
      refine lv_iconst (v := 0) hx hb dX2_isBidder_14 (by decide) ?_
      exact pu_zret hx hb hr hlocks dX2_isBidder_15 (bI_nar _) (bI_eq (a := false) (Eq.symm (Eq.trans (if_neg c_1) (Eq.trans (if_pos c_7) (rfl)))))
    · skip
      refine lv_iconst (v := 1) hx hb dX2_isBidder_10 (by decide) ?_
      refine lv_goto (tgt := 15) hx hb dX2_isBidder_11 (by decide) ?_
      exact pu_zret hx hb hr hlocks dX2_isBidder_15 (bI_nar _) (bI_eq (a := true) (Eq.symm (Eq.trans (if_neg c_1) (Eq.trans (if_neg c_7) (rfl)))))

theorem isB_iff {x : Int32} : sp_X2_isBidder x = true ↔ 0 ≤ x.toInt ∧ x.toInt < 7 := by
  unfold sp_X2_isBidder
  simp only [Int32.lt_iff_toInt_lt, Int32.le_iff_toInt_le]
  have h0 : (0 : Int32).toInt = 0 := by decide
  have h7 : (7 : Int32).toInt = 7 := by decide
  rw [h0, h7]
  split <;> (try split) <;> simp <;> omega
theorem in7 {x : Int32} (h : sp_X2_isBidder x = true) : vp_in x 7 := vp_in_iff.mpr (isB_iff.mp h)

def sp_X2_isMoney (p0 : Int32) : Bool := if p0 < 1 then false else (if 100000 < p0 then false else true)
set_option maxHeartbeats 4000000 in
set_option maxRecDepth 100000 in
theorem c_X2_isMoney (l : Launch) (D : va_G) (K : Nat → ClassId) (p0 : Int32) : PU l yX2_isMoney wsX2_isMoney 0 0 D K [.int p0] (fun H => True) (.int (bI (sp_X2_isMoney p0))) := by
  refine Met.ofW (cc := cX2_isMoney) (maxL := 1) (ret := (some .boolean)) (by decide) rfl ?_
  intro p e s m args below meth c s₁ B hml hv
  obtain ⟨rfl, hP, hK, hE⟩ := hv
  have hx := B.exec
  have hb := B.bytes
  have hr := B.returns
  have hts := atoms_spec (ws := wsX2_isMoney) B.pre
  have hown : s.vm.findClass RX2 = some m.cls := findClass_of_methodNamed B.named
  have hlocks := B.notSynchronized
  have hc : CallFix p m c cX2_isMoney 1 s ([.int p0] : List Value).toArray wsX2_isMoney RX2 := ⟨hx, hb, hml, hown, hts⟩
  have hl := lv_entry ([.int p0]) (n := 1) (Nat.le_of_ble_eq_true rfl)
  rw [lg_entry_eq]
  generalize (lg_sl ([.int p0]) ++ List.replicate (1 - (lg_sl ([.int p0])).length) Slot.unset).toArray = ls at hl ⊢
  have hl : lv_has ls 1 [(0, .int p0)] := hl
  refine lv_iload_n hx hb dX2_isMoney_0 rfl (lv_at hl 0 rfl) ?_
  refine lv_iconst (v := 1) hx hb dX2_isMoney_1 (by decide) ?_
  refine lv_icmp_lt (tgt := 15) hx hb dX2_isMoney_2 (by decide) (fun c_2 => ?_) (fun c_2 => ?_)
  · skip
    refine lv_iconst (v := 0) hx hb dX2_isMoney_15 (by decide) ?_
    exact pu_zret hx hb hr hlocks dX2_isMoney_16 (bI_nar _) (bI_eq (a := false) (Eq.symm (Eq.trans (if_pos c_2) (rfl))))
  · skip
    refine lv_iload_n hx hb dX2_isMoney_5 rfl (lv_at hl 0 rfl) ?_
    refine lv_ldc hx hb hown (hts (.constant RX2 191 (100000)) (by decide +kernel)) dX2_isMoney_6 ?_
    refine lv_icmp_gt (tgt := 15) hx hb dX2_isMoney_8 (by decide) (fun c_8 => ?_) (fun c_8 => ?_)
    · skip
      refine lv_iconst (v := 0) hx hb dX2_isMoney_15 (by decide) ?_
      exact pu_zret hx hb hr hlocks dX2_isMoney_16 (bI_nar _) (bI_eq (a := false) (Eq.symm (Eq.trans (if_neg c_2) (Eq.trans (if_pos c_8) (rfl)))))
    · skip
      refine lv_iconst (v := 1) hx hb dX2_isMoney_11 (by decide) ?_
      refine lv_goto (tgt := 16) hx hb dX2_isMoney_12 (by decide) ?_
      exact pu_zret hx hb hr hlocks dX2_isMoney_16 (bI_nar _) (bI_eq (a := true) (Eq.symm (Eq.trans (if_neg c_2) (Eq.trans (if_neg c_8) (rfl)))))

def sp_X2_isPair (p0 : Int32) (p1 : Int32) : Bool := if sp_X2_isBidder p0 = true then (if sp_X2_isBidder p1 = true then (if p0 = p1 then false else true) else false) else false
set_option maxHeartbeats 4000000 in
set_option maxRecDepth 100000 in
theorem c_X2_isPair (l : Launch) (D : va_G) (K : Nat → ClassId) (p0 p1 : Int32) : PU l yX2_isPair wsX2_isPair 1 20 D K [.int p0, .int p1] (fun H => True) (.int (bI (sp_X2_isPair p0 p1))) := by
  refine Met.ofW (cc := cX2_isPair) (maxL := 2) (ret := (some .boolean)) (by decide) rfl ?_
  intro p e s m args below meth c s₁ B hml hv
  obtain ⟨rfl, hP, hK, hE⟩ := hv
  have hx := B.exec
  have hb := B.bytes
  have hr := B.returns
  have hts := atoms_spec (ws := wsX2_isPair) B.pre
  have hown : s.vm.findClass RX2 = some m.cls := findClass_of_methodNamed B.named
  have hlocks := B.notSynchronized
  have hc : CallFix p m c cX2_isPair 2 s ([.int p0, .int p1] : List Value).toArray wsX2_isPair RX2 := ⟨hx, hb, hml, hown, hts⟩
  have hl := lv_entry ([.int p0, .int p1]) (n := 2) (Nat.le_of_ble_eq_true rfl)
  rw [lg_entry_eq]
  generalize (lg_sl ([.int p0, .int p1]) ++ List.replicate (2 - (lg_sl ([.int p0, .int p1])).length) Slot.unset).toArray = ls at hl ⊢
  have hl : lv_has ls 2 [(0, .int p0), (1, .int p1)] := hl
  refine lv_iload_n hx hb dX2_isPair_0 rfl (lv_at hl 0 rfl) ?_
  refine pu_S (As := [.int p0]) (rest := []) hc (c_X2_isBidder l D K p0) (va_cwS 1 hts gX2_isPair_X2_isBidder rfl rfl rfl (by decide +kernel) ⟨Nat.le_of_ble_eq_true rfl, Nat.le_of_ble_eq_true rfl⟩) trivial hK hE rfl rfl hl.1 (Nat.le_of_ble_eq_true rfl) dX2_isPair_1 ⟨Nat.le_of_ble_eq_true rfl, Nat.le_of_ble_eq_true rfl⟩ ?_
  refine lb_eq (tgt := 23) hx hb dX2_isPair_4 (by decide) (fun c_4 => ?_) (fun c_4 => ?_)
  · skip
    refine lv_iconst (v := 0) hx hb dX2_isPair_23 (by decide) ?_
    exact pu_zret hx hb hr hlocks dX2_isPair_24 (bI_nar _) (bI_eq (a := false) (Eq.symm (Eq.trans (if_neg (ntr c_4)) (rfl))))
  · skip
    refine lv_iload_n hx hb dX2_isPair_7 rfl (lv_at hl 1 rfl) ?_
    refine pu_S (As := [.int p1]) (rest := []) hc (c_X2_isBidder l D K p1) (va_cwS 1 hts gX2_isPair_X2_isBidder rfl rfl rfl (by decide +kernel) ⟨Nat.le_of_ble_eq_true rfl, Nat.le_of_ble_eq_true rfl⟩) trivial hK hE rfl rfl hl.1 (Nat.le_of_ble_eq_true rfl) dX2_isPair_8 ⟨Nat.le_of_ble_eq_true rfl, Nat.le_of_ble_eq_true rfl⟩ ?_
    refine lb_eq (tgt := 23) hx hb dX2_isPair_11 (by decide) (fun c_11 => ?_) (fun c_11 => ?_)
    · skip
      refine lv_iconst (v := 0) hx hb dX2_isPair_23 (by decide) ?_
      exact pu_zret hx hb hr hlocks dX2_isPair_24 (bI_nar _) (bI_eq (a := false) (Eq.symm (Eq.trans (if_pos c_4) (Eq.trans (if_neg (ntr c_11)) (rfl)))))
    · skip
      refine lv_iload_n hx hb dX2_isPair_14 rfl (lv_at hl 0 rfl) ?_
      refine lv_iload_n hx hb dX2_isPair_15 rfl (lv_at hl 1 rfl) ?_
      refine W.eq (g2 := F0 m 16 ls [.int p1, .int p0]) rfl ?_
      refine lv_icmp_eq (tgt := 23) hx hb dX2_isPair_16 (by decide) (fun c_16 => ?_) (fun c_16 => ?_)
      · skip
        refine lv_iconst (v := 0) hx hb dX2_isPair_23 (by decide) ?_
        exact pu_zret hx hb hr hlocks dX2_isPair_24 (bI_nar _) (bI_eq (a := false) (Eq.symm (Eq.trans (if_pos c_4) (Eq.trans (if_pos c_11) (Eq.trans (if_pos c_16) (rfl))))))
      · skip
        refine lv_iconst (v := 1) hx hb dX2_isPair_19 (by decide) ?_
        refine lv_goto (tgt := 24) hx hb dX2_isPair_20 (by decide) ?_
        exact pu_zret hx hb hr hlocks dX2_isPair_24 (bI_nar _) (bI_eq (a := true) (Eq.symm (Eq.trans (if_pos c_4) (Eq.trans (if_pos c_11) (Eq.trans (if_neg c_16) (rfl))))))

def sp_X1_isOpen (dec : Int32) : Bool := if dec = 0 then true else false
set_option maxHeartbeats 4000000 in
set_option maxRecDepth 100000 in
theorem c_X1_isOpen (l : Launch) (D : va_G) (K : Nat → ClassId) (q sa wa : Nat) (su go : Nat → Int32) (dec win par prt : Int32) : PU l yX1_isOpen wsX1_isOpen 0 0 D K [.ref q] (fun H => va_P D vwCl (tW K q sa wa su go dec win par prt) H) (.int (bI (sp_X1_isOpen dec))) := by
  refine Met.ofW (cc := cX1_isOpen) (maxL := 1) (ret := (some .boolean)) (by decide) rfl ?_
  intro p e s m args below meth c s₁ B hml hv
  obtain ⟨rfl, hP, hK, hE⟩ := hv
  have hx := B.exec
  have hb := B.bytes
  have hr := B.returns
  have hts := atoms_spec (ws := wsX1_isOpen) B.pre
  have hown : s.vm.findClass RX1 = some m.cls := findClass_of_methodNamed B.named
  have hlocks := B.notSynchronized
  have hc : CallFix p m c cX1_isOpen 1 s ([.ref q] : List Value).toArray wsX1_isOpen RX1 := ⟨hx, hb, hml, hown, hts⟩
  have hin1 : ∀ w ∈ u_ws RX1 TX1 6, w ∈ wsX1_isOpen := by decide +kernel
  have hP : va_P D vwCl (tW K q sa wa su go dec win par prt) s.heap := hP
  have hl := lv_entry ([.ref q]) (n := 1) (Nat.le_of_ble_eq_true rfl)
  rw [lg_entry_eq]
  generalize (lg_sl ([.ref q]) ++ List.replicate (1 - (lg_sl ([.ref q])).length) Slot.unset).toArray = ls at hl ⊢
  have hl : lv_has ls 1 [(0, .ref q)] := hl
  refine lv_aload_n hx hb dX1_isOpen_0 rfl (lv_at hl 0 rfl) ?_
  refine va_get (D := D) (ci := 1) (v := .int dec) (C := RX1) (T := TX1) (N := 6) hx hb hts hin1 hown hK hP 0 rfl rfl 2 (by decide) (hts (.fieldLink RX1 19 "CartelWatch$Tender" "decided" "Z") (by decide +kernel)) (fun _ h9 => h9) rfl dX1_isOpen_1 ?_
  refine lv_if_ne (tgt := 11) hx hb dX1_isOpen_4 (by decide) (fun c_4 => ?_) (fun c_4 => ?_)
  · skip
    refine lv_iconst (v := 0) hx hb dX1_isOpen_11 (by decide) ?_
    exact pu_zret hx hb hr hlocks dX1_isOpen_12 (bI_nar _) (bI_eq (a := false) (Eq.symm (Eq.trans (if_neg c_4) (rfl))))
  · skip
    refine lv_iconst (v := 1) hx hb dX1_isOpen_7 (by decide) ?_
    refine lv_goto (tgt := 12) hx hb dX1_isOpen_8 (by decide) ?_
    exact pu_zret hx hb hr hlocks dX1_isOpen_12 (bI_nar _) (bI_eq (a := true) (Eq.symm (Eq.trans (if_pos c_4) (rfl))))

def sp_X1_isAwarded (win : Int32) : Bool := if win = (-1) then false else true
set_option maxHeartbeats 4000000 in
set_option maxRecDepth 100000 in
theorem c_X1_isAwarded (l : Launch) (D : va_G) (K : Nat → ClassId) (q sa wa : Nat) (su go : Nat → Int32) (dec win par prt : Int32) : PU l yX1_isAwarded wsX1_isAwarded 0 0 D K [.ref q] (fun H => va_P D vwCl (tW K q sa wa su go dec win par prt) H) (.int (bI (sp_X1_isAwarded win))) := by
  refine Met.ofW (cc := cX1_isAwarded) (maxL := 1) (ret := (some .boolean)) (by decide) rfl ?_
  intro p e s m args below meth c s₁ B hml hv
  obtain ⟨rfl, hP, hK, hE⟩ := hv
  have hx := B.exec
  have hb := B.bytes
  have hr := B.returns
  have hts := atoms_spec (ws := wsX1_isAwarded) B.pre
  have hown : s.vm.findClass RX1 = some m.cls := findClass_of_methodNamed B.named
  have hlocks := B.notSynchronized
  have hc : CallFix p m c cX1_isAwarded 1 s ([.ref q] : List Value).toArray wsX1_isAwarded RX1 := ⟨hx, hb, hml, hown, hts⟩
  have hin1 : ∀ w ∈ u_ws RX1 TX1 6, w ∈ wsX1_isAwarded := by decide +kernel
  have hP : va_P D vwCl (tW K q sa wa su go dec win par prt) s.heap := hP
  have hl := lv_entry ([.ref q]) (n := 1) (Nat.le_of_ble_eq_true rfl)
  rw [lg_entry_eq]
  generalize (lg_sl ([.ref q]) ++ List.replicate (1 - (lg_sl ([.ref q])).length) Slot.unset).toArray = ls at hl ⊢
  have hl : lv_has ls 1 [(0, .ref q)] := hl
  refine lv_aload_n hx hb dX1_isAwarded_0 rfl (lv_at hl 0 rfl) ?_
  refine va_get (D := D) (ci := 1) (v := .int win) (C := RX1) (T := TX1) (N := 6) hx hb hts hin1 hown hK hP 0 rfl rfl 3 (by decide) (hts (.fieldLink RX1 23 "CartelWatch$Tender" "winner" "I") (by decide +kernel)) (fun _ h9 => h9) rfl dX1_isAwarded_1 ?_
  refine lv_iconst (v := -1) hx hb dX1_isAwarded_4 (by decide) ?_
  refine lv_icmp_eq (tgt := 12) hx hb dX1_isAwarded_5 (by decide) (fun c_5 => ?_) (fun c_5 => ?_)
  · skip
    refine lv_iconst (v := 0) hx hb dX1_isAwarded_12 (by decide) ?_
    exact pu_zret hx hb hr hlocks dX1_isAwarded_13 (bI_nar _) (bI_eq (a := false) (Eq.symm (Eq.trans (if_pos c_5) (rfl))))
  · skip
    refine lv_iconst (v := 1) hx hb dX1_isAwarded_8 (by decide) ?_
    refine lv_goto (tgt := 13) hx hb dX1_isAwarded_9 (by decide) ?_
    exact pu_zret hx hb hr hlocks dX1_isAwarded_13 (bI_nar _) (bI_eq (a := true) (Eq.symm (Eq.trans (if_neg c_5) (rfl))))

def sp_X1_isPassedOn (par : Int32) : Bool := if par = (-1) then false else true
set_option maxHeartbeats 4000000 in
set_option maxRecDepth 100000 in
theorem c_X1_isPassedOn (l : Launch) (D : va_G) (K : Nat → ClassId) (q sa wa : Nat) (su go : Nat → Int32) (dec win par prt : Int32) : PU l yX1_isPassedOn wsX1_isPassedOn 0 0 D K [.ref q] (fun H => va_P D vwCl (tW K q sa wa su go dec win par prt) H) (.int (bI (sp_X1_isPassedOn par))) := by
  refine Met.ofW (cc := cX1_isPassedOn) (maxL := 1) (ret := (some .boolean)) (by decide) rfl ?_
  intro p e s m args below meth c s₁ B hml hv
  obtain ⟨rfl, hP, hK, hE⟩ := hv
  have hx := B.exec
  have hb := B.bytes
  have hr := B.returns
  have hts := atoms_spec (ws := wsX1_isPassedOn) B.pre
  have hown : s.vm.findClass RX1 = some m.cls := findClass_of_methodNamed B.named
  have hlocks := B.notSynchronized
  have hc : CallFix p m c cX1_isPassedOn 1 s ([.ref q] : List Value).toArray wsX1_isPassedOn RX1 := ⟨hx, hb, hml, hown, hts⟩
  have hin1 : ∀ w ∈ u_ws RX1 TX1 6, w ∈ wsX1_isPassedOn := by decide +kernel
  have hP : va_P D vwCl (tW K q sa wa su go dec win par prt) s.heap := hP
  have hl := lv_entry ([.ref q]) (n := 1) (Nat.le_of_ble_eq_true rfl)
  rw [lg_entry_eq]
  generalize (lg_sl ([.ref q]) ++ List.replicate (1 - (lg_sl ([.ref q])).length) Slot.unset).toArray = ls at hl ⊢
  have hl : lv_has ls 1 [(0, .ref q)] := hl
  refine lv_aload_n hx hb dX1_isPassedOn_0 rfl (lv_at hl 0 rfl) ?_
  refine va_get (D := D) (ci := 1) (v := .int par) (C := RX1) (T := TX1) (N := 6) hx hb hts hin1 hown hK hP 0 rfl rfl 4 (by decide) (hts (.fieldLink RX1 27 "CartelWatch$Tender" "partner" "I") (by decide +kernel)) (fun _ h9 => h9) rfl dX1_isPassedOn_1 ?_
  refine lv_iconst (v := -1) hx hb dX1_isPassedOn_4 (by decide) ?_
  refine lv_icmp_eq (tgt := 12) hx hb dX1_isPassedOn_5 (by decide) (fun c_5 => ?_) (fun c_5 => ?_)
  · skip
    refine lv_iconst (v := 0) hx hb dX1_isPassedOn_12 (by decide) ?_
    exact pu_zret hx hb hr hlocks dX1_isPassedOn_13 (bI_nar _) (bI_eq (a := false) (Eq.symm (Eq.trans (if_pos c_5) (rfl))))
  · skip
    refine lv_iconst (v := 1) hx hb dX1_isPassedOn_8 (by decide) ?_
    refine lv_goto (tgt := 13) hx hb dX1_isPassedOn_9 (by decide) ?_
    exact pu_zret hx hb hr hlocks dX1_isPassedOn_13 (bI_nar _) (bI_eq (a := true) (Eq.symm (Eq.trans (if_neg c_5) (rfl))))

def sp_X1_winner (win : Int32) : Int32 := win
set_option maxHeartbeats 4000000 in
set_option maxRecDepth 100000 in
theorem c_X1_winner (l : Launch) (D : va_G) (K : Nat → ClassId) (q sa wa : Nat) (su go : Nat → Int32) (dec win par prt : Int32) : PU l yX1_winner wsX1_winner 0 0 D K [.ref q] (fun H => va_P D vwCl (tW K q sa wa su go dec win par prt) H) (.int (sp_X1_winner win)) := by
  refine Met.ofW (cc := cX1_winner) (maxL := 1) (ret := (some .int)) (by decide) rfl ?_
  intro p e s m args below meth c s₁ B hml hv
  obtain ⟨rfl, hP, hK, hE⟩ := hv
  have hx := B.exec
  have hb := B.bytes
  have hr := B.returns
  have hts := atoms_spec (ws := wsX1_winner) B.pre
  have hown : s.vm.findClass RX1 = some m.cls := findClass_of_methodNamed B.named
  have hlocks := B.notSynchronized
  have hc : CallFix p m c cX1_winner 1 s ([.ref q] : List Value).toArray wsX1_winner RX1 := ⟨hx, hb, hml, hown, hts⟩
  have hin1 : ∀ w ∈ u_ws RX1 TX1 6, w ∈ wsX1_winner := by decide +kernel
  have hP : va_P D vwCl (tW K q sa wa su go dec win par prt) s.heap := hP
  have hl := lv_entry ([.ref q]) (n := 1) (Nat.le_of_ble_eq_true rfl)
  rw [lg_entry_eq]
  generalize (lg_sl ([.ref q]) ++ List.replicate (1 - (lg_sl ([.ref q])).length) Slot.unset).toArray = ls at hl ⊢
  have hl : lv_has ls 1 [(0, .ref q)] := hl
  refine lv_aload_n hx hb dX1_winner_0 rfl (lv_at hl 0 rfl) ?_
  refine va_get (D := D) (ci := 1) (v := .int win) (C := RX1) (T := TX1) (N := 6) hx hb hts hin1 hown hK hP 0 rfl rfl 3 (by decide) (hts (.fieldLink RX1 23 "CartelWatch$Tender" "winner" "I") (by decide +kernel)) (fun _ h9 => h9) rfl dX1_winner_1 ?_
  exact pu_iret hx hb hr hlocks dX1_winner_4 (Eq.symm (rfl))

def sp_X1_sumOf (su : Nat → Int32) (p0 : Int32) : Int32 := if sp_X2_isBidder p0 = true then (su p0.toNatClampNeg) else 0
set_option maxHeartbeats 4000000 in
set_option maxRecDepth 100000 in
theorem c_X1_sumOf (l : Launch) (D : va_G) (K : Nat → ClassId) (q sa wa : Nat) (su go : Nat → Int32) (dec win par prt p0 : Int32) : PU l yX1_sumOf wsX1_sumOf 1 20 D K [.ref q, .int p0] (fun H => va_P D vwCl (tW K q sa wa su go dec win par prt) H) (.int (sp_X1_sumOf su p0)) := by
  refine Met.ofW (cc := cX1_sumOf) (maxL := 2) (ret := (some .int)) (by decide) rfl ?_
  intro p e s m args below meth c s₁ B hml hv
  obtain ⟨rfl, hP, hK, hE⟩ := hv
  have hx := B.exec
  have hb := B.bytes
  have hr := B.returns
  have hts := atoms_spec (ws := wsX1_sumOf) B.pre
  have hown : s.vm.findClass RX1 = some m.cls := findClass_of_methodNamed B.named
  have hlocks := B.notSynchronized
  have hc : CallFix p m c cX1_sumOf 2 s ([.ref q, .int p0] : List Value).toArray wsX1_sumOf RX1 := ⟨hx, hb, hml, hown, hts⟩
  have hin1 : ∀ w ∈ u_ws RX1 TX1 6, w ∈ wsX1_sumOf := by decide +kernel
  have hP : va_P D vwCl (tW K q sa wa su go dec win par prt) s.heap := hP
  have hl := lv_entry ([.ref q, .int p0]) (n := 2) (Nat.le_of_ble_eq_true rfl)
  rw [lg_entry_eq]
  generalize (lg_sl ([.ref q, .int p0]) ++ List.replicate (2 - (lg_sl ([.ref q, .int p0])).length) Slot.unset).toArray = ls at hl ⊢
  have hl : lv_has ls 2 [(0, .ref q), (1, .int p0)] := hl
  refine lv_iload_n hx hb dX1_sumOf_0 rfl (lv_at hl 1 rfl) ?_
  refine pu_SN (As := [.int p0]) (rest := []) hc (c_X2_isBidder l D K p0) ⟨va_cnB (own := RX1) (index := 33) (host := RX2) 1 hts gX1_sumOf_X2_isBidder_n33 rfl rfl rfl hE.1 (hts (.initialized RX2) (by decide +kernel)) (by decide +kernel) ⟨Nat.le_of_ble_eq_true rfl, Nat.le_of_ble_eq_true rfl⟩, (hts (.static yX2_isBidder) (by decide +kernel)), trivial⟩ trivial hK hE rfl rfl hl.1 (Nat.le_of_ble_eq_true rfl) dX1_sumOf_1 ⟨Nat.le_of_ble_eq_true rfl, Nat.le_of_ble_eq_true rfl⟩ ?_
  refine lb_eq (tgt := 16) hx hb dX1_sumOf_4 (by decide) (fun c_4 => ?_) (fun c_4 => ?_)
  · skip
    refine lv_iconst (v := 0) hx hb dX1_sumOf_16 (by decide) ?_
    exact pu_iret hx hb hr hlocks dX1_sumOf_17 (Eq.symm (Eq.trans (if_neg (ntr c_4)) (rfl)))
  · skip
    refine lv_aload_n hx hb dX1_sumOf_7 rfl (lv_at hl 0 rfl) ?_
    refine va_get (D := D) (ci := 1) (v := .ref sa) (C := RX1) (T := TX1) (N := 6) hx hb hts hin1 hown hK hP 0 rfl rfl 0 (by decide) (hts (.fieldLink RX1 9 "CartelWatch$Tender" "sums" "[I") (by decide +kernel)) (fun _ h9 => h9) rfl dX1_sumOf_8 ?_
    refine lv_iload_n hx hb dX1_sumOf_11 rfl (lv_at hl 1 rfl) ?_
    refine va_iald hx hb hK hP 1 0 (cA := K 0) rfl rfl (in7 c_4) dX1_sumOf_12 ?_
    refine lv_goto (tgt := 17) hx hb dX1_sumOf_13 (by decide) ?_
    exact pu_iret hx hb hr hlocks dX1_sumOf_17 (Eq.symm (Eq.trans (if_pos c_4) (rfl)))

def sp_X1_hasBidOf (su : Nat → Int32) (p0 : Int32) : Bool := if sp_X2_isBidder p0 = true then (if (su p0.toNatClampNeg) ≤ 0 then false else true) else false
set_option maxHeartbeats 4000000 in
set_option maxRecDepth 100000 in
theorem c_X1_hasBidOf (l : Launch) (D : va_G) (K : Nat → ClassId) (q sa wa : Nat) (su go : Nat → Int32) (dec win par prt p0 : Int32) : PU l yX1_hasBidOf wsX1_hasBidOf 1 20 D K [.ref q, .int p0] (fun H => va_P D vwCl (tW K q sa wa su go dec win par prt) H) (.int (bI (sp_X1_hasBidOf su p0))) := by
  refine Met.ofW (cc := cX1_hasBidOf) (maxL := 2) (ret := (some .boolean)) (by decide) rfl ?_
  intro p e s m args below meth c s₁ B hml hv
  obtain ⟨rfl, hP, hK, hE⟩ := hv
  have hx := B.exec
  have hb := B.bytes
  have hr := B.returns
  have hts := atoms_spec (ws := wsX1_hasBidOf) B.pre
  have hown : s.vm.findClass RX1 = some m.cls := findClass_of_methodNamed B.named
  have hlocks := B.notSynchronized
  have hc : CallFix p m c cX1_hasBidOf 2 s ([.ref q, .int p0] : List Value).toArray wsX1_hasBidOf RX1 := ⟨hx, hb, hml, hown, hts⟩
  have hin1 : ∀ w ∈ u_ws RX1 TX1 6, w ∈ wsX1_hasBidOf := by decide +kernel
  have hP : va_P D vwCl (tW K q sa wa su go dec win par prt) s.heap := hP
  have hl := lv_entry ([.ref q, .int p0]) (n := 2) (Nat.le_of_ble_eq_true rfl)
  rw [lg_entry_eq]
  generalize (lg_sl ([.ref q, .int p0]) ++ List.replicate (2 - (lg_sl ([.ref q, .int p0])).length) Slot.unset).toArray = ls at hl ⊢
  have hl : lv_has ls 2 [(0, .ref q), (1, .int p0)] := hl
  refine lv_iload_n hx hb dX1_hasBidOf_0 rfl (lv_at hl 1 rfl) ?_
  refine pu_SN (As := [.int p0]) (rest := []) hc (c_X2_isBidder l D K p0) ⟨va_cnB (own := RX1) (index := 33) (host := RX2) 1 hts gX1_hasBidOf_X2_isBidder_n33 rfl rfl rfl hE.1 (hts (.initialized RX2) (by decide +kernel)) (by decide +kernel) ⟨Nat.le_of_ble_eq_true rfl, Nat.le_of_ble_eq_true rfl⟩, (hts (.static yX2_isBidder) (by decide +kernel)), trivial⟩ trivial hK hE rfl rfl hl.1 (Nat.le_of_ble_eq_true rfl) dX1_hasBidOf_1 ⟨Nat.le_of_ble_eq_true rfl, Nat.le_of_ble_eq_true rfl⟩ ?_
  refine lb_eq (tgt := 20) hx hb dX1_hasBidOf_4 (by decide) (fun c_4 => ?_) (fun c_4 => ?_)
  · skip
    refine lv_iconst (v := 0) hx hb dX1_hasBidOf_20 (by decide) ?_
    exact pu_zret hx hb hr hlocks dX1_hasBidOf_21 (bI_nar _) (bI_eq (a := false) (Eq.symm (Eq.trans (if_neg (ntr c_4)) (rfl))))
  · skip
    refine lv_aload_n hx hb dX1_hasBidOf_7 rfl (lv_at hl 0 rfl) ?_
    refine va_get (D := D) (ci := 1) (v := .ref sa) (C := RX1) (T := TX1) (N := 6) hx hb hts hin1 hown hK hP 0 rfl rfl 0 (by decide) (hts (.fieldLink RX1 9 "CartelWatch$Tender" "sums" "[I") (by decide +kernel)) (fun _ h9 => h9) rfl dX1_hasBidOf_8 ?_
    refine lv_iload_n hx hb dX1_hasBidOf_11 rfl (lv_at hl 1 rfl) ?_
    refine va_iald hx hb hK hP 1 0 (cA := K 0) rfl rfl (in7 c_4) dX1_hasBidOf_12 ?_
    refine lv_if_le (tgt := 20) hx hb dX1_hasBidOf_13 (by decide) (fun c_13 => ?_) (fun c_13 => ?_)
    · skip
      refine lv_iconst (v := 0) hx hb dX1_hasBidOf_20 (by decide) ?_
      exact pu_zret hx hb hr hlocks dX1_hasBidOf_21 (bI_nar _) (bI_eq (a := false) (Eq.symm (Eq.trans (if_pos c_4) (Eq.trans (if_pos c_13) (rfl)))))
    · skip
      refine W.eq (g2 := F0 m 16 ls []) rfl ?_
      refine lv_iconst (v := 1) hx hb dX1_hasBidOf_16 (by decide) ?_
      refine lv_goto (tgt := 21) hx hb dX1_hasBidOf_17 (by decide) ?_
      exact pu_zret hx hb hr hlocks dX1_hasBidOf_21 (bI_nar _) (bI_eq (a := true) (Eq.symm (Eq.trans (if_pos c_4) (Eq.trans (if_neg c_13) (rfl)))))

def sp_X1_hasWithdrawn (go : Nat → Int32) (p0 : Int32) : Bool := if sp_X2_isBidder p0 = true then (if (go p0.toNatClampNeg) = 0 then false else true) else false
set_option maxHeartbeats 4000000 in
set_option maxRecDepth 100000 in
theorem c_X1_hasWithdrawn (l : Launch) (D : va_G) (K : Nat → ClassId) (q sa wa : Nat) (su go : Nat → Int32) (dec win par prt p0 : Int32) : PU l yX1_hasWithdrawn wsX1_hasWithdrawn 1 20 D K [.ref q, .int p0] (fun H => va_P D vwCl (tW K q sa wa su go dec win par prt) H) (.int (bI (sp_X1_hasWithdrawn go p0))) := by
  refine Met.ofW (cc := cX1_hasWithdrawn) (maxL := 2) (ret := (some .boolean)) (by decide) rfl ?_
  intro p e s m args below meth c s₁ B hml hv
  obtain ⟨rfl, hP, hK, hE⟩ := hv
  have hx := B.exec
  have hb := B.bytes
  have hr := B.returns
  have hts := atoms_spec (ws := wsX1_hasWithdrawn) B.pre
  have hown : s.vm.findClass RX1 = some m.cls := findClass_of_methodNamed B.named
  have hlocks := B.notSynchronized
  have hc : CallFix p m c cX1_hasWithdrawn 2 s ([.ref q, .int p0] : List Value).toArray wsX1_hasWithdrawn RX1 := ⟨hx, hb, hml, hown, hts⟩
  have hin1 : ∀ w ∈ u_ws RX1 TX1 6, w ∈ wsX1_hasWithdrawn := by decide +kernel
  have hP : va_P D vwCl (tW K q sa wa su go dec win par prt) s.heap := hP
  have hl := lv_entry ([.ref q, .int p0]) (n := 2) (Nat.le_of_ble_eq_true rfl)
  rw [lg_entry_eq]
  generalize (lg_sl ([.ref q, .int p0]) ++ List.replicate (2 - (lg_sl ([.ref q, .int p0])).length) Slot.unset).toArray = ls at hl ⊢
  have hl : lv_has ls 2 [(0, .ref q), (1, .int p0)] := hl
  refine lv_iload_n hx hb dX1_hasWithdrawn_0 rfl (lv_at hl 1 rfl) ?_
  refine pu_SN (As := [.int p0]) (rest := []) hc (c_X2_isBidder l D K p0) ⟨va_cnB (own := RX1) (index := 33) (host := RX2) 1 hts gX1_hasWithdrawn_X2_isBidder_n33 rfl rfl rfl hE.1 (hts (.initialized RX2) (by decide +kernel)) (by decide +kernel) ⟨Nat.le_of_ble_eq_true rfl, Nat.le_of_ble_eq_true rfl⟩, (hts (.static yX2_isBidder) (by decide +kernel)), trivial⟩ trivial hK hE rfl rfl hl.1 (Nat.le_of_ble_eq_true rfl) dX1_hasWithdrawn_1 ⟨Nat.le_of_ble_eq_true rfl, Nat.le_of_ble_eq_true rfl⟩ ?_
  refine lb_eq (tgt := 20) hx hb dX1_hasWithdrawn_4 (by decide) (fun c_4 => ?_) (fun c_4 => ?_)
  · skip
    refine lv_iconst (v := 0) hx hb dX1_hasWithdrawn_20 (by decide) ?_
    exact pu_zret hx hb hr hlocks dX1_hasWithdrawn_21 (bI_nar _) (bI_eq (a := false) (Eq.symm (Eq.trans (if_neg (ntr c_4)) (rfl))))
  · skip
    refine lv_aload_n hx hb dX1_hasWithdrawn_7 rfl (lv_at hl 0 rfl) ?_
    refine va_get (D := D) (ci := 1) (v := .ref wa) (C := RX1) (T := TX1) (N := 6) hx hb hts hin1 hown hK hP 0 rfl rfl 1 (by decide) (hts (.fieldLink RX1 15 "CartelWatch$Tender" "withdrawn" "[Z") (by decide +kernel)) (fun _ h9 => h9) rfl dX1_hasWithdrawn_8 ?_
    refine lv_iload_n hx hb dX1_hasWithdrawn_11 rfl (lv_at hl 1 rfl) ?_
    refine va_zald hx hb hK hP 2 1 (cA := K 1) rfl rfl (in7 c_4) dX1_hasWithdrawn_12 ?_
    refine lv_if_eq (tgt := 20) hx hb dX1_hasWithdrawn_13 (by decide) (fun c_13 => ?_) (fun c_13 => ?_)
    · skip
      refine lv_iconst (v := 0) hx hb dX1_hasWithdrawn_20 (by decide) ?_
      exact pu_zret hx hb hr hlocks dX1_hasWithdrawn_21 (bI_nar _) (bI_eq (a := false) (Eq.symm (Eq.trans (if_pos c_4) (Eq.trans (if_pos c_13) (rfl)))))
    · skip
      refine W.eq (g2 := F0 m 16 ls []) rfl ?_
      refine lv_iconst (v := 1) hx hb dX1_hasWithdrawn_16 (by decide) ?_
      refine lv_goto (tgt := 21) hx hb dX1_hasWithdrawn_17 (by decide) ?_
      exact pu_zret hx hb hr hlocks dX1_hasWithdrawn_21 (bI_nar _) (bI_eq (a := true) (Eq.symm (Eq.trans (if_pos c_4) (Eq.trans (if_neg c_13) (rfl)))))

def sp_X1_isStanding (su : Nat → Int32) (go : Nat → Int32) (p0 : Int32) : Bool := if sp_X2_isBidder p0 = true then (if (su p0.toNatClampNeg) ≤ 0 then false else (if (go p0.toNatClampNeg) = 0 then true else false)) else false
set_option maxHeartbeats 4000000 in
set_option maxRecDepth 100000 in
theorem c_X1_isStanding (l : Launch) (D : va_G) (K : Nat → ClassId) (q sa wa : Nat) (su go : Nat → Int32) (dec win par prt p0 : Int32) : PU l yX1_isStanding wsX1_isStanding 1 20 D K [.ref q, .int p0] (fun H => va_P D vwCl (tW K q sa wa su go dec win par prt) H) (.int (bI (sp_X1_isStanding su go p0))) := by
  refine Met.ofW (cc := cX1_isStanding) (maxL := 2) (ret := (some .boolean)) (by decide) rfl ?_
  intro p e s m args below meth c s₁ B hml hv
  obtain ⟨rfl, hP, hK, hE⟩ := hv
  have hx := B.exec
  have hb := B.bytes
  have hr := B.returns
  have hts := atoms_spec (ws := wsX1_isStanding) B.pre
  have hown : s.vm.findClass RX1 = some m.cls := findClass_of_methodNamed B.named
  have hlocks := B.notSynchronized
  have hc : CallFix p m c cX1_isStanding 2 s ([.ref q, .int p0] : List Value).toArray wsX1_isStanding RX1 := ⟨hx, hb, hml, hown, hts⟩
  have hin1 : ∀ w ∈ u_ws RX1 TX1 6, w ∈ wsX1_isStanding := by decide +kernel
  have hP : va_P D vwCl (tW K q sa wa su go dec win par prt) s.heap := hP
  have hl := lv_entry ([.ref q, .int p0]) (n := 2) (Nat.le_of_ble_eq_true rfl)
  rw [lg_entry_eq]
  generalize (lg_sl ([.ref q, .int p0]) ++ List.replicate (2 - (lg_sl ([.ref q, .int p0])).length) Slot.unset).toArray = ls at hl ⊢
  have hl : lv_has ls 2 [(0, .ref q), (1, .int p0)] := hl
  refine lv_iload_n hx hb dX1_isStanding_0 rfl (lv_at hl 1 rfl) ?_
  refine pu_SN (As := [.int p0]) (rest := []) hc (c_X2_isBidder l D K p0) ⟨va_cnB (own := RX1) (index := 33) (host := RX2) 1 hts gX1_isStanding_X2_isBidder_n33 rfl rfl rfl hE.1 (hts (.initialized RX2) (by decide +kernel)) (by decide +kernel) ⟨Nat.le_of_ble_eq_true rfl, Nat.le_of_ble_eq_true rfl⟩, (hts (.static yX2_isBidder) (by decide +kernel)), trivial⟩ trivial hK hE rfl rfl hl.1 (Nat.le_of_ble_eq_true rfl) dX1_isStanding_1 ⟨Nat.le_of_ble_eq_true rfl, Nat.le_of_ble_eq_true rfl⟩ ?_
  refine lb_eq (tgt := 29) hx hb dX1_isStanding_4 (by decide) (fun c_4 => ?_) (fun c_4 => ?_)
  · skip
    refine lv_iconst (v := 0) hx hb dX1_isStanding_29 (by decide) ?_
    exact pu_zret hx hb hr hlocks dX1_isStanding_30 (bI_nar _) (bI_eq (a := false) (Eq.symm (Eq.trans (if_neg (ntr c_4)) (rfl))))
  · skip
    refine lv_aload_n hx hb dX1_isStanding_7 rfl (lv_at hl 0 rfl) ?_
    refine va_get (D := D) (ci := 1) (v := .ref sa) (C := RX1) (T := TX1) (N := 6) hx hb hts hin1 hown hK hP 0 rfl rfl 0 (by decide) (hts (.fieldLink RX1 9 "CartelWatch$Tender" "sums" "[I") (by decide +kernel)) (fun _ h9 => h9) rfl dX1_isStanding_8 ?_
    refine lv_iload_n hx hb dX1_isStanding_11 rfl (lv_at hl 1 rfl) ?_
    refine va_iald hx hb hK hP 1 0 (cA := K 0) rfl rfl (in7 c_4) dX1_isStanding_12 ?_
    refine lv_if_le (tgt := 29) hx hb dX1_isStanding_13 (by decide) (fun c_13 => ?_) (fun c_13 => ?_)
    · skip
      refine lv_iconst (v := 0) hx hb dX1_isStanding_29 (by decide) ?_
      exact pu_zret hx hb hr hlocks dX1_isStanding_30 (bI_nar _) (bI_eq (a := false) (Eq.symm (Eq.trans (if_pos c_4) (Eq.trans (if_pos c_13) (rfl)))))
    · skip
      refine W.eq (g2 := F0 m 16 ls []) rfl ?_
      refine lv_aload_n hx hb dX1_isStanding_16 rfl (lv_at hl 0 rfl) ?_
      refine va_get (D := D) (ci := 1) (v := .ref wa) (C := RX1) (T := TX1) (N := 6) hx hb hts hin1 hown hK hP 0 rfl rfl 1 (by decide) (hts (.fieldLink RX1 15 "CartelWatch$Tender" "withdrawn" "[Z") (by decide +kernel)) (fun _ h9 => h9) rfl dX1_isStanding_17 ?_
      refine lv_iload_n hx hb dX1_isStanding_20 rfl (lv_at hl 1 rfl) ?_
      refine va_zald hx hb hK hP 2 1 (cA := K 1) rfl rfl (in7 c_4) dX1_isStanding_21 ?_
      refine lv_if_ne (tgt := 29) hx hb dX1_isStanding_22 (by decide) (fun c_22 => ?_) (fun c_22 => ?_)
      · skip
        refine lv_iconst (v := 0) hx hb dX1_isStanding_29 (by decide) ?_
        exact pu_zret hx hb hr hlocks dX1_isStanding_30 (bI_nar _) (bI_eq (a := false) (Eq.symm (Eq.trans (if_pos c_4) (Eq.trans (if_neg c_13) (Eq.trans (if_neg c_22) (rfl))))))
      · skip
        refine lv_iconst (v := 1) hx hb dX1_isStanding_25 (by decide) ?_
        refine lv_goto (tgt := 30) hx hb dX1_isStanding_26 (by decide) ?_
        exact pu_zret hx hb hr hlocks dX1_isStanding_30 (bI_nar _) (bI_eq (a := true) (Eq.symm (Eq.trans (if_pos c_4) (Eq.trans (if_neg c_13) (Eq.trans (if_pos c_22) (rfl))))))

def sp_X1_isNear (su : Nat → Int32) (win : Int32) (p0 : Int32) : Bool := if p0 ≤ (sp_X1_sumOf su win) then false else (if (((sp_X1_sumOf su win) * 5) / 100) < (p0 - (sp_X1_sumOf su win)) then false else true)
set_option maxHeartbeats 4000000 in
set_option maxRecDepth 100000 in
theorem c_X1_isNear (l : Launch) (D : va_G) (K : Nat → ClassId) (q sa wa : Nat) (su go : Nat → Int32) (dec win par prt p0 : Int32) : PU l yX1_isNear wsX1_isNear 2 41 D K [.ref q, .int p0] (fun H => va_P D vwCl (tW K q sa wa su go dec win par prt) H) (.int (bI (sp_X1_isNear su win p0))) := by
  refine Met.ofW (cc := cX1_isNear) (maxL := 3) (ret := (some .boolean)) (by decide) rfl ?_
  intro p e s m args below meth c s₁ B hml hv
  obtain ⟨rfl, hP, hK, hE⟩ := hv
  have hx := B.exec
  have hb := B.bytes
  have hr := B.returns
  have hts := atoms_spec (ws := wsX1_isNear) B.pre
  have hown : s.vm.findClass RX1 = some m.cls := findClass_of_methodNamed B.named
  have hlocks := B.notSynchronized
  have hc : CallFix p m c cX1_isNear 3 s ([.ref q, .int p0] : List Value).toArray wsX1_isNear RX1 := ⟨hx, hb, hml, hown, hts⟩
  have hin1 : ∀ w ∈ u_ws RX1 TX1 6, w ∈ wsX1_isNear := by decide +kernel
  have hP : va_P D vwCl (tW K q sa wa su go dec win par prt) s.heap := hP
  have hl := lv_entry ([.ref q, .int p0]) (n := 3) (Nat.le_of_ble_eq_true rfl)
  rw [lg_entry_eq]
  generalize (lg_sl ([.ref q, .int p0]) ++ List.replicate (3 - (lg_sl ([.ref q, .int p0])).length) Slot.unset).toArray = ls at hl ⊢
  have hl : lv_has ls 3 [(0, .ref q), (1, .int p0)] := hl
  refine lv_aload_n hx hb dX1_isNear_0 rfl (lv_at hl 0 rfl) ?_
  refine lv_aload_n hx hb dX1_isNear_1 rfl (lv_at hl 0 rfl) ?_
  refine va_get (D := D) (ci := 1) (v := .int win) (C := RX1) (T := TX1) (N := 6) hx hb hts hin1 hown hK hP 0 rfl rfl 3 (by decide) (hts (.fieldLink RX1 23 "CartelWatch$Tender" "winner" "I") (by decide +kernel)) (fun _ h9 => h9) rfl dX1_isNear_2 ?_
  refine pu_V (As := [.int win]) (rest := []) hc (c_X1_sumOf l D K q sa wa su go dec win par prt win) (cwV 1 hts gX1_isNear_X1_sumOf rfl rfl rfl (by decide +kernel) ⟨Nat.le_of_ble_eq_true rfl, Nat.le_of_ble_eq_true rfl⟩) hP hK hE (va_recv hK hP (ci := 1) (q0 := 0) rfl rfl) rfl rfl hl.1 (Nat.le_of_ble_eq_true rfl) dX1_isNear_5 ⟨Nat.le_of_ble_eq_true rfl, Nat.le_of_ble_eq_true rfl⟩ ?_
  refine lv_istore_n (lv' := [(2, .int (sp_X1_sumOf su win)), (0, .ref q), (1, .int p0)]) hx hb dX1_isNear_8 rfl hl (by decide) rfl (fun ls hl => ?_)
  refine lv_iload_n hx hb dX1_isNear_9 rfl (lv_at hl 2 rfl) ?_
  refine lv_iload_n hx hb dX1_isNear_10 rfl (lv_at hl 0 rfl) ?_
  refine lv_icmp_le (tgt := 30) hx hb dX1_isNear_11 (by decide) (fun c_11 => ?_) (fun c_11 => ?_)
  · skip
    refine lv_iconst (v := 0) hx hb dX1_isNear_30 (by decide) ?_
    exact pu_zret hx hb hr hlocks dX1_isNear_31 (bI_nar _) (bI_eq (a := false) (Eq.symm (Eq.trans (if_pos c_11) (rfl))))
  · skip
    refine W.eq (g2 := F0 m 14 ls []) rfl ?_
    refine lv_iload_n hx hb dX1_isNear_14 rfl (lv_at hl 2 rfl) ?_
    refine lv_iload_n hx hb dX1_isNear_15 rfl (lv_at hl 0 rfl) ?_
    refine lv_isub hx hb dX1_isNear_16 ?_
    refine lv_iload_n hx hb dX1_isNear_17 rfl (lv_at hl 0 rfl) ?_
    refine lv_iconst (v := 5) hx hb dX1_isNear_18 (by decide) ?_
    refine lv_imul hx hb dX1_isNear_19 ?_
    refine lv_bipush (v := 100) hx hb dX1_isNear_20 (by decide) ?_
    refine lv_idiv hx hb dX1_isNear_22 (by decide) ?_
    refine W.eq (g2 := F0 m 23 ls [.int (((sp_X1_sumOf su win) * 5) / 100), .int (p0 - (sp_X1_sumOf su win))]) rfl ?_
    refine lv_icmp_gt (tgt := 30) hx hb dX1_isNear_23 (by decide) (fun c_23 => ?_) (fun c_23 => ?_)
    · skip
      refine lv_iconst (v := 0) hx hb dX1_isNear_30 (by decide) ?_
      exact pu_zret hx hb hr hlocks dX1_isNear_31 (bI_nar _) (bI_eq (a := false) (Eq.symm (Eq.trans (if_neg c_11) (Eq.trans (if_pos c_23) (rfl)))))
    · skip
      refine lv_iconst (v := 1) hx hb dX1_isNear_26 (by decide) ?_
      refine lv_goto (tgt := 31) hx hb dX1_isNear_27 (by decide) ?_
      exact pu_zret hx hb hr hlocks dX1_isNear_31 (bI_nar _) (bI_eq (a := true) (Eq.symm (Eq.trans (if_neg c_11) (Eq.trans (if_neg c_23) (rfl)))))

def sp_X1_incomeOf (su : Nat → Int32) (win : Int32) (par : Int32) (prt : Int32) (p0 : Int32) : Int32 := if p0 = win then ((sp_X1_sumOf su p0) - prt) else (if p0 = par then prt else 0)
set_option maxHeartbeats 4000000 in
set_option maxRecDepth 100000 in
theorem c_X1_incomeOf (l : Launch) (D : va_G) (K : Nat → ClassId) (q sa wa : Nat) (su go : Nat → Int32) (dec win par prt p0 : Int32) : PU l yX1_incomeOf wsX1_incomeOf 2 41 D K [.ref q, .int p0] (fun H => va_P D vwCl (tW K q sa wa su go dec win par prt) H) (.int (sp_X1_incomeOf su win par prt p0)) := by
  refine Met.ofW (cc := cX1_incomeOf) (maxL := 2) (ret := (some .int)) (by decide) rfl ?_
  intro p e s m args below meth c s₁ B hml hv
  obtain ⟨rfl, hP, hK, hE⟩ := hv
  have hx := B.exec
  have hb := B.bytes
  have hr := B.returns
  have hts := atoms_spec (ws := wsX1_incomeOf) B.pre
  have hown : s.vm.findClass RX1 = some m.cls := findClass_of_methodNamed B.named
  have hlocks := B.notSynchronized
  have hc : CallFix p m c cX1_incomeOf 2 s ([.ref q, .int p0] : List Value).toArray wsX1_incomeOf RX1 := ⟨hx, hb, hml, hown, hts⟩
  have hin1 : ∀ w ∈ u_ws RX1 TX1 6, w ∈ wsX1_incomeOf := by decide +kernel
  have hP : va_P D vwCl (tW K q sa wa su go dec win par prt) s.heap := hP
  have hl := lv_entry ([.ref q, .int p0]) (n := 2) (Nat.le_of_ble_eq_true rfl)
  rw [lg_entry_eq]
  generalize (lg_sl ([.ref q, .int p0]) ++ List.replicate (2 - (lg_sl ([.ref q, .int p0])).length) Slot.unset).toArray = ls at hl ⊢
  have hl : lv_has ls 2 [(0, .ref q), (1, .int p0)] := hl
  refine lv_iload_n hx hb dX1_incomeOf_0 rfl (lv_at hl 1 rfl) ?_
  refine lv_aload_n hx hb dX1_incomeOf_1 rfl (lv_at hl 0 rfl) ?_
  refine va_get (D := D) (ci := 1) (v := .int win) (C := RX1) (T := TX1) (N := 6) hx hb hts hin1 hown hK hP 0 rfl rfl 3 (by decide) (hts (.fieldLink RX1 23 "CartelWatch$Tender" "winner" "I") (by decide +kernel)) (fun _ h9 => h9) rfl dX1_incomeOf_2 ?_
  refine lv_icmp_ne (tgt := 19) hx hb dX1_incomeOf_5 (by decide) (fun c_5 => ?_) (fun c_5 => ?_)
  · skip
    refine lv_iload_n hx hb dX1_incomeOf_19 rfl (lv_at hl 1 rfl) ?_
    refine lv_aload_n hx hb dX1_incomeOf_20 rfl (lv_at hl 0 rfl) ?_
    refine va_get (D := D) (ci := 1) (v := .int par) (C := RX1) (T := TX1) (N := 6) hx hb hts hin1 hown hK hP 0 rfl rfl 4 (by decide) (hts (.fieldLink RX1 27 "CartelWatch$Tender" "partner" "I") (by decide +kernel)) (fun _ h9 => h9) rfl dX1_incomeOf_21 ?_
    refine lv_icmp_ne (tgt := 34) hx hb dX1_incomeOf_24 (by decide) (fun c_24 => ?_) (fun c_24 => ?_)
    · skip
      refine lv_iconst (v := 0) hx hb dX1_incomeOf_34 (by decide) ?_
      exact pu_iret hx hb hr hlocks dX1_incomeOf_35 (Eq.symm (Eq.trans (if_neg c_5) (Eq.trans (if_neg c_24) (rfl))))
    · skip
      refine lv_aload_n hx hb dX1_incomeOf_27 rfl (lv_at hl 0 rfl) ?_
      refine va_get (D := D) (ci := 1) (v := .int prt) (C := RX1) (T := TX1) (N := 6) hx hb hts hin1 hown hK hP 0 rfl rfl 5 (by decide) (hts (.fieldLink RX1 30 "CartelWatch$Tender" "partnersPart" "I") (by decide +kernel)) (fun _ h9 => h9) rfl dX1_incomeOf_28 ?_
      refine lv_goto (tgt := 35) hx hb dX1_incomeOf_31 (by decide) ?_
      exact pu_iret hx hb hr hlocks dX1_incomeOf_35 (Eq.symm (Eq.trans (if_neg c_5) (Eq.trans (if_pos c_24) (rfl))))
  · skip
    refine lv_aload_n hx hb dX1_incomeOf_8 rfl (lv_at hl 0 rfl) ?_
    refine lv_iload_n hx hb dX1_incomeOf_9 rfl (lv_at hl 1 rfl) ?_
    refine pu_V (As := [.int p0]) (rest := []) hc (c_X1_sumOf l D K q sa wa su go dec win par prt p0) (cwV 1 hts gX1_incomeOf_X1_sumOf rfl rfl rfl (by decide +kernel) ⟨Nat.le_of_ble_eq_true rfl, Nat.le_of_ble_eq_true rfl⟩) hP hK hE (va_recv hK hP (ci := 1) (q0 := 0) rfl rfl) rfl rfl hl.1 (Nat.le_of_ble_eq_true rfl) dX1_incomeOf_10 ⟨Nat.le_of_ble_eq_true rfl, Nat.le_of_ble_eq_true rfl⟩ ?_
    refine lv_aload_n hx hb dX1_incomeOf_13 rfl (lv_at hl 0 rfl) ?_
    refine W.eq (g2 := F0 m 14 ls [.ref q, .int (sp_X1_sumOf su p0)]) rfl ?_
    refine va_get (D := D) (ci := 1) (v := .int prt) (C := RX1) (T := TX1) (N := 6) hx hb hts hin1 hown hK hP 0 rfl rfl 5 (by decide) (hts (.fieldLink RX1 30 "CartelWatch$Tender" "partnersPart" "I") (by decide +kernel)) (fun _ h9 => h9) rfl dX1_incomeOf_14 ?_
    refine lv_isub hx hb dX1_incomeOf_17 ?_
    exact pu_iret hx hb hr hlocks dX1_incomeOf_18 (Eq.symm (Eq.trans (if_pos c_5) (rfl)))

def sp_X1_signsOfLoser_j7l2 (su : Nat → Int32) (go : Nat → Int32) (win : Int32) (p0 : Int32) : Int32 := if sp_X1_isStanding su go p0 = true then (if sp_X1_isNear su win (sp_X1_sumOf su p0) = true then (0 + 2) else 0) else 0
def sp_X1_signsOfLoser_j30l2 (su : Nat → Int32) (go : Nat → Int32) (win : Int32) (par : Int32) (p0 : Int32) : Int32 := if par = p0 then (if sp_X1_hasBidOf su p0 = true then ((sp_X1_signsOfLoser_j7l2 su go win p0) + 3) else (sp_X1_signsOfLoser_j7l2 su go win p0)) else (sp_X1_signsOfLoser_j7l2 su go win p0)
def sp_X1_signsOfLoser_j49l2 (su : Nat → Int32) (go : Nat → Int32) (win : Int32) (par : Int32) (p0 : Int32) : Int32 := if sp_X1_hasWithdrawn go p0 = true then ((sp_X1_signsOfLoser_j30l2 su go win par p0) + 1) else (sp_X1_signsOfLoser_j30l2 su go win par p0)
def sp_X1_signsOfLoser (su : Nat → Int32) (go : Nat → Int32) (win : Int32) (par : Int32) (p0 : Int32) : Int32 := sp_X1_signsOfLoser_j49l2 su go win par p0
set_option maxHeartbeats 4000000 in
set_option maxRecDepth 100000 in
theorem c_X1_signsOfLoser (l : Launch) (D : va_G) (K : Nat → ClassId) (q sa wa : Nat) (su go : Nat → Int32) (dec win par prt p0 : Int32) : PU l yX1_signsOfLoser wsX1_signsOfLoser 3 63 D K [.ref q, .int p0] (fun H => va_P D vwCl (tW K q sa wa su go dec win par prt) H) (.int (sp_X1_signsOfLoser su go win par p0)) := by
  refine Met.ofW (cc := cX1_signsOfLoser) (maxL := 3) (ret := (some .int)) (by decide) rfl ?_
  intro p e s m args below meth c s₁ B hml hv
  obtain ⟨rfl, hP, hK, hE⟩ := hv
  have hx := B.exec
  have hb := B.bytes
  have hr := B.returns
  have hts := atoms_spec (ws := wsX1_signsOfLoser) B.pre
  have hown : s.vm.findClass RX1 = some m.cls := findClass_of_methodNamed B.named
  have hlocks := B.notSynchronized
  have hc : CallFix p m c cX1_signsOfLoser 3 s ([.ref q, .int p0] : List Value).toArray wsX1_signsOfLoser RX1 := ⟨hx, hb, hml, hown, hts⟩
  have hin1 : ∀ w ∈ u_ws RX1 TX1 6, w ∈ wsX1_signsOfLoser := by decide +kernel
  have hP : va_P D vwCl (tW K q sa wa su go dec win par prt) s.heap := hP
  have hl := lv_entry ([.ref q, .int p0]) (n := 3) (Nat.le_of_ble_eq_true rfl)
  rw [lg_entry_eq]
  generalize (lg_sl ([.ref q, .int p0]) ++ List.replicate (3 - (lg_sl ([.ref q, .int p0])).length) Slot.unset).toArray = ls at hl ⊢
  have hl : lv_has ls 3 [(0, .ref q), (1, .int p0)] := hl
  refine lv_iconst (v := 0) hx hb dX1_signsOfLoser_0 (by decide) ?_
  refine lv_istore_n (lv' := [(2, .int 0), (0, .ref q), (1, .int p0)]) hx hb dX1_signsOfLoser_1 rfl hl (by decide) rfl (fun ls hl => ?_)
  refine lv_aload_n hx hb dX1_signsOfLoser_2 rfl (lv_at hl 1 rfl) ?_
  refine lv_iload_n hx hb dX1_signsOfLoser_3 rfl (lv_at hl 2 rfl) ?_
  refine pu_V (As := [.int p0]) (rest := []) hc (c_X1_isStanding l D K q sa wa su go dec win par prt p0) (cwV 1 hts gX1_signsOfLoser_X1_isStanding rfl rfl rfl (by decide +kernel) ⟨Nat.le_of_ble_eq_true rfl, Nat.le_of_ble_eq_true rfl⟩) hP hK hE (va_recv hK hP (ci := 1) (q0 := 0) rfl rfl) rfl rfl hl.1 (Nat.le_of_ble_eq_true rfl) dX1_signsOfLoser_4 ⟨Nat.le_of_ble_eq_true rfl, Nat.le_of_ble_eq_true rfl⟩ ?_
  have hj_7 : ∀ (v7_0 : Int32) (ls : Array Slot), v7_0 = sp_X1_signsOfLoser_j7l2 su go win p0 → lv_has ls 3 [(0, .ref q), (1, .int p0), (2, .int v7_0)] → W p l e ({ frames := 3, cells := 0, slots := 0, locals := 63 } : Room) s m ([.ref q, .int p0] : List Value).toArray below meth c s.heap [] 0 0 (MQ below (QcV (.int (sp_X1_signsOfLoser su go win par p0))) ([.ref q, .int p0] : List Value).toArray s 0 0 (fun _ => False)) (F0 m 25 ls []) := by
    intro v7_0 ls ev7_0 hl
    subst ev7_0
    refine lv_aload_n hx hb dX1_signsOfLoser_25 rfl (lv_at hl 0 rfl) ?_
    refine va_get (D := D) (ci := 1) (v := .int par) (C := RX1) (T := TX1) (N := 6) hx hb hts hin1 hown hK hP 0 rfl rfl 4 (by decide) (hts (.fieldLink RX1 27 "CartelWatch$Tender" "partner" "I") (by decide +kernel)) (fun _ h9 => h9) rfl dX1_signsOfLoser_26 ?_
    refine lv_iload_n hx hb dX1_signsOfLoser_29 rfl (lv_at hl 1 rfl) ?_
    have hj_30 : ∀ (v30_0 : Int32) (ls : Array Slot), v30_0 = sp_X1_signsOfLoser_j30l2 su go win par p0 → lv_has ls 3 [(0, .ref q), (1, .int p0), (2, .int v30_0)] → W p l e ({ frames := 3, cells := 0, slots := 0, locals := 63 } : Room) s m ([.ref q, .int p0] : List Value).toArray below meth c s.heap [] 0 0 (MQ below (QcV (.int (sp_X1_signsOfLoser su go win par p0))) ([.ref q, .int p0] : List Value).toArray s 0 0 (fun _ => False)) (F0 m 44 ls []) := by
      intro v30_0 ls ev30_0 hl
      subst ev30_0
      refine lv_aload_n hx hb dX1_signsOfLoser_44 rfl (lv_at hl 0 rfl) ?_
      refine lv_iload_n hx hb dX1_signsOfLoser_45 rfl (lv_at hl 1 rfl) ?_
      refine pu_V (As := [.int p0]) (rest := []) hc (c_X1_hasWithdrawn l D K q sa wa su go dec win par prt p0) (cwV 1 hts gX1_signsOfLoser_X1_hasWithdrawn rfl rfl rfl (by decide +kernel) ⟨Nat.le_of_ble_eq_true rfl, Nat.le_of_ble_eq_true rfl⟩) hP hK hE (va_recv hK hP (ci := 1) (q0 := 0) rfl rfl) rfl rfl hl.1 (Nat.le_of_ble_eq_true rfl) dX1_signsOfLoser_46 ⟨Nat.le_of_ble_eq_true rfl, Nat.le_of_ble_eq_true rfl⟩ ?_
      have hj_49 : ∀ (v49_0 : Int32) (ls : Array Slot), v49_0 = sp_X1_signsOfLoser_j49l2 su go win par p0 → lv_has ls 3 [(0, .ref q), (1, .int p0), (2, .int v49_0)] → W p l e ({ frames := 3, cells := 0, slots := 0, locals := 63 } : Room) s m ([.ref q, .int p0] : List Value).toArray below meth c s.heap [] 0 0 (MQ below (QcV (.int (sp_X1_signsOfLoser su go win par p0))) ([.ref q, .int p0] : List Value).toArray s 0 0 (fun _ => False)) (F0 m 55 ls []) := by
        intro v49_0 ls ev49_0 hl
        subst ev49_0
        refine lv_iload_n hx hb dX1_signsOfLoser_55 rfl (lv_at hl 2 rfl) ?_
        exact pu_iret hx hb hr hlocks dX1_signsOfLoser_56 (Eq.symm (rfl))
      refine lb_eq (tgt := 55) hx hb dX1_signsOfLoser_49 (by decide) (fun c_49 => ?_) (fun c_49 => ?_)
      · skip
        exact hj_49 _ ls (Eq.symm (Eq.trans (if_neg (ntr c_49)) (rfl))) (lv_sub hl [0, 1, 2] rfl)
      · skip
        refine lv_iinc (v := (sp_X1_signsOfLoser_j30l2 su go win par p0) + 1) (lv' := [(2, .int ((sp_X1_signsOfLoser_j30l2 su go win par p0) + 1)), (0, .ref q), (1, .int p0)]) hx hb dX1_signsOfLoser_52 hl (k := 2) rfl (rfl) (by decide) rfl (fun ls hl => ?_)
        exact hj_49 _ ls (Eq.symm (Eq.trans (if_pos c_49) (rfl))) (lv_sub hl [1, 2, 0] rfl)
    refine lv_icmp_ne (tgt := 44) hx hb dX1_signsOfLoser_30 (by decide) (fun c_30 => ?_) (fun c_30 => ?_)
    · skip
      exact hj_30 _ ls (Eq.symm (Eq.trans (if_neg c_30) (rfl))) (lv_sub hl [0, 1, 2] rfl)
    · skip
      refine lv_aload_n hx hb dX1_signsOfLoser_33 rfl (lv_at hl 0 rfl) ?_
      refine lv_iload_n hx hb dX1_signsOfLoser_34 rfl (lv_at hl 1 rfl) ?_
      refine pu_V (As := [.int p0]) (rest := []) hc (c_X1_hasBidOf l D K q sa wa su go dec win par prt p0) (cwV 1 hts gX1_signsOfLoser_X1_hasBidOf rfl rfl rfl (by decide +kernel) ⟨Nat.le_of_ble_eq_true rfl, Nat.le_of_ble_eq_true rfl⟩) hP hK hE (va_recv hK hP (ci := 1) (q0 := 0) rfl rfl) rfl rfl hl.1 (Nat.le_of_ble_eq_true rfl) dX1_signsOfLoser_35 ⟨Nat.le_of_ble_eq_true rfl, Nat.le_of_ble_eq_true rfl⟩ ?_
      refine lb_eq (tgt := 44) hx hb dX1_signsOfLoser_38 (by decide) (fun c_38 => ?_) (fun c_38 => ?_)
      · skip
        exact hj_30 _ ls (Eq.symm (Eq.trans (if_pos c_30) (Eq.trans (if_neg (ntr c_38)) (rfl)))) (lv_sub hl [0, 1, 2] rfl)
      · skip
        refine lv_iinc (v := (sp_X1_signsOfLoser_j7l2 su go win p0) + 3) (lv' := [(2, .int ((sp_X1_signsOfLoser_j7l2 su go win p0) + 3)), (0, .ref q), (1, .int p0)]) hx hb dX1_signsOfLoser_41 hl (k := 2) rfl (rfl) (by decide) rfl (fun ls hl => ?_)
        exact hj_30 _ ls (Eq.symm (Eq.trans (if_pos c_30) (Eq.trans (if_pos c_38) (rfl)))) (lv_sub hl [1, 2, 0] rfl)
  refine lb_eq (tgt := 25) hx hb dX1_signsOfLoser_7 (by decide) (fun c_7 => ?_) (fun c_7 => ?_)
  · skip
    exact hj_7 _ ls (Eq.symm (Eq.trans (if_neg (ntr c_7)) (rfl))) (lv_sub hl [1, 2, 0] rfl)
  · skip
    refine lv_aload_n hx hb dX1_signsOfLoser_10 rfl (lv_at hl 1 rfl) ?_
    refine lv_aload_n hx hb dX1_signsOfLoser_11 rfl (lv_at hl 1 rfl) ?_
    refine lv_iload_n hx hb dX1_signsOfLoser_12 rfl (lv_at hl 2 rfl) ?_
    refine pu_V (As := [.int p0]) (rest := [.ref q]) hc (c_X1_sumOf l D K q sa wa su go dec win par prt p0) (cwV 1 hts gX1_signsOfLoser_X1_sumOf rfl rfl rfl (by decide +kernel) ⟨Nat.le_of_ble_eq_true rfl, Nat.le_of_ble_eq_true rfl⟩) hP hK hE (va_recv hK hP (ci := 1) (q0 := 0) rfl rfl) rfl rfl hl.1 (Nat.le_of_ble_eq_true rfl) dX1_signsOfLoser_13 ⟨Nat.le_of_ble_eq_true rfl, Nat.le_of_ble_eq_true rfl⟩ ?_
    refine pu_V (As := [.int (sp_X1_sumOf su p0)]) (rest := []) hc (c_X1_isNear l D K q sa wa su go dec win par prt (sp_X1_sumOf su p0)) (cwV 1 hts gX1_signsOfLoser_X1_isNear rfl rfl rfl (by decide +kernel) ⟨Nat.le_of_ble_eq_true rfl, Nat.le_of_ble_eq_true rfl⟩) hP hK hE (va_recv hK hP (ci := 1) (q0 := 0) rfl rfl) rfl rfl hl.1 (Nat.le_of_ble_eq_true rfl) dX1_signsOfLoser_16 ⟨Nat.le_of_ble_eq_true rfl, Nat.le_of_ble_eq_true rfl⟩ ?_
    refine lb_eq (tgt := 25) hx hb dX1_signsOfLoser_19 (by decide) (fun c_19 => ?_) (fun c_19 => ?_)
    · skip
      exact hj_7 _ ls (Eq.symm (Eq.trans (if_pos c_7) (Eq.trans (if_neg (ntr c_19)) (rfl)))) (lv_sub hl [1, 2, 0] rfl)
    · skip
      refine lv_iinc (v := 0 + 2) (lv' := [(2, .int (0 + 2)), (0, .ref q), (1, .int p0)]) hx hb dX1_signsOfLoser_22 hl (k := 0) rfl (rfl) (by decide) rfl (fun ls hl => ?_)
      exact hj_7 _ ls (Eq.symm (Eq.trans (if_pos c_7) (Eq.trans (if_pos c_19) (rfl)))) (lv_sub hl [1, 2, 0] rfl)

theorem lp_end {x : Int32} {k N : Nat} (hx : x = nI N) (c : x ≤ nI k) (hk : k ≤ N) (hN : N < 2 ^ 31) : k = N := by
  rw [hx] at c
  have := (nI_leI hN (Nat.lt_of_le_of_lt hk hN)).mp c
  omega
theorem lp_in {x : Int32} {k N : Nat} (hx : x = nI N) (c : ¬ x ≤ nI k) (hk : k ≤ N) (hN : N < 2 ^ 31) : k < N := by
  rw [hx] at c
  rcases Nat.lt_or_ge k N with h | h
  · exact h
  · exact absurd ((nI_leI hN (Nat.lt_of_le_of_lt hk hN)).mpr h) c

def sp_X1_countStanding_L4 (su : Nat → Int32) (go : Nat → Int32) : Nat → Int32
  | 0 => 0
  | k + 1 => if sp_X1_isStanding su go (nI k) = true then ((sp_X1_countStanding_L4 su go k) + 1) else (sp_X1_countStanding_L4 su go k)
def sp_X1_countStanding (su : Nat → Int32) (go : Nat → Int32) : Int32 := sp_X1_countStanding_L4 su go 7
set_option maxHeartbeats 4000000 in
set_option maxRecDepth 100000 in
theorem c_X1_countStanding (l : Launch) (D : va_G) (K : Nat → ClassId) (q sa wa : Nat) (su go : Nat → Int32) (dec win par prt : Int32) : PU l yX1_countStanding wsX1_countStanding 2 41 D K [.ref q] (fun H => va_P D vwCl (tW K q sa wa su go dec win par prt) H) (.int (sp_X1_countStanding su go)) := by
  refine Met.ofW (cc := cX1_countStanding) (maxL := 3) (ret := (some .int)) (by decide) rfl ?_
  intro p e s m args below meth c s₁ B hml hv
  obtain ⟨rfl, hP, hK, hE⟩ := hv
  have hx := B.exec
  have hb := B.bytes
  have hr := B.returns
  have hts := atoms_spec (ws := wsX1_countStanding) B.pre
  have hown : s.vm.findClass RX1 = some m.cls := findClass_of_methodNamed B.named
  have hlocks := B.notSynchronized
  have hc : CallFix p m c cX1_countStanding 3 s ([.ref q] : List Value).toArray wsX1_countStanding RX1 := ⟨hx, hb, hml, hown, hts⟩
  have hP : va_P D vwCl (tW K q sa wa su go dec win par prt) s.heap := hP
  have hl := lv_entry ([.ref q]) (n := 3) (Nat.le_of_ble_eq_true rfl)
  rw [lg_entry_eq]
  generalize (lg_sl ([.ref q]) ++ List.replicate (3 - (lg_sl ([.ref q])).length) Slot.unset).toArray = ls at hl ⊢
  have hl : lv_has ls 3 [(0, .ref q)] := hl
  refine lv_iconst (v := 0) hx hb dX1_countStanding_0 (by decide) ?_
  refine lv_istore_n (lv' := [(1, .int 0), (0, .ref q)]) hx hb dX1_countStanding_1 rfl hl (by decide) rfl (fun ls hl => ?_)
  refine lv_iconst (v := 0) hx hb dX1_countStanding_2 (by decide) ?_
  refine lv_istore_n (lv' := [(2, .int 0), (1, .int 0), (0, .ref q)]) hx hb dX1_countStanding_3 rfl hl (by decide) rfl (fun ls hl => ?_)
  have hloop_4 : ∀ (n4 k : Nat), k ≤ 7 → 7 + 1 ≤ k + n4 → ∀ (a4_1 x4 : Int32) (ls : Array Slot), a4_1 = sp_X1_countStanding_L4 su go k → x4 = nI k → lv_has ls 3 [(0, .ref q), (1, .int a4_1), (2, .int x4)] → W p l e ({ frames := 2, cells := 0, slots := 0, locals := 41 } : Room) s m ([.ref q] : List Value).toArray below meth c s.heap [] 0 0 (MQ below (QcV (.int (sp_X1_countStanding su go))) ([.ref q] : List Value).toArray s 0 0 (fun _ => False)) (F0 m 4 ls []) := by
    intro n4
    induction n4 with
    | zero => intro k h1 h2; exact absurd h2 (by omega)
    | succ n4 ih_4 =>
      intro k hk_4 hn_4 a4_1 x4 ls ea4_1 ex4 hl
      subst ea4_1
      subst ex4
      refine lv_iload_n hx hb dX1_countStanding_4 rfl (lv_at hl 2 rfl) ?_
      refine lv_bipush (v := 7) hx hb dX1_countStanding_5 (by decide) ?_
      refine lv_icmp_ge (tgt := 27) hx hb dX1_countStanding_7 (by decide) (fun c_7 => ?_) (fun c_7 => ?_)
      · skip
        have hke_4 : 7 = k := (lp_end rfl c_7 hk_4 (by decide)).symm
        subst hke_4
        refine lv_iload_n hx hb dX1_countStanding_27 rfl (lv_at hl 1 rfl) ?_
        exact pu_iret hx hb hr hlocks dX1_countStanding_28 (Eq.symm (rfl))
      · skip
        have hlt_4 : k < 7 := lp_in rfl c_7 hk_4 (by decide)
        refine lv_aload_n hx hb dX1_countStanding_10 rfl (lv_at hl 0 rfl) ?_
        refine W.eq (g2 := F0 m 11 ls [.ref q]) rfl ?_
        refine lv_iload_n hx hb dX1_countStanding_11 rfl (lv_at hl 2 rfl) ?_
        refine pu_V (As := [.int (nI k)]) (rest := []) hc (c_X1_isStanding l D K q sa wa su go dec win par prt (nI k)) (cwV 1 hts gX1_countStanding_X1_isStanding rfl rfl rfl (by decide +kernel) ⟨Nat.le_of_ble_eq_true rfl, Nat.le_of_ble_eq_true rfl⟩) hP hK hE (va_recv hK hP (ci := 1) (q0 := 0) rfl rfl) rfl rfl hl.1 (Nat.le_of_ble_eq_true rfl) dX1_countStanding_12 ⟨Nat.le_of_ble_eq_true rfl, Nat.le_of_ble_eq_true rfl⟩ ?_
        refine lb_eq (tgt := 21) hx hb dX1_countStanding_15 (by decide) (fun c_15 => ?_) (fun c_15 => ?_)
        · skip
          refine lv_iinc (v := (nI k) + 1) (lv' := [(2, .int ((nI k) + 1)), (0, .ref q), (1, .int (sp_X1_countStanding_L4 su go k))]) hx hb dX1_countStanding_21 hl (k := 2) rfl (rfl) (by decide) rfl (fun ls hl => ?_)
          refine lv_goto (tgt := 4) hx hb dX1_countStanding_24 (by decide) ?_
          exact ih_4 (k + 1) hlt_4 (by omega) _ _ ls (Eq.symm (Eq.trans (if_neg (ntr c_15)) (rfl))) (nI_1 k) (lv_sub hl [1, 2, 0] rfl)
        · skip
          refine lv_iinc (v := (sp_X1_countStanding_L4 su go k) + 1) (lv' := [(1, .int ((sp_X1_countStanding_L4 su go k) + 1)), (0, .ref q), (2, .int (nI k))]) hx hb dX1_countStanding_18 hl (k := 1) rfl (rfl) (by decide) rfl (fun ls hl => ?_)
          refine lv_iinc (v := (nI k) + 1) (lv' := [(2, .int ((nI k) + 1)), (1, .int ((sp_X1_countStanding_L4 su go k) + 1)), (0, .ref q)]) hx hb dX1_countStanding_21 hl (k := 2) rfl (rfl) (by decide) rfl (fun ls hl => ?_)
          refine lv_goto (tgt := 4) hx hb dX1_countStanding_24 (by decide) ?_
          exact ih_4 (k + 1) hlt_4 (by omega) _ _ ls (Eq.symm (Eq.trans (if_pos c_15) (rfl))) (nI_1 k) (lv_sub hl [2, 1, 0] rfl)
  exact hloop_4 (7 + 1) 0 (Nat.zero_le _) (by omega) _ _ ls rfl nI_0.symm (lv_sub hl [2, 1, 0] rfl)
