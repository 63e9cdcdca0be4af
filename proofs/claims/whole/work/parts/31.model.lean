def um (M : Nat → Nat → Int32) (k : Nat) (f : Nat → Int32) : Nat → Nat → Int32 := fun j => if j = k then f else M j
abbrev mW (K : Nat → ClassId) (am : Nat → Nat) (th : Int32) (M : Nat → Nat → Int32) : va_W := [(am 0, .inr (3, [.int th, .int (M 1 0), .ref (am 2), .ref (am 3), .ref (am 4), .ref (am 5), .ref (am 6), .ref (am 7), .int (M 8 0), .int (M 9 0), .ref (am 10), .ref (am 11), .ref (am 12), .ref (am 13), .ref (am 14), .ref (am 15), .ref (am 16), .ref (am 17), .ref (am 18)])), (am 2, .inl (K 0, 30, .inl (M 2))), (am 3, .inl (K 0, 30, .inl (M 3))), (am 4, .inl (K 0, 30, .inl (M 4))), (am 5, .inl (K 0, 30, .inl (M 5))), (am 6, .inl (K 0, 210, .inl (M 6))), (am 7, .inl (K 1, 210, .inl (M 7))), (am 10, .inl (K 0, 20, .inl (M 10))), (am 11, .inl (K 0, 20, .inl (M 11))), (am 12, .inl (K 0, 20, .inl (M 12))), (am 13, .inl (K 0, 20, .inl (M 13))), (am 14, .inl (K 0, 20, .inl (M 14))), (am 15, .inl (K 0, 40, .inl (M 15))), (am 16, .inl (K 0, 40, .inl (M 16))), (am 17, .inl (K 1, 20, .inl (M 17))), (am 18, .inl (K 0, 7, .inl (M 18)))]
def MOK (M : Nat → Nat → Int32) (n nf : Nat) : Prop := M 1 0 = nI n ∧ n ≤ 30 ∧ M 9 0 = nI nf ∧ nf ≤ 20 ∧ (∀ k, k < 30 → M 2 k = 1 → vp_in (M 3 k) 7) ∧ ∀ f, f < nf → vp_in (M 10 f) 7 ∧ vp_in (M 11 f) 7
theorem ix7 {t b : Int32} (ht : vp_in t 30) (hb : vp_in b 7) : vp_in (7 * t + b) 210 := by
  obtain ⟨i, hi, rfl⟩ := vp_in_of ht (by decide)
  obtain ⟨j, hj, rfl⟩ := vp_in_of hb (by decide)
  rw [show (7 : Int32) = nI 7 from rfl, pk_mul, nI_add]
  exact vp_in_nI (by omega) (by decide)
theorem ix2 {t : Int32} (ht : vp_in t 20) : vp_in (2 * t) 40 := by
  obtain ⟨i, hi, rfl⟩ := vp_in_of ht (by decide)
  rw [show (2 : Int32) = nI 2 from rfl, pk_mul]
  exact vp_in_nI (by omega) (by decide)
theorem ix21 {t : Int32} (ht : vp_in t 20) : vp_in (2 * t + 1) 40 := by
  obtain ⟨i, hi, rfl⟩ := vp_in_of ht (by decide)
  rw [show (2 : Int32) = nI 2 from rfl, pk_mul, nI_1]
  exact vp_in_nI (by omega) (by decide)
theorem ix20 {t : Int32} (ht : vp_in t 20) : vp_in (2 * t + 0) 40 := by
  rw [Int32.add_zero]
  exact ix2 ht
theorem vin_eq {x : Int32} {N : Nat} (h : vp_in x N) (hN : N < 2 ^ 31 := by decide) : x = nI x.toNatClampNeg := by
  obtain ⟨k, hk, rfl⟩ := vp_in_of h hN
  rw [nI_clamp (by omega)]
theorem vin_lt {x : Int32} {N : Nat} (h : vp_in x N) (hN : N < 2 ^ 31 := by decide) : x.toNatClampNeg < N := by
  obtain ⟨k, hk, rfl⟩ := vp_in_of h hN
  rw [nI_clamp (by omega)]; exact hk
theorem cnt_in {x y : Int32} {n N : Nat} (hx : x = nI n) (hn : n ≤ N) (hy : y = nI N) (c : ¬ x = y) (hN : N < 2 ^ 31 := by decide) : vp_in x N := by
  rcases Nat.lt_or_eq_of_le hn with h | h
  · rw [hx]; exact vp_in_nI h hN
  · exact absurd (by rw [hx, hy, h]) c
theorem tIn_in {n N : Nat} {x : Int32} (h : tIn n x = true) (hn : n ≤ N) (hN : N < 2 ^ 31) : vp_in x N := by
  obtain ⟨k, hk, rfl⟩ := tIn_ex h (Nat.lt_of_le_of_lt hn hN)
  exact vp_in_nI (by omega) hN

def sp_X3_in (p0 : Int32) (p1 : Int32) (p2 : Int32) : Bool := if p0 < p1 then false else (if p2 < p0 then false else true)
set_option maxHeartbeats 4000000 in
set_option maxRecDepth 100000 in
theorem c_X3_in (l : Launch) (D : va_G) (K : Nat → ClassId) (p0 p1 p2 : Int32) : PU l yX3_in wsX3_in 0 0 D K [.int p0, .int p1, .int p2] (fun H => True) (.int (bI (sp_X3_in p0 p1 p2))) := by
  refine Met.ofW (cc := cX3_in) (maxL := 3) (ret := (some .boolean)) (by decide) rfl ?_
  intro p e s m args below meth c s₁ B hml hv
  obtain ⟨rfl, hP, hK, hE⟩ := hv
  have hx := B.exec
  have hb := B.bytes
  have hr := B.returns
  have hts := atoms_spec (ws := wsX3_in) B.pre
  have hown : s.vm.findClass RX3 = some m.cls := findClass_of_methodNamed B.named
  have hlocks := B.notSynchronized
  have hc : CallFix p m c cX3_in 3 s ([.int p0, .int p1, .int p2] : List Value).toArray wsX3_in RX3 := ⟨hx, hb, hml, hown, hts⟩
  have hl := lv_entry ([.int p0, .int p1, .int p2]) (n := 3) (Nat.le_of_ble_eq_true rfl)
  rw [lg_entry_eq]
  generalize (lg_sl ([.int p0, .int p1, .int p2]) ++ List.replicate (3 - (lg_sl ([.int p0, .int p1, .int p2])).length) Slot.unset).toArray = ls at hl ⊢
  have hl : lv_has ls 3 [(0, .int p0), (1, .int p1), (2, .int p2)] := hl
  refine lv_iload_n hx hb dX3_in_0 rfl (lv_at hl 0 rfl) ?_
  refine lv_iload_n hx hb dX3_in_1 rfl (lv_at hl 1 rfl) ?_
  refine lv_icmp_lt (tgt := 14) hx hb dX3_in_2 (by decide) (fun c_2 => ?_) (fun c_2 => ?_)
  · skip
    refine lv_iconst (v := 0) hx hb dX3_in_14 (by decide) ?_
    exact pu_zret hx hb hr hlocks dX3_in_15 (bI_nar _) (bI_eq (a := false) (Eq.symm (Eq.trans (if_pos c_2) (rfl))))
  · skip
    refine lv_iload_n hx hb dX3_in_5 rfl (lv_at hl 0 rfl) ?_
    refine lv_iload_n hx hb dX3_in_6 rfl (lv_at hl 2 rfl) ?_
    refine lv_icmp_gt (tgt := 14) hx hb dX3_in_7 (by decide) (fun c_7 => ?_) (fun c_7 => ?_)
    · skip
      refine lv_iconst (v := 0) hx hb dX3_in_14 (by decide) ?_
      exact pu_zret hx hb hr hlocks dX3_in_15 (bI_nar _) (bI_eq (a := false) (Eq.symm (Eq.trans (if_neg c_2) (Eq.trans (if_pos c_7) (rfl)))))
    · skip
      refine lv_iconst (v := 1) hx hb dX3_in_10 (by decide) ?_
      refine lv_goto (tgt := 15) hx hb dX3_in_11 (by decide) ?_
      exact pu_zret hx hb hr hlocks dX3_in_15 (bI_nar _) (bI_eq (a := true) (Eq.symm (Eq.trans (if_neg c_2) (Eq.trans (if_neg c_7) (rfl)))))

def sp_X3_isBidder (p0 : Int32) : Bool := sp_X3_in p0 0 6
set_option maxHeartbeats 4000000 in
set_option maxRecDepth 100000 in
theorem c_X3_isBidder (l : Launch) (D : va_G) (K : Nat → ClassId) (p0 : Int32) : PU l yX3_isBidder wsX3_isBidder 1 22 D K [.int p0] (fun H => True) (.int (bI (sp_X3_isBidder p0))) := by
  refine Met.ofW (cc := cX3_isBidder) (maxL := 1) (ret := (some .boolean)) (by decide) rfl ?_
  intro p e s m args below meth c s₁ B hml hv
  obtain ⟨rfl, hP, hK, hE⟩ := hv
  have hx := B.exec
  have hb := B.bytes
  have hr := B.returns
  have hts := atoms_spec (ws := wsX3_isBidder) B.pre
  have hown : s.vm.findClass RX3 = some m.cls := findClass_of_methodNamed B.named
  have hlocks := B.notSynchronized
  have hc : CallFix p m c cX3_isBidder 1 s ([.int p0] : List Value).toArray wsX3_isBidder RX3 := ⟨hx, hb, hml, hown, hts⟩
  have hl := lv_entry ([.int p0]) (n := 1) (Nat.le_of_ble_eq_true rfl)
  rw [lg_entry_eq]
  generalize (lg_sl ([.int p0]) ++ List.replicate (1 - (lg_sl ([.int p0])).length) Slot.unset).toArray = ls at hl ⊢
  have hl : lv_has ls 1 [(0, .int p0)] := hl
  refine lv_iload_n hx hb dX3_isBidder_0 rfl (lv_at hl 0 rfl) ?_
  refine lv_iconst (v := 0) hx hb dX3_isBidder_1 (by decide) ?_
  refine lv_bipush (v := 6) hx hb dX3_isBidder_2 (by decide) ?_
  refine pu_S (As := [.int p0, .int 0, .int 6]) (rest := []) hc (c_X3_in l D K p0 0 6) (va_cwS 3 hts gX3_isBidder_X3_in rfl rfl rfl (by decide +kernel) ⟨Nat.le_of_ble_eq_true rfl, Nat.le_of_ble_eq_true rfl⟩) trivial hK hE rfl rfl hl.1 (Nat.le_of_ble_eq_true rfl) dX3_isBidder_4 ⟨Nat.le_of_ble_eq_true rfl, Nat.le_of_ble_eq_true rfl⟩ ?_
  exact pu_zret hx hb hr hlocks dX3_isBidder_7 (bI_nar _) (bI_eq (a := sp_X3_in p0 0 6) (Eq.symm (rfl)))

def sp_X3_isPair (p0 : Int32) (p1 : Int32) : Bool := if sp_X3_isBidder p0 = true then (if sp_X3_isBidder p1 = true then (if p0 = p1 then false else true) else false) else false
set_option maxHeartbeats 4000000 in
set_option maxRecDepth 100000 in
theorem c_X3_isPair (l : Launch) (D : va_G) (K : Nat → ClassId) (p0 p1 : Int32) : PU l yX3_isPair wsX3_isPair 2 42 D K [.int p0, .int p1] (fun H => True) (.int (bI (sp_X3_isPair p0 p1))) := by
  refine Met.ofW (cc := cX3_isPair) (maxL := 2) (ret := (some .boolean)) (by decide) rfl ?_
  intro p e s m args below meth c s₁ B hml hv
  obtain ⟨rfl, hP, hK, hE⟩ := hv
  have hx := B.exec
  have hb := B.bytes
  have hr := B.returns
  have hts := atoms_spec (ws := wsX3_isPair) B.pre
  have hown : s.vm.findClass RX3 = some m.cls := findClass_of_methodNamed B.named
  have hlocks := B.notSynchronized
  have hc : CallFix p m c cX3_isPair 2 s ([.int p0, .int p1] : List Value).toArray wsX3_isPair RX3 := ⟨hx, hb, hml, hown, hts⟩
  have hl := lv_entry ([.int p0, .int p1]) (n := 2) (Nat.le_of_ble_eq_true rfl)
  rw [lg_entry_eq]
  generalize (lg_sl ([.int p0, .int p1]) ++ List.replicate (2 - (lg_sl ([.int p0, .int p1])).length) Slot.unset).toArray = ls at hl ⊢
  have hl : lv_has ls 2 [(0, .int p0), (1, .int p1)] := hl
  refine lv_iload_n hx hb dX3_isPair_0 rfl (lv_at hl 0 rfl) ?_
  refine pu_S (As := [.int p0]) (rest := []) hc (c_X3_isBidder l D K p0) (va_cwS 1 hts gX3_isPair_X3_isBidder rfl rfl rfl (by decide +kernel) ⟨Nat.le_of_ble_eq_true rfl, Nat.le_of_ble_eq_true rfl⟩) trivial hK hE rfl rfl hl.1 (Nat.le_of_ble_eq_true rfl) dX3_isPair_1 ⟨Nat.le_of_ble_eq_true rfl, Nat.le_of_ble_eq_true rfl⟩ ?_
  refine lb_eq (tgt := 23) hx hb dX3_isPair_4 (by decide) (fun c_4 => ?_) (fun c_4 => ?_)
  · skip
    refine lv_iconst (v := 0) hx hb dX3_isPair_23 (by decide) ?_
    exact pu_zret hx hb hr hlocks dX3_isPair_24 (bI_nar _) (bI_eq (a := false) (Eq.symm (Eq.trans (if_neg (ntr c_4)) (rfl))))
  · skip
    refine lv_iload_n hx hb dX3_isPair_7 rfl (lv_at hl 1 rfl) ?_
    refine pu_S (As := [.int p1]) (rest := []) hc (c_X3_isBidder l D K p1) (va_cwS 1 hts gX3_isPair_X3_isBidder rfl rfl rfl (by decide +kernel) ⟨Nat.le_of_ble_eq_true rfl, Nat.le_of_ble_eq_true rfl⟩) trivial hK hE rfl rfl hl.1 (Nat.le_of_ble_eq_true rfl) dX3_isPair_8 ⟨Nat.le_of_ble_eq_true rfl, Nat.le_of_ble_eq_true rfl⟩ ?_
    refine lb_eq (tgt := 23) hx hb dX3_isPair_11 (by decide) (fun c_11 => ?_) (fun c_11 => ?_)
    · skip
      refine lv_iconst (v := 0) hx hb dX3_isPair_23 (by decide) ?_
      exact pu_zret hx hb hr hlocks dX3_isPair_24 (bI_nar _) (bI_eq (a := false) (Eq.symm (Eq.trans (if_pos c_4) (Eq.trans (if_neg (ntr c_11)) (rfl)))))
    · skip
      refine lv_iload_n hx hb dX3_isPair_14 rfl (lv_at hl 0 rfl) ?_
      refine lv_iload_n hx hb dX3_isPair_15 rfl (lv_at hl 1 rfl) ?_
      refine W.eq (g2 := F0 m 16 ls [.int p1, .int p0]) rfl ?_
      refine lv_icmp_eq (tgt := 23) hx hb dX3_isPair_16 (by decide) (fun c_16 => ?_) (fun c_16 => ?_)
      · skip
        refine lv_iconst (v := 0) hx hb dX3_isPair_23 (by decide) ?_
        exact pu_zret hx hb hr hlocks dX3_isPair_24 (bI_nar _) (bI_eq (a := false) (Eq.symm (Eq.trans (if_pos c_4) (Eq.trans (if_pos c_11) (Eq.trans (if_pos c_16) (rfl))))))
      · skip
        refine lv_iconst (v := 1) hx hb dX3_isPair_19 (by decide) ?_
        refine lv_goto (tgt := 24) hx hb dX3_isPair_20 (by decide) ?_
        exact pu_zret hx hb hr hlocks dX3_isPair_24 (bI_nar _) (bI_eq (a := true) (Eq.symm (Eq.trans (if_pos c_4) (Eq.trans (if_pos c_11) (Eq.trans (if_neg c_16) (rfl))))))

theorem inM_iff {x a b : Int32} : sp_X3_in x a b = true ↔ a.toInt ≤ x.toInt ∧ x.toInt ≤ b.toInt := by
  unfold sp_X3_in
  simp only [Int32.lt_iff_toInt_lt]
  split <;> (try split) <;> simp <;> omega
theorem in7m {x : Int32} (h : sp_X3_isBidder x = true) : vp_in x 7 := vp_in_iff.mpr (by
  have h1 := inM_iff.mp (show sp_X3_in x 0 6 = true from h)
  have h0 : (0 : Int32).toInt = 0 := by decide
  have h6 : (6 : Int32).toInt = 6 := by decide
  omega)
theorem pairM {x y : Int32} (h : sp_X3_isPair x y = true) : vp_in x 7 ∧ vp_in y 7 := by
  unfold sp_X3_isPair at h
  split at h
  · split at h
    · exact ⟨in7m (by assumption), in7m (by assumption)⟩
    · exact absurd h Bool.false_ne_true
  · exact absurd h Bool.false_ne_true

def sp_X3_isTender (M : Nat → Nat → Int32) (p0 : Int32) : Bool := sp_X3_in p0 0 ((M 1 0) - 1)
set_option maxHeartbeats 4000000 in
set_option maxRecDepth 100000 in
theorem c_X3_isTender (l : Launch) (D : va_G) (K : Nat → ClassId) (am : Nat → Nat) (th : Int32) (M : Nat → Nat → Int32) (p0 : Int32) : PU l yX3_isTender wsX3_isTender 1 22 D K [.ref (am 0), .int p0] (fun H => va_P D vwCl (mW K am th M) H) (.int (bI (sp_X3_isTender M p0))) := by
  refine Met.ofW (cc := cX3_isTender) (maxL := 2) (ret := (some .boolean)) (by decide) rfl ?_
  intro p e s m args below meth c s₁ B hml hv
  obtain ⟨rfl, hP, hK, hE⟩ := hv
  have hx := B.exec
  have hb := B.bytes
  have hr := B.returns
  have hts := atoms_spec (ws := wsX3_isTender) B.pre
  have hown : s.vm.findClass RX3 = some m.cls := findClass_of_methodNamed B.named
  have hlocks := B.notSynchronized
  have hc : CallFix p m c cX3_isTender 2 s ([.ref (am 0), .int p0] : List Value).toArray wsX3_isTender RX3 := ⟨hx, hb, hml, hown, hts⟩
  have hin3 : ∀ w ∈ u_ws RX3 TX3 19, w ∈ wsX3_isTender := by decide +kernel
  have hP : va_P D vwCl (mW K am th M) s.heap := hP
  have hl := lv_entry ([.ref (am 0), .int p0]) (n := 2) (Nat.le_of_ble_eq_true rfl)
  rw [lg_entry_eq]
  generalize (lg_sl ([.ref (am 0), .int p0]) ++ List.replicate (2 - (lg_sl ([.ref (am 0), .int p0])).length) Slot.unset).toArray = ls at hl ⊢
  have hl : lv_has ls 2 [(0, .ref (am 0)), (1, .int p0)] := hl
  refine lv_iload_n hx hb dX3_isTender_0 rfl (lv_at hl 1 rfl) ?_
  refine lv_iconst (v := 0) hx hb dX3_isTender_1 (by decide) ?_
  refine lv_aload_n hx hb dX3_isTender_2 rfl (lv_at hl 0 rfl) ?_
  refine va_get (D := D) (ci := 3) (v := .int (M 1 0)) (C := RX3) (T := TX3) (N := 19) hx hb hts hin3 hown hK hP 0 rfl rfl 1 (by decide) (hts (.fieldLink RX3 67 "CartelWatchModel" "tenders" "I") (by decide +kernel)) (fun _ h9 => h9) rfl dX3_isTender_3 ?_
  refine lv_iconst (v := 1) hx hb dX3_isTender_6 (by decide) ?_
  refine lv_isub hx hb dX3_isTender_7 ?_
  refine pu_S (As := [.int p0, .int 0, .int ((M 1 0) - 1)]) (rest := []) hc (c_X3_in l D K p0 0 ((M 1 0) - 1)) (va_cwS 3 hts gX3_isTender_X3_in rfl rfl rfl (by decide +kernel) ⟨Nat.le_of_ble_eq_true rfl, Nat.le_of_ble_eq_true rfl⟩) trivial hK hE rfl rfl hl.1 (Nat.le_of_ble_eq_true rfl) dX3_isTender_8 ⟨Nat.le_of_ble_eq_true rfl, Nat.le_of_ble_eq_true rfl⟩ ?_
  exact pu_zret hx hb hr hlocks dX3_isTender_11 (bI_nar _) (bI_eq (a := sp_X3_in p0 0 ((M 1 0) - 1)) (Eq.symm (rfl)))

def sp_X3_isFile (M : Nat → Nat → Int32) (p0 : Int32) : Bool := sp_X3_in p0 0 ((M 9 0) - 1)
set_option maxHeartbeats 4000000 in
set_option maxRecDepth 100000 in
theorem c_X3_isFile (l : Launch) (D : va_G) (K : Nat → ClassId) (am : Nat → Nat) (th : Int32) (M : Nat → Nat → Int32) (p0 : Int32) : PU l yX3_isFile wsX3_isFile 1 22 D K [.ref (am 0), .int p0] (fun H => va_P D vwCl (mW K am th M) H) (.int (bI (sp_X3_isFile M p0))) := by
  refine Met.ofW (cc := cX3_isFile) (maxL := 2) (ret := (some .boolean)) (by decide) rfl ?_
  intro p e s m args below meth c s₁ B hml hv
  obtain ⟨rfl, hP, hK, hE⟩ := hv
  have hx := B.exec
  have hb := B.bytes
  have hr := B.returns
  have hts := atoms_spec (ws := wsX3_isFile) B.pre
  have hown : s.vm.findClass RX3 = some m.cls := findClass_of_methodNamed B.named
  have hlocks := B.notSynchronized
  have hc : CallFix p m c cX3_isFile 2 s ([.ref (am 0), .int p0] : List Value).toArray wsX3_isFile RX3 := ⟨hx, hb, hml, hown, hts⟩
  have hin3 : ∀ w ∈ u_ws RX3 TX3 19, w ∈ wsX3_isFile := by decide +kernel
  have hP : va_P D vwCl (mW K am th M) s.heap := hP
  have hl := lv_entry ([.ref (am 0), .int p0]) (n := 2) (Nat.le_of_ble_eq_true rfl)
  rw [lg_entry_eq]
  generalize (lg_sl ([.ref (am 0), .int p0]) ++ List.replicate (2 - (lg_sl ([.ref (am 0), .int p0])).length) Slot.unset).toArray = ls at hl ⊢
  have hl : lv_has ls 2 [(0, .ref (am 0)), (1, .int p0)] := hl
  refine lv_iload_n hx hb dX3_isFile_0 rfl (lv_at hl 1 rfl) ?_
  refine lv_iconst (v := 0) hx hb dX3_isFile_1 (by decide) ?_
  refine lv_aload_n hx hb dX3_isFile_2 rfl (lv_at hl 0 rfl) ?_
  refine va_get (D := D) (ci := 3) (v := .int (M 9 0)) (C := RX3) (T := TX3) (N := 19) hx hb hts hin3 hown hK hP 0 rfl rfl 9 (by decide) (hts (.fieldLink RX3 70 "CartelWatchModel" "files" "I") (by decide +kernel)) (fun _ h9 => h9) rfl dX3_isFile_3 ?_
  refine lv_iconst (v := 1) hx hb dX3_isFile_6 (by decide) ?_
  refine lv_isub hx hb dX3_isFile_7 ?_
  refine pu_S (As := [.int p0, .int 0, .int ((M 9 0) - 1)]) (rest := []) hc (c_X3_in l D K p0 0 ((M 9 0) - 1)) (va_cwS 3 hts gX3_isFile_X3_in rfl rfl rfl (by decide +kernel) ⟨Nat.le_of_ble_eq_true rfl, Nat.le_of_ble_eq_true rfl⟩) trivial hK hE rfl rfl hl.1 (Nat.le_of_ble_eq_true rfl) dX3_isFile_8 ⟨Nat.le_of_ble_eq_true rfl, Nat.le_of_ble_eq_true rfl⟩ ?_
  exact pu_zret hx hb hr hlocks dX3_isFile_11 (bI_nar _) (bI_eq (a := sp_X3_in p0 0 ((M 9 0) - 1)) (Eq.symm (rfl)))

theorem in_tIn {x y : Int32} {n : Nat} (hy : y = nI n) (hn : n ≤ 30) : sp_X3_in x 0 (y - 1) = tIn n x := by
  have h0 : (0 : Int32).toInt = 0 := by decide
  have h1 : (y - 1).toInt = (n : Int) - 1 := by
    rw [hy]
    cases n with
    | zero => decide
    | succ k => rw [nI_pred, nI_toInt (by omega)]; omega
  have e := inM_iff (x := x) (a := 0) (b := y - 1)
  rw [h0, h1] at e
  have e2 : tIn n x = true ↔ 0 ≤ x.toInt ∧ x.toInt < n := decide_eq_true_iff
  cases ha : sp_X3_in x 0 (y - 1) <;> cases hb : tIn n x
  · rfl
  · have := e2.mp hb; have := e.mpr (by omega); rw [ha] at this; exact absurd this Bool.false_ne_true
  · have := e.mp ha; have := e2.mpr (by omega); rw [hb] at this; exact absurd this Bool.false_ne_true
  · rfl
theorem isT_tIn {M : Nat → Nat → Int32} {n : Nat} {x : Int32} (hn : M 1 0 = nI n) (h : n ≤ 30) : sp_X3_isTender M x = tIn n x := in_tIn hn h
theorem isF_tIn {M : Nat → Nat → Int32} {n : Nat} {x : Int32} (hn : M 9 0 = nI n) (h : n ≤ 30) : sp_X3_isFile M x = tIn n x := in_tIn hn h
theorem isT_in {M : Nat → Nat → Int32} {n : Nat} {x : Int32} (hn : M 1 0 = nI n) (h : n ≤ 30) (hx : sp_X3_isTender M x = true) : vp_in x 30 := tIn_in (by rw [← isT_tIn hn h]; exact hx) h (by decide)
theorem isF_in {M : Nat → Nat → Int32} {n : Nat} {x : Int32} (hn : M 9 0 = nI n) (h : n ≤ 20) (hx : sp_X3_isFile M x = true) : vp_in x 20 := tIn_in (by rw [← isF_tIn hn (by omega)]; exact hx) h (by decide)

def sp_X3_stands (M : Nat → Nat → Int32) (p0 : Int32) (p1 : Int32) : Bool := if ((M 6) (((7 * p0) + p1).toNatClampNeg)) ≤ 0 then false else (if ((M 7) (((7 * p0) + p1).toNatClampNeg)) = 0 then true else false)
set_option maxHeartbeats 4000000 in
set_option maxRecDepth 100000 in
theorem c_X3_stands (l : Launch) (D : va_G) (K : Nat → ClassId) (am : Nat → Nat) (th : Int32) (M : Nat → Nat → Int32) (p0 p1 : Int32) (ht : vp_in p0 30) (hb7 : vp_in p1 7) : PU l yX3_stands wsX3_stands 0 0 D K [.ref (am 0), .int p0, .int p1] (fun H => va_P D vwCl (mW K am th M) H) (.int (bI (sp_X3_stands M p0 p1))) := by
  refine Met.ofW (cc := cX3_stands) (maxL := 3) (ret := (some .boolean)) (by decide) rfl ?_
  intro p e s m args below meth c s₁ B hml hv
  obtain ⟨rfl, hP, hK, hE⟩ := hv
  have hx := B.exec
  have hb := B.bytes
  have hr := B.returns
  have hts := atoms_spec (ws := wsX3_stands) B.pre
  have hown : s.vm.findClass RX3 = some m.cls := findClass_of_methodNamed B.named
  have hlocks := B.notSynchronized
  have hc : CallFix p m c cX3_stands 3 s ([.ref (am 0), .int p0, .int p1] : List Value).toArray wsX3_stands RX3 := ⟨hx, hb, hml, hown, hts⟩
  have hin3 : ∀ w ∈ u_ws RX3 TX3 19, w ∈ wsX3_stands := by decide +kernel
  have hP : va_P D vwCl (mW K am th M) s.heap := hP
  have hl := lv_entry ([.ref (am 0), .int p0, .int p1]) (n := 3) (Nat.le_of_ble_eq_true rfl)
  rw [lg_entry_eq]
  generalize (lg_sl ([.ref (am 0), .int p0, .int p1]) ++ List.replicate (3 - (lg_sl ([.ref (am 0), .int p0, .int p1])).length) Slot.unset).toArray = ls at hl ⊢
  have hl : lv_has ls 3 [(0, .ref (am 0)), (1, .int p0), (2, .int p1)] := hl
  refine lv_aload_n hx hb dX3_stands_0 rfl (lv_at hl 0 rfl) ?_
  refine va_get (D := D) (ci := 3) (v := .ref (am 6)) (C := RX3) (T := TX3) (N := 19) hx hb hts hin3 hown hK hP 0 rfl rfl 6 (by decide) (hts (.fieldLink RX3 22 "CartelWatchModel" "sum" "[I") (by decide +kernel)) (fun _ h9 => h9) rfl dX3_stands_1 ?_
  refine lv_bipush (v := 7) hx hb dX3_stands_4 (by decide) ?_
  refine lv_iload_n hx hb dX3_stands_6 rfl (lv_at hl 1 rfl) ?_
  refine lv_imul hx hb dX3_stands_7 ?_
  refine lv_iload_n hx hb dX3_stands_8 rfl (lv_at hl 2 rfl) ?_
  refine lv_iadd hx hb dX3_stands_9 ?_
  refine va_iald hx hb hK hP 5 0 (cA := K 0) rfl rfl (ix7 ht hb7) dX3_stands_10 ?_
  refine W.eq (g2 := F0 m 11 ls [.int ((M 6) (((7 * p0) + p1).toNatClampNeg))]) rfl ?_
  refine lv_if_le (tgt := 32) hx hb dX3_stands_11 (by decide) (fun c_11 => ?_) (fun c_11 => ?_)
  · skip
    refine lv_iconst (v := 0) hx hb dX3_stands_32 (by decide) ?_
    exact pu_zret hx hb hr hlocks dX3_stands_33 (bI_nar _) (bI_eq (a := false) (Eq.symm (Eq.trans (if_pos c_11) (rfl))))
  · skip
    refine lv_aload_n hx hb dX3_stands_14 rfl (lv_at hl 0 rfl) ?_
    refine va_get (D := D) (ci := 3) (v := .ref (am 7)) (C := RX3) (T := TX3) (N := 19) hx hb hts hin3 hown hK hP 0 rfl rfl 7 (by decide) (hts (.fieldLink RX3 25 "CartelWatchModel" "gone" "[Z") (by decide +kernel)) (fun _ h9 => h9) rfl dX3_stands_15 ?_
    refine lv_bipush (v := 7) hx hb dX3_stands_18 (by decide) ?_
    refine lv_iload_n hx hb dX3_stands_20 rfl (lv_at hl 1 rfl) ?_
    refine lv_imul hx hb dX3_stands_21 ?_
    refine lv_iload_n hx hb dX3_stands_22 rfl (lv_at hl 2 rfl) ?_
    refine lv_iadd hx hb dX3_stands_23 ?_
    refine W.eq (g2 := F0 m 24 ls [.int ((7 * p0) + p1), .ref (am 7)]) rfl ?_
    refine va_zald hx hb hK hP 6 1 (cA := K 1) rfl rfl (ix7 ht hb7) dX3_stands_24 ?_
    refine lv_if_ne (tgt := 32) hx hb dX3_stands_25 (by decide) (fun c_25 => ?_) (fun c_25 => ?_)
    · skip
      refine lv_iconst (v := 0) hx hb dX3_stands_32 (by decide) ?_
      exact pu_zret hx hb hr hlocks dX3_stands_33 (bI_nar _) (bI_eq (a := false) (Eq.symm (Eq.trans (if_neg c_11) (Eq.trans (if_neg c_25) (rfl)))))
    · skip
      refine lv_iconst (v := 1) hx hb dX3_stands_28 (by decide) ?_
      refine lv_goto (tgt := 33) hx hb dX3_stands_29 (by decide) ?_
      exact pu_zret hx hb hr hlocks dX3_stands_33 (bI_nar _) (bI_eq (a := true) (Eq.symm (Eq.trans (if_neg c_11) (Eq.trans (if_pos c_25) (rfl)))))

def sp_X3_countBids_L4 (M : Nat → Nat → Int32) (p0 : Int32) : Nat → Int32
  | 0 => 0
  | k + 1 => if sp_X3_stands M p0 (nI k) = true then ((sp_X3_countBids_L4 M p0 k) + 1) else ((sp_X3_countBids_L4 M p0 k) + 0)
def sp_X3_countBids (M : Nat → Nat → Int32) (p0 : Int32) : Int32 := sp_X3_countBids_L4 M p0 7
set_option maxHeartbeats 4000000 in
set_option maxRecDepth 100000 in
theorem c_X3_countBids (l : Launch) (D : va_G) (K : Nat → ClassId) (am : Nat → Nat) (th : Int32) (M : Nat → Nat → Int32) (p0 : Int32) (ht : vp_in p0 30) : PU l yX3_countBids wsX3_countBids 1 22 D K [.ref (am 0), .int p0] (fun H => va_P D vwCl (mW K am th M) H) (.int (sp_X3_countBids M p0)) := by
  refine Met.ofW (cc := cX3_countBids) (maxL := 4) (ret := (some .int)) (by decide) rfl ?_
  intro p e s m args below meth c s₁ B hml hv
  obtain ⟨rfl, hP, hK, hE⟩ := hv
  have hx := B.exec
  have hb := B.bytes
  have hr := B.returns
  have hts := atoms_spec (ws := wsX3_countBids) B.pre
  have hown : s.vm.findClass RX3 = some m.cls := findClass_of_methodNamed B.named
  have hlocks := B.notSynchronized
  have hc : CallFix p m c cX3_countBids 4 s ([.ref (am 0), .int p0] : List Value).toArray wsX3_countBids RX3 := ⟨hx, hb, hml, hown, hts⟩
  have hP : va_P D vwCl (mW K am th M) s.heap := hP
  have hl := lv_entry ([.ref (am 0), .int p0]) (n := 4) (Nat.le_of_ble_eq_true rfl)
  rw [lg_entry_eq]
  generalize (lg_sl ([.ref (am 0), .int p0]) ++ List.replicate (4 - (lg_sl ([.ref (am 0), .int p0])).length) Slot.unset).toArray = ls at hl ⊢
  have hl : lv_has ls 4 [(0, .ref (am 0)), (1, .int p0)] := hl
  refine lv_iconst (v := 0) hx hb dX3_countBids_0 (by decide) ?_
  refine lv_istore_n (lv' := [(2, .int 0), (0, .ref (am 0)), (1, .int p0)]) hx hb dX3_countBids_1 rfl hl (by decide) rfl (fun ls hl => ?_)
  refine lv_iconst (v := 0) hx hb dX3_countBids_2 (by decide) ?_
  refine lv_istore_n (lv' := [(3, .int 0), (2, .int 0), (0, .ref (am 0)), (1, .int p0)]) hx hb dX3_countBids_3 rfl hl (by decide) rfl (fun ls hl => ?_)
  have hloop_4 : ∀ (n4 k : Nat), k ≤ 7 → 7 + 1 ≤ k + n4 → ∀ (a4_2 x4 : Int32) (ls : Array Slot), a4_2 = sp_X3_countBids_L4 M p0 k → x4 = nI k → lv_has ls 4 [(0, .ref (am 0)), (1, .int p0), (2, .int a4_2), (3, .int x4)] → W p l e ({ frames := 1, cells := 0, slots := 0, locals := 22 } : Room) s m ([.ref (am 0), .int p0] : List Value).toArray below meth c s.heap [] 0 0 (MQ below (QcV (.int (sp_X3_countBids M p0))) ([.ref (am 0), .int p0] : List Value).toArray s 0 0 (fun _ => False)) (F0 m 4 ls []) := by
    intro n4
    induction n4 with
    | zero => intro k h1 h2; exact absurd h2 (by omega)
    | succ n4 ih_4 =>
      intro k hk_4 hn_4 a4_2 x4 ls ea4_2 ex4 hl
      subst ea4_2
      subst ex4
      refine lv_iload_n hx hb dX3_countBids_4 rfl (lv_at hl 3 rfl) ?_
      refine lv_bipush (v := 7) hx hb dX3_countBids_5 (by decide) ?_
      refine lv_icmp_ge (tgt := 33) hx hb dX3_countBids_7 (by decide) (fun c_7 => ?_) (fun c_7 => ?_)
      · skip
        have hke_4 : 7 = k := (lp_end rfl c_7 hk_4 (by decide)).symm
        subst hke_4
        refine lv_iload_n hx hb dX3_countBids_33 rfl (lv_at hl 2 rfl) ?_
        exact pu_iret hx hb hr hlocks dX3_countBids_34 (Eq.symm (rfl))
      · skip
        have hlt_4 : k < 7 := lp_in rfl c_7 hk_4 (by decide)
        refine lv_iload_n hx hb dX3_countBids_10 rfl (lv_at hl 2 rfl) ?_
        refine W.eq (g2 := F0 m 11 ls [.int (sp_X3_countBids_L4 M p0 k)]) rfl ?_
        refine lv_aload_n hx hb dX3_countBids_11 rfl (lv_at hl 0 rfl) ?_
        refine lv_iload_n hx hb dX3_countBids_12 rfl (lv_at hl 1 rfl) ?_
        refine lv_iload_n hx hb dX3_countBids_13 rfl (lv_at hl 3 rfl) ?_
        refine pu_V (As := [.int p0, .int (nI k)]) (rest := [.int (sp_X3_countBids_L4 M p0 k)]) hc (c_X3_stands l D K am th M p0 (nI k) ht (vp_in_nI hlt_4 (by decide))) (cwV 2 hts gX3_countBids_X3_stands rfl rfl rfl (by decide +kernel) ⟨Nat.le_of_ble_eq_true rfl, Nat.le_of_ble_eq_true rfl⟩) hP hK hE (va_recv hK hP (ci := 3) (q0 := 0) rfl rfl) rfl rfl hl.1 (Nat.le_of_ble_eq_true rfl) dX3_countBids_14 ⟨Nat.le_of_ble_eq_true rfl, Nat.le_of_ble_eq_true rfl⟩ ?_
        refine lb_eq (tgt := 24) hx hb dX3_countBids_17 (by decide) (fun c_17 => ?_) (fun c_17 => ?_)
        · skip
          refine lv_iconst (v := 0) hx hb dX3_countBids_24 (by decide) ?_
          refine lv_iadd hx hb dX3_countBids_25 ?_
          refine lv_istore_n (lv' := [(2, .int ((sp_X3_countBids_L4 M p0 k) + 0)), (0, .ref (am 0)), (1, .int p0), (3, .int (nI k))]) hx hb dX3_countBids_26 rfl hl (by decide) rfl (fun ls hl => ?_)
          refine lv_iinc (v := (nI k) + 1) (lv' := [(3, .int ((nI k) + 1)), (2, .int ((sp_X3_countBids_L4 M p0 k) + 0)), (0, .ref (am 0)), (1, .int p0)]) hx hb dX3_countBids_27 hl (k := 3) rfl (rfl) (by decide) rfl (fun ls hl => ?_)
          refine lv_goto (tgt := 4) hx hb dX3_countBids_30 (by decide) ?_
          exact ih_4 (k + 1) hlt_4 (by omega) _ _ ls (Eq.symm (Eq.trans (if_neg (ntr c_17)) (rfl))) (nI_1 k) (lv_sub hl [2, 3, 1, 0] rfl)
        · skip
          refine lv_iconst (v := 1) hx hb dX3_countBids_20 (by decide) ?_
          refine lv_goto (tgt := 25) hx hb dX3_countBids_21 (by decide) ?_
          refine lv_iadd hx hb dX3_countBids_25 ?_
          refine lv_istore_n (lv' := [(2, .int ((sp_X3_countBids_L4 M p0 k) + 1)), (0, .ref (am 0)), (1, .int p0), (3, .int (nI k))]) hx hb dX3_countBids_26 rfl hl (by decide) rfl (fun ls hl => ?_)
          refine lv_iinc (v := (nI k) + 1) (lv' := [(3, .int ((nI k) + 1)), (2, .int ((sp_X3_countBids_L4 M p0 k) + 1)), (0, .ref (am 0)), (1, .int p0)]) hx hb dX3_countBids_27 hl (k := 3) rfl (rfl) (by decide) rfl (fun ls hl => ?_)
          refine lv_goto (tgt := 4) hx hb dX3_countBids_30 (by decide) ?_
          exact ih_4 (k + 1) hlt_4 (by omega) _ _ ls (Eq.symm (Eq.trans (if_pos c_17) (rfl))) (nI_1 k) (lv_sub hl [2, 3, 1, 0] rfl)
  exact hloop_4 (7 + 1) 0 (Nat.zero_le _) (by omega) _ _ ls rfl nI_0.symm (lv_sub hl [2, 3, 1, 0] rfl)

def sp_X3_price (M : Nat → Nat → Int32) (p0 : Int32) : Int32 := (M 6) (((7 * p0) + ((M 3) p0.toNatClampNeg)).toNatClampNeg)
set_option maxHeartbeats 4000000 in
set_option maxRecDepth 100000 in
theorem c_X3_price (l : Launch) (D : va_G) (K : Nat → ClassId) (am : Nat → Nat) (th : Int32) (M : Nat → Nat → Int32) (p0 : Int32) (ht : vp_in p0 30) (hw : vp_in (M 3 p0.toNatClampNeg) 7) : PU l yX3_price wsX3_price 0 0 D K [.ref (am 0), .int p0] (fun H => va_P D vwCl (mW K am th M) H) (.int (sp_X3_price M p0)) := by
  refine Met.ofW (cc := cX3_price) (maxL := 2) (ret := (some .int)) (by decide) rfl ?_
  intro p e s m args below meth c s₁ B hml hv
  obtain ⟨rfl, hP, hK, hE⟩ := hv
  have hx := B.exec
  have hb := B.bytes
  have hr := B.returns
  have hts := atoms_spec (ws := wsX3_price) B.pre
  have hown : s.vm.findClass RX3 = some m.cls := findClass_of_methodNamed B.named
  have hlocks := B.notSynchronized
  have hc : CallFix p m c cX3_price 2 s ([.ref (am 0), .int p0] : List Value).toArray wsX3_price RX3 := ⟨hx, hb, hml, hown, hts⟩
  have hin3 : ∀ w ∈ u_ws RX3 TX3 19, w ∈ wsX3_price := by decide +kernel
  have hP : va_P D vwCl (mW K am th M) s.heap := hP
  have hl := lv_entry ([.ref (am 0), .int p0]) (n := 2) (Nat.le_of_ble_eq_true rfl)
  rw [lg_entry_eq]
  generalize (lg_sl ([.ref (am 0), .int p0]) ++ List.replicate (2 - (lg_sl ([.ref (am 0), .int p0])).length) Slot.unset).toArray = ls at hl ⊢
  have hl : lv_has ls 2 [(0, .ref (am 0)), (1, .int p0)] := hl
  refine lv_aload_n hx hb dX3_price_0 rfl (lv_at hl 0 rfl) ?_
  refine va_get (D := D) (ci := 3) (v := .ref (am 6)) (C := RX3) (T := TX3) (N := 19) hx hb hts hin3 hown hK hP 0 rfl rfl 6 (by decide) (hts (.fieldLink RX3 22 "CartelWatchModel" "sum" "[I") (by decide +kernel)) (fun _ h9 => h9) rfl dX3_price_1 ?_
  refine lv_bipush (v := 7) hx hb dX3_price_4 (by decide) ?_
  refine lv_iload_n hx hb dX3_price_6 rfl (lv_at hl 1 rfl) ?_
  refine lv_imul hx hb dX3_price_7 ?_
  refine lv_aload_n hx hb dX3_price_8 rfl (lv_at hl 0 rfl) ?_
  refine va_get (D := D) (ci := 3) (v := .ref (am 3)) (C := RX3) (T := TX3) (N := 19) hx hb hts hin3 hown hK hP 0 rfl rfl 3 (by decide) (hts (.fieldLink RX3 13 "CartelWatchModel" "winner" "[I") (by decide +kernel)) (fun _ h9 => h9) rfl dX3_price_9 ?_
  refine lv_iload_n hx hb dX3_price_12 rfl (lv_at hl 1 rfl) ?_
  refine W.eq (g2 := F0 m 13 ls [.int p0, .ref (am 3), .int (7 * p0), .ref (am 6)]) rfl ?_
  refine va_iald hx hb hK hP 2 0 (cA := K 0) rfl rfl (ht) dX3_price_13 ?_
  refine lv_iadd hx hb dX3_price_14 ?_
  refine va_iald hx hb hK hP 5 0 (cA := K 0) rfl rfl (ix7 ht hw) dX3_price_15 ?_
  exact pu_iret hx hb hr hlocks dX3_price_16 (Eq.symm (rfl))

theorem hI_k {M : Nat → Nat → Int32} {k : Nat} (hI : ∀ k, k < 30 → M 2 k = 1 → vp_in (M 3 k) 7) (hk : k < 30) (h : M 2 (nI k).toNatClampNeg = 1) : vp_in (M 3 (nI k).toNatClampNeg) 7 := by
  rw [nI_clamp (by omega)] at h ⊢
  exact hI k hk h
theorem hI_x {M : Nat → Nat → Int32} {x : Int32} (hI : ∀ k, k < 30 → M 2 k = 1 → vp_in (M 3 k) 7) (hk : vp_in x 30) (h : M 2 x.toNatClampNeg = 1) : vp_in (M 3 x.toNatClampNeg) 7 := by
  obtain ⟨k, hk2, rfl⟩ := vp_in_of hk (by decide)
  exact hI_k hI hk2 h

def sp_X3_turnoverOf_L4 (M : Nat → Nat → Int32) (p0 : Int32) : Nat → Int32
  | 0 => 0
  | k + 1 => if ((M 2) ((nI k).toNatClampNeg)) = 1 then (if ((M 3) ((nI k).toNatClampNeg)) = p0 then (if ((M 4) ((nI k).toNatClampNeg)) = p0 then (((sp_X3_turnoverOf_L4 M p0 k) + ((sp_X3_price M (nI k)) - ((M 5) ((nI k).toNatClampNeg)))) + ((M 5) ((nI k).toNatClampNeg))) else (((sp_X3_turnoverOf_L4 M p0 k) + ((sp_X3_price M (nI k)) - ((M 5) ((nI k).toNatClampNeg)))) + 0)) else (if ((M 4) ((nI k).toNatClampNeg)) = p0 then (((sp_X3_turnoverOf_L4 M p0 k) + 0) + ((M 5) ((nI k).toNatClampNeg))) else (((sp_X3_turnoverOf_L4 M p0 k) + 0) + 0))) else (sp_X3_turnoverOf_L4 M p0 k)
def sp_X3_turnoverOf (M : Nat → Nat → Int32) (n : Nat) (p0 : Int32) : Int32 := sp_X3_turnoverOf_L4 M p0 n
set_option maxHeartbeats 4000000 in
set_option maxRecDepth 100000 in
theorem c_X3_turnoverOf (l : Launch) (D : va_G) (K : Nat → ClassId) (am : Nat → Nat) (th : Int32) (M : Nat → Nat → Int32) (n nf : Nat) (p0 : Int32) (hM : MOK M n nf) : PU l yX3_turnoverOf wsX3_turnoverOf 1 21 D K [.ref (am 0), .int p0] (fun H => va_P D vwCl (mW K am th M) H) (.int (sp_X3_turnoverOf M n p0)) := by
  refine Met.ofW (cc := cX3_turnoverOf) (maxL := 4) (ret := (some .int)) (by decide) rfl ?_
  intro p e s m args below meth c s₁ B hml hv
  obtain ⟨rfl, hP, hK, hE⟩ := hv
  have hx := B.exec
  have hb := B.bytes
  have hr := B.returns
  have hts := atoms_spec (ws := wsX3_turnoverOf) B.pre
  have hown : s.vm.findClass RX3 = some m.cls := findClass_of_methodNamed B.named
  have hlocks := B.notSynchronized
  have hc : CallFix p m c cX3_turnoverOf 4 s ([.ref (am 0), .int p0] : List Value).toArray wsX3_turnoverOf RX3 := ⟨hx, hb, hml, hown, hts⟩
  have hin3 : ∀ w ∈ u_ws RX3 TX3 19, w ∈ wsX3_turnoverOf := by decide +kernel
  have hP : va_P D vwCl (mW K am th M) s.heap := hP
  obtain ⟨hn, hn30, hf, hf20, hI, hJ⟩ := id hM
  have hl := lv_entry ([.ref (am 0), .int p0]) (n := 4) (Nat.le_of_ble_eq_true rfl)
  rw [lg_entry_eq]
  generalize (lg_sl ([.ref (am 0), .int p0]) ++ List.replicate (4 - (lg_sl ([.ref (am 0), .int p0])).length) Slot.unset).toArray = ls at hl ⊢
  have hl : lv_has ls 4 [(0, .ref (am 0)), (1, .int p0)] := hl
  refine lv_iconst (v := 0) hx hb dX3_turnoverOf_0 (by decide) ?_
  refine lv_istore_n (lv' := [(2, .int 0), (0, .ref (am 0)), (1, .int p0)]) hx hb dX3_turnoverOf_1 rfl hl (by decide) rfl (fun ls hl => ?_)
  refine lv_iconst (v := 0) hx hb dX3_turnoverOf_2 (by decide) ?_
  refine lv_istore_n (lv' := [(3, .int 0), (2, .int 0), (0, .ref (am 0)), (1, .int p0)]) hx hb dX3_turnoverOf_3 rfl hl (by decide) rfl (fun ls hl => ?_)
  have hloop_4 : ∀ (n4 k : Nat), k ≤ n → n + 1 ≤ k + n4 → ∀ (a4_2 x4 : Int32) (ls : Array Slot), a4_2 = sp_X3_turnoverOf_L4 M p0 k → x4 = nI k → lv_has ls 4 [(0, .ref (am 0)), (1, .int p0), (2, .int a4_2), (3, .int x4)] → W p l e ({ frames := 1, cells := 0, slots := 0, locals := 21 } : Room) s m ([.ref (am 0), .int p0] : List Value).toArray below meth c s.heap [] 0 0 (MQ below (QcV (.int (sp_X3_turnoverOf M n p0))) ([.ref (am 0), .int p0] : List Value).toArray s 0 0 (fun _ => False)) (F0 m 4 ls []) := by
    intro n4
    induction n4 with
    | zero => intro k h1 h2; exact absurd h2 (by omega)
    | succ n4 ih_4 =>
      intro k hk_4 hn_4 a4_2 x4 ls ea4_2 ex4 hl
      subst ea4_2
      subst ex4
      refine lv_iload_n hx hb dX3_turnoverOf_4 rfl (lv_at hl 3 rfl) ?_
      refine lv_aload_n hx hb dX3_turnoverOf_5 rfl (lv_at hl 0 rfl) ?_
      refine va_get (D := D) (ci := 3) (v := .int (M 1 0)) (C := RX3) (T := TX3) (N := 19) hx hb hts hin3 hown hK hP 0 rfl rfl 1 (by decide) (hts (.fieldLink RX3 67 "CartelWatchModel" "tenders" "I") (by decide +kernel)) (fun _ h9 => h9) rfl dX3_turnoverOf_6 ?_
      refine lv_icmp_ge (tgt := 80) hx hb dX3_turnoverOf_9 (by decide) (fun c_9 => ?_) (fun c_9 => ?_)
      · skip
        have hke_4 : n = k := (lp_end hn c_9 hk_4 (by omega)).symm
        subst hke_4
        refine lv_iload_n hx hb dX3_turnoverOf_80 rfl (lv_at hl 2 rfl) ?_
        exact pu_iret hx hb hr hlocks dX3_turnoverOf_81 (Eq.symm (rfl))
      · skip
        have hlt_4 : k < n := lp_in hn c_9 hk_4 (by omega)
        refine W.eq (g2 := F0 m 12 ls []) rfl ?_
        refine lv_aload_n hx hb dX3_turnoverOf_12 rfl (lv_at hl 0 rfl) ?_
        refine va_get (D := D) (ci := 3) (v := .ref (am 2)) (C := RX3) (T := TX3) (N := 19) hx hb hts hin3 hown hK hP 0 rfl rfl 2 (by decide) (hts (.fieldLink RX3 7 "CartelWatchModel" "state" "[I") (by decide +kernel)) (fun _ h9 => h9) rfl dX3_turnoverOf_13 ?_
        refine lv_iload_n hx hb dX3_turnoverOf_16 rfl (lv_at hl 3 rfl) ?_
        refine va_iald hx hb hK hP 1 0 (cA := K 0) rfl rfl ((vp_in_nI (Nat.lt_of_lt_of_le hlt_4 hn30) (by decide))) dX3_turnoverOf_17 ?_
        refine lv_iconst (v := 1) hx hb dX3_turnoverOf_18 (by decide) ?_
        refine lv_icmp_ne (tgt := 74) hx hb dX3_turnoverOf_19 (by decide) (fun c_19 => ?_) (fun c_19 => ?_)
        · skip
          refine lv_iinc (v := (nI k) + 1) (lv' := [(3, .int ((nI k) + 1)), (0, .ref (am 0)), (1, .int p0), (2, .int (sp_X3_turnoverOf_L4 M p0 k))]) hx hb dX3_turnoverOf_74 hl (k := 3) rfl (rfl) (by decide) rfl (fun ls hl => ?_)
          refine lv_goto (tgt := 4) hx hb dX3_turnoverOf_77 (by decide) ?_
          exact ih_4 (k + 1) hlt_4 (by omega) _ _ ls (Eq.symm (Eq.trans (if_neg c_19) (rfl))) (nI_1 k) (lv_sub hl [1, 2, 3, 0] rfl)
        · skip
          refine lv_iload_n hx hb dX3_turnoverOf_22 rfl (lv_at hl 2 rfl) ?_
          refine lv_aload_n hx hb dX3_turnoverOf_23 rfl (lv_at hl 0 rfl) ?_
          refine W.eq (g2 := F0 m 24 ls [.ref (am 0), .int (sp_X3_turnoverOf_L4 M p0 k)]) rfl ?_
          refine va_get (D := D) (ci := 3) (v := .ref (am 3)) (C := RX3) (T := TX3) (N := 19) hx hb hts hin3 hown hK hP 0 rfl rfl 3 (by decide) (hts (.fieldLink RX3 13 "CartelWatchModel" "winner" "[I") (by decide +kernel)) (fun _ h9 => h9) rfl dX3_turnoverOf_24 ?_
          refine lv_iload_n hx hb dX3_turnoverOf_27 rfl (lv_at hl 3 rfl) ?_
          refine va_iald hx hb hK hP 2 0 (cA := K 0) rfl rfl ((vp_in_nI (Nat.lt_of_lt_of_le hlt_4 hn30) (by decide))) dX3_turnoverOf_28 ?_
          refine lv_iload_n hx hb dX3_turnoverOf_29 rfl (lv_at hl 1 rfl) ?_
          refine lv_icmp_ne (tgt := 48) hx hb dX3_turnoverOf_30 (by decide) (fun c_30 => ?_) (fun c_30 => ?_)
          · skip
            refine lv_iconst (v := 0) hx hb dX3_turnoverOf_48 (by decide) ?_
            refine lv_iadd hx hb dX3_turnoverOf_49 ?_
            refine lv_istore_n (lv' := [(2, .int ((sp_X3_turnoverOf_L4 M p0 k) + 0)), (0, .ref (am 0)), (1, .int p0), (3, .int (nI k))]) hx hb dX3_turnoverOf_50 rfl hl (by decide) rfl (fun ls hl => ?_)
            refine lv_iload_n hx hb dX3_turnoverOf_51 rfl (lv_at hl 0 rfl) ?_
            refine lv_aload_n hx hb dX3_turnoverOf_52 rfl (lv_at hl 1 rfl) ?_
            refine va_get (D := D) (ci := 3) (v := .ref (am 4)) (C := RX3) (T := TX3) (N := 19) hx hb hts hin3 hown hK hP 0 rfl rfl 4 (by decide) (hts (.fieldLink RX3 16 "CartelWatchModel" "passed" "[I") (by decide +kernel)) (fun _ h9 => h9) rfl dX3_turnoverOf_53 ?_
            refine lv_iload_n hx hb dX3_turnoverOf_56 rfl (lv_at hl 3 rfl) ?_
            refine va_iald hx hb hK hP 3 0 (cA := K 0) rfl rfl ((vp_in_nI (Nat.lt_of_lt_of_le hlt_4 hn30) (by decide))) dX3_turnoverOf_57 ?_
            refine W.eq (g2 := F0 m 58 ls [.int ((M 4) ((nI k).toNatClampNeg)), .int ((sp_X3_turnoverOf_L4 M p0 k) + 0)]) rfl ?_
            refine lv_iload_n hx hb dX3_turnoverOf_58 rfl (lv_at hl 2 rfl) ?_
            refine lv_icmp_ne (tgt := 71) hx hb dX3_turnoverOf_59 (by decide) (fun c_59 => ?_) (fun c_59 => ?_)
            · skip
              refine lv_iconst (v := 0) hx hb dX3_turnoverOf_71 (by decide) ?_
              refine lv_iadd hx hb dX3_turnoverOf_72 ?_
              refine lv_istore_n (lv' := [(2, .int (((sp_X3_turnoverOf_L4 M p0 k) + 0) + 0)), (0, .ref (am 0)), (1, .int p0), (3, .int (nI k))]) hx hb dX3_turnoverOf_73 rfl hl (by decide) rfl (fun ls hl => ?_)
              refine lv_iinc (v := (nI k) + 1) (lv' := [(3, .int ((nI k) + 1)), (2, .int (((sp_X3_turnoverOf_L4 M p0 k) + 0) + 0)), (0, .ref (am 0)), (1, .int p0)]) hx hb dX3_turnoverOf_74 hl (k := 3) rfl (rfl) (by decide) rfl (fun ls hl => ?_)
              refine lv_goto (tgt := 4) hx hb dX3_turnoverOf_77 (by decide) ?_
              exact ih_4 (k + 1) hlt_4 (by omega) _ _ ls (Eq.symm (Eq.trans (if_pos c_19) (Eq.trans (if_neg c_30) (Eq.trans (if_neg c_59) (rfl))))) (nI_1 k) (lv_sub hl [2, 3, 1, 0] rfl)
            · skip
              refine lv_aload_n hx hb dX3_turnoverOf_62 rfl (lv_at hl 1 rfl) ?_
              refine va_get (D := D) (ci := 3) (v := .ref (am 5)) (C := RX3) (T := TX3) (N := 19) hx hb hts hin3 hown hK hP 0 rfl rfl 5 (by decide) (hts (.fieldLink RX3 19 "CartelWatchModel" "part" "[I") (by decide +kernel)) (fun _ h9 => h9) rfl dX3_turnoverOf_63 ?_
              refine lv_iload_n hx hb dX3_turnoverOf_66 rfl (lv_at hl 3 rfl) ?_
              refine va_iald hx hb hK hP 4 0 (cA := K 0) rfl rfl ((vp_in_nI (Nat.lt_of_lt_of_le hlt_4 hn30) (by decide))) dX3_turnoverOf_67 ?_
              refine lv_goto (tgt := 72) hx hb dX3_turnoverOf_68 (by decide) ?_
              refine lv_iadd hx hb dX3_turnoverOf_72 ?_
              refine lv_istore_n (lv' := [(2, .int (((sp_X3_turnoverOf_L4 M p0 k) + 0) + ((M 5) ((nI k).toNatClampNeg)))), (0, .ref (am 0)), (1, .int p0), (3, .int (nI k))]) hx hb dX3_turnoverOf_73 rfl hl (by decide) rfl (fun ls hl => ?_)
              refine lv_iinc (v := (nI k) + 1) (lv' := [(3, .int ((nI k) + 1)), (2, .int (((sp_X3_turnoverOf_L4 M p0 k) + 0) + ((M 5) ((nI k).toNatClampNeg)))), (0, .ref (am 0)), (1, .int p0)]) hx hb dX3_turnoverOf_74 hl (k := 3) rfl (rfl) (by decide) rfl (fun ls hl => ?_)
              refine lv_goto (tgt := 4) hx hb dX3_turnoverOf_77 (by decide) ?_
              exact ih_4 (k + 1) hlt_4 (by omega) _ _ ls (Eq.symm (Eq.trans (if_pos c_19) (Eq.trans (if_neg c_30) (Eq.trans (if_pos c_59) (rfl))))) (nI_1 k) (lv_sub hl [2, 3, 1, 0] rfl)
          · skip
            refine lv_aload_n hx hb dX3_turnoverOf_33 rfl (lv_at hl 0 rfl) ?_
            refine lv_iload_n hx hb dX3_turnoverOf_34 rfl (lv_at hl 3 rfl) ?_
            refine pu_V (As := [.int (nI k)]) (rest := [.int (sp_X3_turnoverOf_L4 M p0 k)]) hc (c_X3_price l D K am th M (nI k) (vp_in_nI (Nat.lt_of_lt_of_le hlt_4 hn30) (by decide)) (hI_k hI (Nat.lt_of_lt_of_le hlt_4 hn30) c_19)) (cwV 1 hts gX3_turnoverOf_X3_price rfl rfl rfl (by decide +kernel) ⟨Nat.le_of_ble_eq_true rfl, Nat.le_of_ble_eq_true rfl⟩) hP hK hE (va_recv hK hP (ci := 3) (q0 := 0) rfl rfl) rfl rfl hl.1 (Nat.le_of_ble_eq_true rfl) dX3_turnoverOf_35 ⟨Nat.le_of_ble_eq_true rfl, Nat.le_of_ble_eq_true rfl⟩ ?_
            refine W.eq (g2 := F0 m 38 ls [.int (sp_X3_price M (nI k)), .int (sp_X3_turnoverOf_L4 M p0 k)]) rfl ?_
            refine lv_aload_n hx hb dX3_turnoverOf_38 rfl (lv_at hl 0 rfl) ?_
            refine va_get (D := D) (ci := 3) (v := .ref (am 5)) (C := RX3) (T := TX3) (N := 19) hx hb hts hin3 hown hK hP 0 rfl rfl 5 (by decide) (hts (.fieldLink RX3 19 "CartelWatchModel" "part" "[I") (by decide +kernel)) (fun _ h9 => h9) rfl dX3_turnoverOf_39 ?_
            refine lv_iload_n hx hb dX3_turnoverOf_42 rfl (lv_at hl 3 rfl) ?_
            refine va_iald hx hb hK hP 4 0 (cA := K 0) rfl rfl ((vp_in_nI (Nat.lt_of_lt_of_le hlt_4 hn30) (by decide))) dX3_turnoverOf_43 ?_
            refine lv_isub hx hb dX3_turnoverOf_44 ?_
            refine lv_goto (tgt := 49) hx hb dX3_turnoverOf_45 (by decide) ?_
            refine lv_iadd hx hb dX3_turnoverOf_49 ?_
            refine lv_istore_n (lv' := [(2, .int ((sp_X3_turnoverOf_L4 M p0 k) + ((sp_X3_price M (nI k)) - ((M 5) ((nI k).toNatClampNeg))))), (0, .ref (am 0)), (1, .int p0), (3, .int (nI k))]) hx hb dX3_turnoverOf_50 rfl hl (by decide) rfl (fun ls hl => ?_)
            refine lv_iload_n hx hb dX3_turnoverOf_51 rfl (lv_at hl 0 rfl) ?_
            refine lv_aload_n hx hb dX3_turnoverOf_52 rfl (lv_at hl 1 rfl) ?_
            refine va_get (D := D) (ci := 3) (v := .ref (am 4)) (C := RX3) (T := TX3) (N := 19) hx hb hts hin3 hown hK hP 0 rfl rfl 4 (by decide) (hts (.fieldLink RX3 16 "CartelWatchModel" "passed" "[I") (by decide +kernel)) (fun _ h9 => h9) rfl dX3_turnoverOf_53 ?_
            refine lv_iload_n hx hb dX3_turnoverOf_56 rfl (lv_at hl 3 rfl) ?_
            refine va_iald hx hb hK hP 3 0 (cA := K 0) rfl rfl ((vp_in_nI (Nat.lt_of_lt_of_le hlt_4 hn30) (by decide))) dX3_turnoverOf_57 ?_
            refine lv_iload_n hx hb dX3_turnoverOf_58 rfl (lv_at hl 2 rfl) ?_
            refine W.eq (g2 := F0 m 59 ls [.int p0, .int ((M 4) ((nI k).toNatClampNeg)), .int ((sp_X3_turnoverOf_L4 M p0 k) + ((sp_X3_price M (nI k)) - ((M 5) ((nI k).toNatClampNeg))))]) rfl ?_
            refine lv_icmp_ne (tgt := 71) hx hb dX3_turnoverOf_59 (by decide) (fun c_59 => ?_) (fun c_59 => ?_)
            · skip
              refine lv_iconst (v := 0) hx hb dX3_turnoverOf_71 (by decide) ?_
              refine lv_iadd hx hb dX3_turnoverOf_72 ?_
              refine lv_istore_n (lv' := [(2, .int (((sp_X3_turnoverOf_L4 M p0 k) + ((sp_X3_price M (nI k)) - ((M 5) ((nI k).toNatClampNeg)))) + 0)), (0, .ref (am 0)), (1, .int p0), (3, .int (nI k))]) hx hb dX3_turnoverOf_73 rfl hl (by decide) rfl (fun ls hl => ?_)
              refine lv_iinc (v := (nI k) + 1) (lv' := [(3, .int ((nI k) + 1)), (2, .int (((sp_X3_turnoverOf_L4 M p0 k) + ((sp_X3_price M (nI k)) - ((M 5) ((nI k).toNatClampNeg)))) + 0)), (0, .ref (am 0)), (1, .int p0)]) hx hb dX3_turnoverOf_74 hl (k := 3) rfl (rfl) (by decide) rfl (fun ls hl => ?_)
              refine lv_goto (tgt := 4) hx hb dX3_turnoverOf_77 (by decide) ?_
              exact ih_4 (k + 1) hlt_4 (by omega) _ _ ls (Eq.symm (Eq.trans (if_pos c_19) (Eq.trans (if_pos c_30) (Eq.trans (if_neg c_59) (rfl))))) (nI_1 k) (lv_sub hl [2, 3, 1, 0] rfl)
            · skip
              refine lv_aload_n hx hb dX3_turnoverOf_62 rfl (lv_at hl 1 rfl) ?_
              refine va_get (D := D) (ci := 3) (v := .ref (am 5)) (C := RX3) (T := TX3) (N := 19) hx hb hts hin3 hown hK hP 0 rfl rfl 5 (by decide) (hts (.fieldLink RX3 19 "CartelWatchModel" "part" "[I") (by decide +kernel)) (fun _ h9 => h9) rfl dX3_turnoverOf_63 ?_
              refine lv_iload_n hx hb dX3_turnoverOf_66 rfl (lv_at hl 3 rfl) ?_
              refine va_iald hx hb hK hP 4 0 (cA := K 0) rfl rfl ((vp_in_nI (Nat.lt_of_lt_of_le hlt_4 hn30) (by decide))) dX3_turnoverOf_67 ?_
              refine lv_goto (tgt := 72) hx hb dX3_turnoverOf_68 (by decide) ?_
              refine lv_iadd hx hb dX3_turnoverOf_72 ?_
              refine lv_istore_n (lv' := [(2, .int (((sp_X3_turnoverOf_L4 M p0 k) + ((sp_X3_price M (nI k)) - ((M 5) ((nI k).toNatClampNeg)))) + ((M 5) ((nI k).toNatClampNeg)))), (0, .ref (am 0)), (1, .int p0), (3, .int (nI k))]) hx hb dX3_turnoverOf_73 rfl hl (by decide) rfl (fun ls hl => ?_)
              refine lv_iinc (v := (nI k) + 1) (lv' := [(3, .int ((nI k) + 1)), (2, .int (((sp_X3_turnoverOf_L4 M p0 k) + ((sp_X3_price M (nI k)) - ((M 5) ((nI k).toNatClampNeg)))) + ((M 5) ((nI k).toNatClampNeg)))), (0, .ref (am 0)), (1, .int p0)]) hx hb dX3_turnoverOf_74 hl (k := 3) rfl (rfl) (by decide) rfl (fun ls hl => ?_)
              refine lv_goto (tgt := 4) hx hb dX3_turnoverOf_77 (by decide) ?_
              exact ih_4 (k + 1) hlt_4 (by omega) _ _ ls (Eq.symm (Eq.trans (if_pos c_19) (Eq.trans (if_pos c_30) (Eq.trans (if_pos c_59) (rfl))))) (nI_1 k) (lv_sub hl [2, 3, 1, 0] rfl)
  exact hloop_4 (n + 1) 0 (Nat.zero_le _) (by omega) _ _ ls rfl nI_0.symm (lv_sub hl [2, 3, 1, 0] rfl)

def sp_X3_isTurn_L6 (M : Nat → Nat → Int32) (p1 : Int32) (p2 : Int32) : Nat → Int32
  | 0 => (-1)
  | k + 1 => if ((M 2) ((nI k).toNatClampNeg)) = 1 then (if sp_X3_stands M (nI k) p1 = true then (if sp_X3_stands M (nI k) p2 = true then (nI k) else (sp_X3_isTurn_L6 M p1 p2 k)) else (sp_X3_isTurn_L6 M p1 p2 k)) else (sp_X3_isTurn_L6 M p1 p2 k)
theorem isTurn_in {M : Nat → Nat → Int32} {p1 p2 : Int32} : ∀ (k : Nat), k < 2 ^ 31 → sp_X3_isTurn_L6 M p1 p2 k = -1 ∨ ∃ j, j < k ∧ sp_X3_isTurn_L6 M p1 p2 k = nI j ∧ M 2 j = 1
  | 0, _ => Or.inl rfl
  | k + 1, hk => by
    have ih : sp_X3_isTurn_L6 M p1 p2 k = -1 ∨ ∃ j, j < k + 1 ∧ sp_X3_isTurn_L6 M p1 p2 k = nI j ∧ M 2 j = 1 := (isTurn_in k (by omega)).imp id (fun ⟨j, h1, h2⟩ => ⟨j, by omega, h2⟩)
    unfold sp_X3_isTurn_L6
    split
    · rename_i h1
      split
      · split
        · rw [nI_clamp (by omega)] at h1
          exact Or.inr ⟨k, by omega, rfl, h1⟩
        · exact ih
      · exact ih
    · exact ih
theorem isTurn_ix {M : Nat → Nat → Int32} {p1 p2 : Int32} {k : Nat} (hk : k ≤ 30) (h : ¬ sp_X3_isTurn_L6 M p1 p2 k = -1) : vp_in (sp_X3_isTurn_L6 M p1 p2 k) 30 := by
  rcases isTurn_in (M := M) (p1 := p1) (p2 := p2) k (by omega) with q | ⟨j, hj, q, -⟩
  · exact absurd q h
  · rw [q]; exact vp_in_nI (by omega) (by decide)

def sp_X3_isTurn (M : Nat → Nat → Int32) (p0 : Int32) (p1 : Int32) (p2 : Int32) : Bool := if (sp_X3_isTurn_L6 M p1 p2 p0.toNatClampNeg) = (-1) then false else (if ((M 3) ((sp_X3_isTurn_L6 M p1 p2 p0.toNatClampNeg).toNatClampNeg)) = p2 then true else false)
set_option maxHeartbeats 4000000 in
set_option maxRecDepth 100000 in
theorem c_X3_isTurn (l : Launch) (D : va_G) (K : Nat → ClassId) (am : Nat → Nat) (th : Int32) (M : Nat → Nat → Int32) (p0 p1 p2 : Int32) (hp : p0 = nI p0.toNatClampNeg) (hp30 : p0.toNatClampNeg ≤ 30) (hb1 : vp_in p1 7) (hb2 : vp_in p2 7) : PU l yX3_isTurn wsX3_isTurn 1 22 D K [.ref (am 0), .int p0, .int p1, .int p2] (fun H => va_P D vwCl (mW K am th M) H) (.int (bI (sp_X3_isTurn M p0 p1 p2))) := by
  refine Met.ofW (cc := cX3_isTurn) (maxL := 6) (ret := (some .boolean)) (by decide) rfl ?_
  intro p e s m args below meth c s₁ B hml hv
  obtain ⟨rfl, hP, hK, hE⟩ := hv
  have hx := B.exec
  have hb := B.bytes
  have hr := B.returns
  have hts := atoms_spec (ws := wsX3_isTurn) B.pre
  have hown : s.vm.findClass RX3 = some m.cls := findClass_of_methodNamed B.named
  have hlocks := B.notSynchronized
  have hc : CallFix p m c cX3_isTurn 6 s ([.ref (am 0), .int p0, .int p1, .int p2] : List Value).toArray wsX3_isTurn RX3 := ⟨hx, hb, hml, hown, hts⟩
  have hin3 : ∀ w ∈ u_ws RX3 TX3 19, w ∈ wsX3_isTurn := by decide +kernel
  have hP : va_P D vwCl (mW K am th M) s.heap := hP
  have hl := lv_entry ([.ref (am 0), .int p0, .int p1, .int p2]) (n := 6) (Nat.le_of_ble_eq_true rfl)
  rw [lg_entry_eq]
  generalize (lg_sl ([.ref (am 0), .int p0, .int p1, .int p2]) ++ List.replicate (6 - (lg_sl ([.ref (am 0), .int p0, .int p1, .int p2])).length) Slot.unset).toArray = ls at hl ⊢
  have hl : lv_has ls 6 [(0, .ref (am 0)), (1, .int p0), (2, .int p1), (3, .int p2)] := hl
  refine lv_iconst (v := -1) hx hb dX3_isTurn_0 (by decide) ?_
  refine lv_istore (lv' := [(4, .int (-1)), (0, .ref (am 0)), (1, .int p0), (2, .int p1), (3, .int p2)]) hx hb dX3_isTurn_1 hl (by decide) rfl (fun ls hl => ?_)
  refine lv_iconst (v := 0) hx hb dX3_isTurn_3 (by decide) ?_
  refine lv_istore (lv' := [(5, .int 0), (4, .int (-1)), (0, .ref (am 0)), (1, .int p0), (2, .int p1), (3, .int p2)]) hx hb dX3_isTurn_4 hl (by decide) rfl (fun ls hl => ?_)
  have hloop_6 : ∀ (n6 k : Nat), k ≤ p0.toNatClampNeg → p0.toNatClampNeg + 1 ≤ k + n6 → ∀ (a6_4 x6 : Int32) (ls : Array Slot), a6_4 = sp_X3_isTurn_L6 M p1 p2 k → x6 = nI k → lv_has ls 6 [(0, .ref (am 0)), (1, .int p0), (2, .int p1), (3, .int p2), (4, .int a6_4), (5, .int x6)] → W p l e ({ frames := 1, cells := 0, slots := 0, locals := 22 } : Room) s m ([.ref (am 0), .int p0, .int p1, .int p2] : List Value).toArray below meth c s.heap [] 0 0 (MQ below (QcV (.int (bI (sp_X3_isTurn M p0 p1 p2)))) ([.ref (am 0), .int p0, .int p1, .int p2] : List Value).toArray s 0 0 (fun _ => False)) (F0 m 6 ls []) := by
    intro n6
    induction n6 with
    | zero => intro k h1 h2; exact absurd h2 (by omega)
    | succ n6 ih_6 =>
      intro k hk_6 hn_6 a6_4 x6 ls ea6_4 ex6 hl
      subst ea6_4
      subst ex6
      refine lv_iload hx hb dX3_isTurn_6 (lv_at hl 5 rfl) ?_
      refine lv_iload_n hx hb dX3_isTurn_8 rfl (lv_at hl 1 rfl) ?_
      refine lv_icmp_ge (tgt := 58) hx hb dX3_isTurn_9 (by decide) (fun c_9 => ?_) (fun c_9 => ?_)
      · skip
        have hke_6 : k = p0.toNatClampNeg := lp_end hp c_9 hk_6 (by omega)
        rw [hke_6] at hl
        refine lv_iload hx hb dX3_isTurn_58 (lv_at hl 4 rfl) ?_
        refine lv_iconst (v := -1) hx hb dX3_isTurn_60 (by decide) ?_
        refine lv_icmp_eq (tgt := 79) hx hb dX3_isTurn_61 (by decide) (fun c_61 => ?_) (fun c_61 => ?_)
        · skip
          refine lv_iconst (v := 0) hx hb dX3_isTurn_79 (by decide) ?_
          exact pu_zret hx hb hr hlocks dX3_isTurn_80 (bI_nar _) (bI_eq (a := false) (Eq.symm (Eq.trans (if_pos c_61) (rfl))))
        · skip
          refine lv_aload_n hx hb dX3_isTurn_64 rfl (lv_at hl 0 rfl) ?_
          refine va_get (D := D) (ci := 3) (v := .ref (am 3)) (C := RX3) (T := TX3) (N := 19) hx hb hts hin3 hown hK hP 0 rfl rfl 3 (by decide) (hts (.fieldLink RX3 13 "CartelWatchModel" "winner" "[I") (by decide +kernel)) (fun _ h9 => h9) rfl dX3_isTurn_65 ?_
          refine lv_iload hx hb dX3_isTurn_68 (lv_at hl 4 rfl) ?_
          refine va_iald hx hb hK hP 2 0 (cA := K 0) rfl rfl (isTurn_ix hp30 c_61) dX3_isTurn_70 ?_
          refine lv_iload_n hx hb dX3_isTurn_71 rfl (lv_at hl 3 rfl) ?_
          refine W.eq (g2 := F0 m 72 ls [.int p2, .int ((M 3) ((sp_X3_isTurn_L6 M p1 p2 p0.toNatClampNeg).toNatClampNeg))]) rfl ?_
          refine lv_icmp_ne (tgt := 79) hx hb dX3_isTurn_72 (by decide) (fun c_72 => ?_) (fun c_72 => ?_)
          · skip
            refine lv_iconst (v := 0) hx hb dX3_isTurn_79 (by decide) ?_
            exact pu_zret hx hb hr hlocks dX3_isTurn_80 (bI_nar _) (bI_eq (a := false) (Eq.symm (Eq.trans (if_neg c_61) (Eq.trans (if_neg c_72) (rfl)))))
          · skip
            refine lv_iconst (v := 1) hx hb dX3_isTurn_75 (by decide) ?_
            refine lv_goto (tgt := 80) hx hb dX3_isTurn_76 (by decide) ?_
            exact pu_zret hx hb hr hlocks dX3_isTurn_80 (bI_nar _) (bI_eq (a := true) (Eq.symm (Eq.trans (if_neg c_61) (Eq.trans (if_pos c_72) (rfl)))))
      · skip
        have hlt_6 : k < p0.toNatClampNeg := lp_in hp c_9 hk_6 (by omega)
        refine lv_aload_n hx hb dX3_isTurn_12 rfl (lv_at hl 0 rfl) ?_
        refine W.eq (g2 := F0 m 13 ls [.ref (am 0)]) rfl ?_
        refine va_get (D := D) (ci := 3) (v := .ref (am 2)) (C := RX3) (T := TX3) (N := 19) hx hb hts hin3 hown hK hP 0 rfl rfl 2 (by decide) (hts (.fieldLink RX3 7 "CartelWatchModel" "state" "[I") (by decide +kernel)) (fun _ h9 => h9) rfl dX3_isTurn_13 ?_
        refine lv_iload hx hb dX3_isTurn_16 (lv_at hl 5 rfl) ?_
        refine va_iald hx hb hK hP 1 0 (cA := K 0) rfl rfl ((vp_in_nI (Nat.lt_of_lt_of_le hlt_6 hp30) (by decide))) dX3_isTurn_18 ?_
        refine lv_iconst (v := 1) hx hb dX3_isTurn_19 (by decide) ?_
        refine lv_icmp_ne (tgt := 48) hx hb dX3_isTurn_20 (by decide) (fun c_20 => ?_) (fun c_20 => ?_)
        · skip
          refine lv_iload hx hb dX3_isTurn_48 (lv_at hl 4 rfl) ?_
          refine lv_istore (lv' := [(4, .int (sp_X3_isTurn_L6 M p1 p2 k)), (0, .ref (am 0)), (1, .int p0), (2, .int p1), (3, .int p2), (5, .int (nI k))]) hx hb dX3_isTurn_50 hl (by decide) rfl (fun ls hl => ?_)
          refine lv_iinc (v := (nI k) + 1) (lv' := [(5, .int ((nI k) + 1)), (4, .int (sp_X3_isTurn_L6 M p1 p2 k)), (0, .ref (am 0)), (1, .int p0), (2, .int p1), (3, .int p2)]) hx hb dX3_isTurn_52 hl (k := 5) rfl (rfl) (by decide) rfl (fun ls hl => ?_)
          refine lv_goto (tgt := 6) hx hb dX3_isTurn_55 (by decide) ?_
          exact ih_6 (k + 1) hlt_6 (by omega) _ _ ls (Eq.symm (Eq.trans (if_neg c_20) (rfl))) (nI_1 k) (lv_sub hl [2, 3, 4, 5, 1, 0] rfl)
        · skip
          refine lv_aload_n hx hb dX3_isTurn_23 rfl (lv_at hl 0 rfl) ?_
          refine lv_iload hx hb dX3_isTurn_24 (lv_at hl 5 rfl) ?_
          refine lv_iload_n hx hb dX3_isTurn_26 rfl (lv_at hl 2 rfl) ?_
          refine W.eq (g2 := F0 m 27 ls [.int p1, .int (nI k), .ref (am 0)]) rfl ?_
          refine pu_V (As := [.int (nI k), .int p1]) (rest := []) hc (c_X3_stands l D K am th M (nI k) p1 (vp_in_nI (Nat.lt_of_lt_of_le hlt_6 hp30) (by decide)) hb1) (cwV 2 hts gX3_isTurn_X3_stands rfl rfl rfl (by decide +kernel) ⟨Nat.le_of_ble_eq_true rfl, Nat.le_of_ble_eq_true rfl⟩) hP hK hE (va_recv hK hP (ci := 3) (q0 := 0) rfl rfl) rfl rfl hl.1 (Nat.le_of_ble_eq_true rfl) dX3_isTurn_27 ⟨Nat.le_of_ble_eq_true rfl, Nat.le_of_ble_eq_true rfl⟩ ?_
          refine lb_eq (tgt := 48) hx hb dX3_isTurn_30 (by decide) (fun c_30 => ?_) (fun c_30 => ?_)
          · skip
            refine lv_iload hx hb dX3_isTurn_48 (lv_at hl 4 rfl) ?_
            refine lv_istore (lv' := [(4, .int (sp_X3_isTurn_L6 M p1 p2 k)), (0, .ref (am 0)), (1, .int p0), (2, .int p1), (3, .int p2), (5, .int (nI k))]) hx hb dX3_isTurn_50 hl (by decide) rfl (fun ls hl => ?_)
            refine lv_iinc (v := (nI k) + 1) (lv' := [(5, .int ((nI k) + 1)), (4, .int (sp_X3_isTurn_L6 M p1 p2 k)), (0, .ref (am 0)), (1, .int p0), (2, .int p1), (3, .int p2)]) hx hb dX3_isTurn_52 hl (k := 5) rfl (rfl) (by decide) rfl (fun ls hl => ?_)
            refine lv_goto (tgt := 6) hx hb dX3_isTurn_55 (by decide) ?_
            exact ih_6 (k + 1) hlt_6 (by omega) _ _ ls (Eq.symm (Eq.trans (if_pos c_20) (Eq.trans (if_neg (ntr c_30)) (rfl)))) (nI_1 k) (lv_sub hl [2, 3, 4, 5, 1, 0] rfl)
          · skip
            refine lv_aload_n hx hb dX3_isTurn_33 rfl (lv_at hl 0 rfl) ?_
            refine lv_iload hx hb dX3_isTurn_34 (lv_at hl 5 rfl) ?_
            refine lv_iload_n hx hb dX3_isTurn_36 rfl (lv_at hl 3 rfl) ?_
            refine pu_V (As := [.int (nI k), .int p2]) (rest := []) hc (c_X3_stands l D K am th M (nI k) p2 (vp_in_nI (Nat.lt_of_lt_of_le hlt_6 hp30) (by decide)) hb2) (cwV 2 hts gX3_isTurn_X3_stands rfl rfl rfl (by decide +kernel) ⟨Nat.le_of_ble_eq_true rfl, Nat.le_of_ble_eq_true rfl⟩) hP hK hE (va_recv hK hP (ci := 3) (q0 := 0) rfl rfl) rfl rfl hl.1 (Nat.le_of_ble_eq_true rfl) dX3_isTurn_37 ⟨Nat.le_of_ble_eq_true rfl, Nat.le_of_ble_eq_true rfl⟩ ?_
            refine lb_eq (tgt := 48) hx hb dX3_isTurn_40 (by decide) (fun c_40 => ?_) (fun c_40 => ?_)
            · skip
              refine lv_iload hx hb dX3_isTurn_48 (lv_at hl 4 rfl) ?_
              refine lv_istore (lv' := [(4, .int (sp_X3_isTurn_L6 M p1 p2 k)), (0, .ref (am 0)), (1, .int p0), (2, .int p1), (3, .int p2), (5, .int (nI k))]) hx hb dX3_isTurn_50 hl (by decide) rfl (fun ls hl => ?_)
              refine lv_iinc (v := (nI k) + 1) (lv' := [(5, .int ((nI k) + 1)), (4, .int (sp_X3_isTurn_L6 M p1 p2 k)), (0, .ref (am 0)), (1, .int p0), (2, .int p1), (3, .int p2)]) hx hb dX3_isTurn_52 hl (k := 5) rfl (rfl) (by decide) rfl (fun ls hl => ?_)
              refine lv_goto (tgt := 6) hx hb dX3_isTurn_55 (by decide) ?_
              exact ih_6 (k + 1) hlt_6 (by omega) _ _ ls (Eq.symm (Eq.trans (if_pos c_20) (Eq.trans (if_pos c_30) (Eq.trans (if_neg (ntr c_40)) (rfl))))) (nI_1 k) (lv_sub hl [2, 3, 4, 5, 1, 0] rfl)
            · skip
              refine lv_iload hx hb dX3_isTurn_43 (lv_at hl 5 rfl) ?_
              refine W.eq (g2 := F0 m 45 ls [.int (nI k)]) rfl ?_
              refine lv_goto (tgt := 50) hx hb dX3_isTurn_45 (by decide) ?_
              refine lv_istore (lv' := [(4, .int (nI k)), (0, .ref (am 0)), (1, .int p0), (2, .int p1), (3, .int p2), (5, .int (nI k))]) hx hb dX3_isTurn_50 hl (by decide) rfl (fun ls hl => ?_)
              refine lv_iinc (v := (nI k) + 1) (lv' := [(5, .int ((nI k) + 1)), (4, .int (nI k)), (0, .ref (am 0)), (1, .int p0), (2, .int p1), (3, .int p2)]) hx hb dX3_isTurn_52 hl (k := 5) rfl (rfl) (by decide) rfl (fun ls hl => ?_)
              refine lv_goto (tgt := 6) hx hb dX3_isTurn_55 (by decide) ?_
              exact ih_6 (k + 1) hlt_6 (by omega) _ _ ls (Eq.symm (Eq.trans (if_pos c_20) (Eq.trans (if_pos c_30) (Eq.trans (if_pos c_40) (rfl))))) (nI_1 k) (lv_sub hl [2, 3, 4, 5, 1, 0] rfl)
  exact hloop_6 (p0.toNatClampNeg + 1) 0 (Nat.zero_le _) (by omega) _ _ ls rfl nI_0.symm (lv_sub hl [2, 3, 4, 5, 1, 0] rfl)

def sp_X3_signOf_j88s0 (M : Nat → Nat → Int32) (p0 : Int32) (p2 : Int32) : Int32 := if sp_X3_stands M p0 p2 = true then (if (((M 6) (((7 * p0) + p2).toNatClampNeg)) - (sp_X3_price M p0)) ≤ 0 then 0 else (if (((sp_X3_price M p0) * 5) / 100) < (((M 6) (((7 * p0) + p2).toNatClampNeg)) - (sp_X3_price M p0)) then 0 else 2)) else 0
def sp_X3_signOf_j128s0 (M : Nat → Nat → Int32) (p0 : Int32) (p2 : Int32) : Int32 := if ((M 4) p0.toNatClampNeg) = p2 then (if ((M 6) (((7 * p0) + p2).toNatClampNeg)) ≤ 0 then 0 else 3) else 0
def sp_X3_signOf_j158s0 (M : Nat → Nat → Int32) (p0 : Int32) (p2 : Int32) : Int32 := if ((M 7) (((7 * p0) + p2).toNatClampNeg)) = 0 then 0 else 1
def sp_X3_signOf_j173s0 (M : Nat → Nat → Int32) (p0 : Int32) (p2 : Int32) : Int32 := if sp_X3_stands M p0 p2 = true then (if sp_X3_isTurn M p0 ((M 3) p0.toNatClampNeg) p2 = true then 4 else 0) else 0
def sp_X3_signOf_j88s0_1 (M : Nat → Nat → Int32) (p0 : Int32) (p1 : Int32) : Int32 := if sp_X3_stands M p0 p1 = true then (if (((M 6) (((7 * p0) + p1).toNatClampNeg)) - (sp_X3_price M p0)) ≤ 0 then 0 else (if (((sp_X3_price M p0) * 5) / 100) < (((M 6) (((7 * p0) + p1).toNatClampNeg)) - (sp_X3_price M p0)) then 0 else 2)) else 0
def sp_X3_signOf_j128s0_1 (M : Nat → Nat → Int32) (p0 : Int32) (p1 : Int32) : Int32 := if ((M 4) p0.toNatClampNeg) = p1 then (if ((M 6) (((7 * p0) + p1).toNatClampNeg)) ≤ 0 then 0 else 3) else 0
def sp_X3_signOf_j158s0_1 (M : Nat → Nat → Int32) (p0 : Int32) (p1 : Int32) : Int32 := if ((M 7) (((7 * p0) + p1).toNatClampNeg)) = 0 then 0 else 1
def sp_X3_signOf_j173s0_1 (M : Nat → Nat → Int32) (p0 : Int32) (p1 : Int32) : Int32 := if sp_X3_stands M p0 p1 = true then (if sp_X3_isTurn M p0 ((M 3) p0.toNatClampNeg) p1 = true then 4 else 0) else 0
def sp_X3_signOf (M : Nat → Nat → Int32) (p0 : Int32) (p1 : Int32) (p2 : Int32) : Int32 := if ((M 2) p0.toNatClampNeg) = 1 then (if ((M 3) p0.toNatClampNeg) = p1 then ((((sp_X3_signOf_j88s0 M p0 p2) + (sp_X3_signOf_j128s0 M p0 p2)) + (sp_X3_signOf_j158s0 M p0 p2)) + (sp_X3_signOf_j173s0 M p0 p2)) else (if ((M 3) p0.toNatClampNeg) = p2 then ((((sp_X3_signOf_j88s0_1 M p0 p1) + (sp_X3_signOf_j128s0_1 M p0 p1)) + (sp_X3_signOf_j158s0_1 M p0 p1)) + (sp_X3_signOf_j173s0_1 M p0 p1)) else 0)) else 0
set_option maxHeartbeats 4000000 in
set_option maxRecDepth 100000 in
theorem c_X3_signOf (l : Launch) (D : va_G) (K : Nat → ClassId) (am : Nat → Nat) (th : Int32) (M : Nat → Nat → Int32) (n nf : Nat) (p0 p1 p2 : Int32) (hM : MOK M n nf) (ht : vp_in p0 30) (hb1 : vp_in p1 7) (hb2 : vp_in p2 7) : PU l yX3_signOf wsX3_signOf 2 47 D K [.ref (am 0), .int p0, .int p1, .int p2] (fun H => va_P D vwCl (mW K am th M) H) (.int (sp_X3_signOf M p0 p1 p2)) := by
  refine Met.ofW (cc := cX3_signOf) (maxL := 10) (ret := (some .int)) (by decide) rfl ?_
  intro p e s m args below meth c s₁ B hml hv
  obtain ⟨rfl, hP, hK, hE⟩ := hv
  have hx := B.exec
  have hb := B.bytes
  have hr := B.returns
  have hts := atoms_spec (ws := wsX3_signOf) B.pre
  have hown : s.vm.findClass RX3 = some m.cls := findClass_of_methodNamed B.named
  have hlocks := B.notSynchronized
  have hc : CallFix p m c cX3_signOf 10 s ([.ref (am 0), .int p0, .int p1, .int p2] : List Value).toArray wsX3_signOf RX3 := ⟨hx, hb, hml, hown, hts⟩
  have hin3 : ∀ w ∈ u_ws RX3 TX3 19, w ∈ wsX3_signOf := by decide +kernel
  have hP : va_P D vwCl (mW K am th M) s.heap := hP
  obtain ⟨hn, hn30, hf, hf20, hI, hJ⟩ := id hM
  have hl := lv_entry ([.ref (am 0), .int p0, .int p1, .int p2]) (n := 10) (Nat.le_of_ble_eq_true rfl)
  rw [lg_entry_eq]
  generalize (lg_sl ([.ref (am 0), .int p0, .int p1, .int p2]) ++ List.replicate (10 - (lg_sl ([.ref (am 0), .int p0, .int p1, .int p2])).length) Slot.unset).toArray = ls at hl ⊢
  have hl : lv_has ls 10 [(0, .ref (am 0)), (1, .int p0), (2, .int p1), (3, .int p2)] := hl
  refine lv_aload_n hx hb dX3_signOf_0 rfl (lv_at hl 0 rfl) ?_
  refine va_get (D := D) (ci := 3) (v := .ref (am 2)) (C := RX3) (T := TX3) (N := 19) hx hb hts hin3 hown hK hP 0 rfl rfl 2 (by decide) (hts (.fieldLink RX3 7 "CartelWatchModel" "state" "[I") (by decide +kernel)) (fun _ h9 => h9) rfl dX3_signOf_1 ?_
  refine lv_iload_n hx hb dX3_signOf_4 rfl (lv_at hl 1 rfl) ?_
  refine va_iald hx hb hK hP 1 0 (cA := K 0) rfl rfl (ht) dX3_signOf_5 ?_
  refine lv_iconst (v := 1) hx hb dX3_signOf_6 (by decide) ?_
  refine lv_icmp_ne (tgt := 30) hx hb dX3_signOf_7 (by decide) (fun c_7 => ?_) (fun c_7 => ?_)
  · skip
    refine lv_iconst (v := 0) hx hb dX3_signOf_30 (by decide) ?_
    exact pu_iret hx hb hr hlocks dX3_signOf_31 (Eq.symm (Eq.trans (if_neg c_7) (rfl)))
  · skip
    refine lv_aload_n hx hb dX3_signOf_10 rfl (lv_at hl 0 rfl) ?_
    refine va_get (D := D) (ci := 3) (v := .ref (am 3)) (C := RX3) (T := TX3) (N := 19) hx hb hts hin3 hown hK hP 0 rfl rfl 3 (by decide) (hts (.fieldLink RX3 13 "CartelWatchModel" "winner" "[I") (by decide +kernel)) (fun _ h9 => h9) rfl dX3_signOf_11 ?_
    refine W.eq (g2 := F0 m 14 ls [.ref (am 3)]) rfl ?_
    refine lv_iload_n hx hb dX3_signOf_14 rfl (lv_at hl 1 rfl) ?_
    refine va_iald hx hb hK hP 2 0 (cA := K 0) rfl rfl (ht) dX3_signOf_15 ?_
    refine lv_iload_n hx hb dX3_signOf_16 rfl (lv_at hl 2 rfl) ?_
    refine lv_icmp_eq (tgt := 32) hx hb dX3_signOf_17 (by decide) (fun c_17 => ?_) (fun c_17 => ?_)
    · skip
      refine lv_aload_n hx hb dX3_signOf_32 rfl (lv_at hl 0 rfl) ?_
      refine va_get (D := D) (ci := 3) (v := .ref (am 3)) (C := RX3) (T := TX3) (N := 19) hx hb hts hin3 hown hK hP 0 rfl rfl 3 (by decide) (hts (.fieldLink RX3 13 "CartelWatchModel" "winner" "[I") (by decide +kernel)) (fun _ h9 => h9) rfl dX3_signOf_33 ?_
      refine lv_iload_n hx hb dX3_signOf_36 rfl (lv_at hl 1 rfl) ?_
      refine va_iald hx hb hK hP 2 0 (cA := K 0) rfl rfl (ht) dX3_signOf_37 ?_
      refine lv_istore (lv' := [(4, .int ((M 3) p0.toNatClampNeg)), (0, .ref (am 0)), (1, .int p0), (2, .int p1), (3, .int p2)]) hx hb dX3_signOf_38 hl (by decide) rfl (fun ls hl => ?_)
      refine lv_iload hx hb dX3_signOf_40 (lv_at hl 0 rfl) ?_
      refine lv_iload_n hx hb dX3_signOf_42 rfl (lv_at hl 3 rfl) ?_
      have hj_43 : ∀ (ls : Array Slot), lv_has ls 10 [(0, .ref (am 0)), (1, .int p0), (2, .int p1), (3, .int p2), (4, .int ((M 3) p0.toNatClampNeg))] → W p l e ({ frames := 2, cells := 0, slots := 0, locals := 47 } : Room) s m ([.ref (am 0), .int p0, .int p1, .int p2] : List Value).toArray below meth c s.heap [] 0 0 (MQ below (QcV (.int (sp_X3_signOf M p0 p1 p2))) ([.ref (am 0), .int p0, .int p1, .int p2] : List Value).toArray s 0 0 (fun _ => False)) (F0 m 51 ls [.int p2]) := by
        intro ls hl
        refine lv_istore (lv' := [(5, .int p2), (0, .ref (am 0)), (1, .int p0), (2, .int p1), (3, .int p2), (4, .int ((M 3) p0.toNatClampNeg))]) hx hb dX3_signOf_51 hl (by decide) rfl (fun ls hl => ?_)
        refine lv_bipush (v := 7) hx hb dX3_signOf_53 (by decide) ?_
        refine lv_iload_n hx hb dX3_signOf_55 rfl (lv_at hl 2 rfl) ?_
        refine lv_imul hx hb dX3_signOf_56 ?_
        refine lv_iload hx hb dX3_signOf_57 (lv_at hl 0 rfl) ?_
        refine lv_iadd hx hb dX3_signOf_59 ?_
        refine lv_istore (lv' := [(6, .int ((7 * p0) + p2)), (5, .int p2), (0, .ref (am 0)), (1, .int p0), (2, .int p1), (3, .int p2), (4, .int ((M 3) p0.toNatClampNeg))]) hx hb dX3_signOf_60 hl (by decide) rfl (fun ls hl => ?_)
        refine lv_aload_n hx hb dX3_signOf_62 rfl (lv_at hl 2 rfl) ?_
        refine W.eq (g2 := F0 m 63 ls [.ref (am 0)]) rfl ?_
        refine va_get (D := D) (ci := 3) (v := .ref (am 6)) (C := RX3) (T := TX3) (N := 19) hx hb hts hin3 hown hK hP 0 rfl rfl 6 (by decide) (hts (.fieldLink RX3 22 "CartelWatchModel" "sum" "[I") (by decide +kernel)) (fun _ h9 => h9) rfl dX3_signOf_63 ?_
        refine lv_iload hx hb dX3_signOf_66 (lv_at hl 0 rfl) ?_
        refine va_iald hx hb hK hP 5 0 (cA := K 0) rfl rfl (by first | exact ix7 ht hb1 | exact ix7 ht hb2) dX3_signOf_68 ?_
        refine lv_aload_n hx hb dX3_signOf_69 rfl (lv_at hl 2 rfl) ?_
        refine lv_iload_n hx hb dX3_signOf_70 rfl (lv_at hl 3 rfl) ?_
        refine pu_V (As := [.int p0]) (rest := [.int ((M 6) (((7 * p0) + p2).toNatClampNeg))]) hc (c_X3_price l D K am th M p0 ht (hI_x hI ht c_7)) (cwV 1 hts gX3_signOf_X3_price rfl rfl rfl (by decide +kernel) ⟨Nat.le_of_ble_eq_true rfl, Nat.le_of_ble_eq_true rfl⟩) hP hK hE (va_recv hK hP (ci := 3) (q0 := 0) rfl rfl) rfl rfl hl.1 (Nat.le_of_ble_eq_true rfl) dX3_signOf_71 ⟨Nat.le_of_ble_eq_true rfl, Nat.le_of_ble_eq_true rfl⟩ ?_
        refine lv_isub hx hb dX3_signOf_74 ?_
        refine lv_istore (lv' := [(7, .int (((M 6) (((7 * p0) + p2).toNatClampNeg)) - (sp_X3_price M p0))), (6, .int ((7 * p0) + p2)), (5, .int p2), (0, .ref (am 0)), (1, .int p0), (2, .int p1), (3, .int p2), (4, .int ((M 3) p0.toNatClampNeg))]) hx hb dX3_signOf_75 hl (by decide) rfl (fun ls hl => ?_)
        refine W.eq (g2 := F0 m 77 ls []) rfl ?_
        refine lv_aload_n hx hb dX3_signOf_77 rfl (lv_at hl 3 rfl) ?_
        refine lv_iload_n hx hb dX3_signOf_78 rfl (lv_at hl 4 rfl) ?_
        refine lv_iload hx hb dX3_signOf_79 (lv_at hl 2 rfl) ?_
        refine pu_V (As := [.int p0, .int p2]) (rest := []) hc (c_X3_stands l D K am th M p0 p2 ht (by assumption)) (cwV 2 hts gX3_signOf_X3_stands rfl rfl rfl (by decide +kernel) ⟨Nat.le_of_ble_eq_true rfl, Nat.le_of_ble_eq_true rfl⟩) hP hK hE (va_recv hK hP (ci := 3) (q0 := 0) rfl rfl) rfl rfl hl.1 (Nat.le_of_ble_eq_true rfl) dX3_signOf_81 ⟨Nat.le_of_ble_eq_true rfl, Nat.le_of_ble_eq_true rfl⟩ ?_
        refine lv_istore (lv' := [(8, .int (bI (sp_X3_stands M p0 p2))), (7, .int (((M 6) (((7 * p0) + p2).toNatClampNeg)) - (sp_X3_price M p0))), (6, .int ((7 * p0) + p2)), (5, .int p2), (0, .ref (am 0)), (1, .int p0), (2, .int p1), (3, .int p2), (4, .int ((M 3) p0.toNatClampNeg))]) hx hb dX3_signOf_84 hl (by decide) rfl (fun ls hl => ?_)
        refine lv_iload hx hb dX3_signOf_86 (lv_at hl 0 rfl) ?_
        have hj_88 : ∀ (v88_0 : Int32) (ls : Array Slot), v88_0 = sp_X3_signOf_j88s0 M p0 p2 → lv_has ls 10 [(0, .ref (am 0)), (1, .int p0), (2, .int p1), (3, .int p2), (4, .int ((M 3) p0.toNatClampNeg)), (5, .int p2), (6, .int ((7 * p0) + p2)), (7, .int (((M 6) (((7 * p0) + p2).toNatClampNeg)) - (sp_X3_price M p0))), (8, .int (bI (sp_X3_stands M p0 p2)))] → W p l e ({ frames := 2, cells := 0, slots := 0, locals := 47 } : Room) s m ([.ref (am 0), .int p0, .int p1, .int p2] : List Value).toArray below meth c s.heap [] 0 0 (MQ below (QcV (.int (sp_X3_signOf M p0 p1 p2))) ([.ref (am 0), .int p0, .int p1, .int p2] : List Value).toArray s 0 0 (fun _ => False)) (F0 m 116 ls [.int v88_0]) := by
          intro v88_0 ls ev88_0 hl
          subst ev88_0
          refine lv_istore (lv' := [(9, .int (sp_X3_signOf_j88s0 M p0 p2)), (0, .ref (am 0)), (1, .int p0), (2, .int p1), (3, .int p2), (4, .int ((M 3) p0.toNatClampNeg)), (5, .int p2), (6, .int ((7 * p0) + p2)), (7, .int (((M 6) (((7 * p0) + p2).toNatClampNeg)) - (sp_X3_price M p0))), (8, .int (bI (sp_X3_stands M p0 p2)))]) hx hb dX3_signOf_116 hl (by decide) rfl (fun ls hl => ?_)
          refine lv_iload hx hb dX3_signOf_118 (lv_at hl 0 rfl) ?_
          refine lv_aload_n hx hb dX3_signOf_120 rfl (lv_at hl 1 rfl) ?_
          refine va_get (D := D) (ci := 3) (v := .ref (am 4)) (C := RX3) (T := TX3) (N := 19) hx hb hts hin3 hown hK hP 0 rfl rfl 4 (by decide) (hts (.fieldLink RX3 16 "CartelWatchModel" "passed" "[I") (by decide +kernel)) (fun _ h9 => h9) rfl dX3_signOf_121 ?_
          refine lv_iload_n hx hb dX3_signOf_124 rfl (lv_at hl 2 rfl) ?_
          refine va_iald hx hb hK hP 3 0 (cA := K 0) rfl rfl (ht) dX3_signOf_125 ?_
          refine lv_iload hx hb dX3_signOf_126 (lv_at hl 6 rfl) ?_
          have hj_128 : ∀ (v128_0 : Int32) (ls : Array Slot), v128_0 = sp_X3_signOf_j128s0 M p0 p2 → lv_has ls 10 [(0, .ref (am 0)), (1, .int p0), (2, .int p1), (3, .int p2), (4, .int ((M 3) p0.toNatClampNeg)), (5, .int p2), (6, .int ((7 * p0) + p2)), (7, .int (((M 6) (((7 * p0) + p2).toNatClampNeg)) - (sp_X3_price M p0))), (8, .int (bI (sp_X3_stands M p0 p2))), (9, .int (sp_X3_signOf_j88s0 M p0 p2))] → W p l e ({ frames := 2, cells := 0, slots := 0, locals := 47 } : Room) s m ([.ref (am 0), .int p0, .int p1, .int p2] : List Value).toArray below meth c s.heap [] 0 0 (MQ below (QcV (.int (sp_X3_signOf M p0 p1 p2))) ([.ref (am 0), .int p0, .int p1, .int p2] : List Value).toArray s 0 0 (fun _ => False)) (F0 m 146 ls [.int v128_0, .int (sp_X3_signOf_j88s0 M p0 p2)]) := by
            intro v128_0 ls ev128_0 hl
            subst ev128_0
            refine lv_iadd hx hb dX3_signOf_146 ?_
            refine lv_istore (lv' := [(9, .int ((sp_X3_signOf_j88s0 M p0 p2) + (sp_X3_signOf_j128s0 M p0 p2))), (0, .ref (am 0)), (1, .int p0), (2, .int p1), (3, .int p2), (4, .int ((M 3) p0.toNatClampNeg)), (5, .int p2), (6, .int ((7 * p0) + p2)), (7, .int (((M 6) (((7 * p0) + p2).toNatClampNeg)) - (sp_X3_price M p0))), (8, .int (bI (sp_X3_stands M p0 p2)))]) hx hb dX3_signOf_147 hl (by decide) rfl (fun ls hl => ?_)
            refine lv_iload hx hb dX3_signOf_149 (lv_at hl 0 rfl) ?_
            refine lv_aload_n hx hb dX3_signOf_151 rfl (lv_at hl 1 rfl) ?_
            refine va_get (D := D) (ci := 3) (v := .ref (am 7)) (C := RX3) (T := TX3) (N := 19) hx hb hts hin3 hown hK hP 0 rfl rfl 7 (by decide) (hts (.fieldLink RX3 25 "CartelWatchModel" "gone" "[Z") (by decide +kernel)) (fun _ h9 => h9) rfl dX3_signOf_152 ?_
            refine lv_iload hx hb dX3_signOf_155 (lv_at hl 7 rfl) ?_
            refine va_zald hx hb hK hP 6 1 (cA := K 1) rfl rfl (by first | exact ix7 ht hb1 | exact ix7 ht hb2) dX3_signOf_157 ?_
            have hj_158 : ∀ (v158_0 : Int32) (ls : Array Slot), v158_0 = sp_X3_signOf_j158s0 M p0 p2 → lv_has ls 10 [(0, .ref (am 0)), (1, .int p0), (2, .int p1), (3, .int p2), (4, .int ((M 3) p0.toNatClampNeg)), (5, .int p2), (6, .int ((7 * p0) + p2)), (7, .int (((M 6) (((7 * p0) + p2).toNatClampNeg)) - (sp_X3_price M p0))), (8, .int (bI (sp_X3_stands M p0 p2))), (9, .int ((sp_X3_signOf_j88s0 M p0 p2) + (sp_X3_signOf_j128s0 M p0 p2)))] → W p l e ({ frames := 2, cells := 0, slots := 0, locals := 47 } : Room) s m ([.ref (am 0), .int p0, .int p1, .int p2] : List Value).toArray below meth c s.heap [] 0 0 (MQ below (QcV (.int (sp_X3_signOf M p0 p1 p2))) ([.ref (am 0), .int p0, .int p1, .int p2] : List Value).toArray s 0 0 (fun _ => False)) (F0 m 166 ls [.int v158_0, .int ((sp_X3_signOf_j88s0 M p0 p2) + (sp_X3_signOf_j128s0 M p0 p2))]) := by
              intro v158_0 ls ev158_0 hl
              subst ev158_0
              refine lv_iadd hx hb dX3_signOf_166 ?_
              refine lv_istore (lv' := [(9, .int (((sp_X3_signOf_j88s0 M p0 p2) + (sp_X3_signOf_j128s0 M p0 p2)) + (sp_X3_signOf_j158s0 M p0 p2))), (0, .ref (am 0)), (1, .int p0), (2, .int p1), (3, .int p2), (4, .int ((M 3) p0.toNatClampNeg)), (5, .int p2), (6, .int ((7 * p0) + p2)), (7, .int (((M 6) (((7 * p0) + p2).toNatClampNeg)) - (sp_X3_price M p0))), (8, .int (bI (sp_X3_stands M p0 p2)))]) hx hb dX3_signOf_167 hl (by decide) rfl (fun ls hl => ?_)
              refine lv_iload hx hb dX3_signOf_169 (lv_at hl 0 rfl) ?_
              refine lv_iload hx hb dX3_signOf_171 (lv_at hl 9 rfl) ?_
              have hj_173 : ∀ (v173_0 : Int32) (ls : Array Slot), v173_0 = sp_X3_signOf_j173s0 M p0 p2 → lv_has ls 10 [(0, .ref (am 0)), (1, .int p0), (2, .int p1), (3, .int p2), (4, .int ((M 3) p0.toNatClampNeg)), (5, .int p2), (6, .int ((7 * p0) + p2)), (7, .int (((M 6) (((7 * p0) + p2).toNatClampNeg)) - (sp_X3_price M p0))), (8, .int (bI (sp_X3_stands M p0 p2))), (9, .int (((sp_X3_signOf_j88s0 M p0 p2) + (sp_X3_signOf_j128s0 M p0 p2)) + (sp_X3_signOf_j158s0 M p0 p2)))] → W p l e ({ frames := 2, cells := 0, slots := 0, locals := 47 } : Room) s m ([.ref (am 0), .int p0, .int p1, .int p2] : List Value).toArray below meth c s.heap [] 0 0 (MQ below (QcV (.int (sp_X3_signOf M p0 p1 p2))) ([.ref (am 0), .int p0, .int p1, .int p2] : List Value).toArray s 0 0 (fun _ => False)) (F0 m 193 ls [.int v173_0, .int (((sp_X3_signOf_j88s0 M p0 p2) + (sp_X3_signOf_j128s0 M p0 p2)) + (sp_X3_signOf_j158s0 M p0 p2))]) := by
                intro v173_0 ls ev173_0 hl
                subst ev173_0
                refine lv_iadd hx hb dX3_signOf_193 ?_
                refine lv_istore (lv' := [(9, .int ((((sp_X3_signOf_j88s0 M p0 p2) + (sp_X3_signOf_j128s0 M p0 p2)) + (sp_X3_signOf_j158s0 M p0 p2)) + (sp_X3_signOf_j173s0 M p0 p2))), (0, .ref (am 0)), (1, .int p0), (2, .int p1), (3, .int p2), (4, .int ((M 3) p0.toNatClampNeg)), (5, .int p2), (6, .int ((7 * p0) + p2)), (7, .int (((M 6) (((7 * p0) + p2).toNatClampNeg)) - (sp_X3_price M p0))), (8, .int (bI (sp_X3_stands M p0 p2)))]) hx hb dX3_signOf_194 hl (by decide) rfl (fun ls hl => ?_)
                refine lv_iload hx hb dX3_signOf_196 (lv_at hl 0 rfl) ?_
                exact pu_iret hx hb hr hlocks dX3_signOf_198 (Eq.symm (Eq.trans (if_pos c_7) (Eq.trans (if_pos c_17) (rfl))))
              refine lb_eq (tgt := 192) hx hb dX3_signOf_173 (by decide) (fun c_173 => ?_) (fun c_173 => ?_)
              · skip
                refine lv_iconst (v := 0) hx hb dX3_signOf_192 (by decide) ?_
                exact hj_173 _ ls (Eq.symm (Eq.trans (if_neg (ntr c_173)) (rfl))) (lv_sub hl [1, 2, 3, 4, 5, 6, 7, 8, 9, 0] rfl)
              · skip
                refine lv_aload_n hx hb dX3_signOf_176 rfl (lv_at hl 1 rfl) ?_
                refine lv_iload_n hx hb dX3_signOf_177 rfl (lv_at hl 2 rfl) ?_
                refine lv_iload hx hb dX3_signOf_178 (lv_at hl 5 rfl) ?_
                refine lv_iload hx hb dX3_signOf_180 (lv_at hl 6 rfl) ?_
                refine pu_V (As := [.int p0, .int ((M 3) p0.toNatClampNeg), .int p2]) (rest := [.int (((sp_X3_signOf_j88s0 M p0 p2) + (sp_X3_signOf_j128s0 M p0 p2)) + (sp_X3_signOf_j158s0 M p0 p2))]) hc (c_X3_isTurn l D K am th M p0 ((M 3) p0.toNatClampNeg) p2 (vin_eq ht) (Nat.le_of_lt (vin_lt ht)) (hI_x hI ht c_7) (by assumption)) (cwV 3 hts gX3_signOf_X3_isTurn rfl rfl rfl (by decide +kernel) ⟨Nat.le_of_ble_eq_true rfl, Nat.le_of_ble_eq_true rfl⟩) hP hK hE (va_recv hK hP (ci := 3) (q0 := 0) rfl rfl) rfl rfl hl.1 (Nat.le_of_ble_eq_true rfl) dX3_signOf_182 ⟨Nat.le_of_ble_eq_true rfl, Nat.le_of_ble_eq_true rfl⟩ ?_
                refine lb_eq (tgt := 192) hx hb dX3_signOf_185 (by decide) (fun c_185 => ?_) (fun c_185 => ?_)
                · skip
                  refine lv_iconst (v := 0) hx hb dX3_signOf_192 (by decide) ?_
                  exact hj_173 _ ls (Eq.symm (Eq.trans (if_pos c_173) (Eq.trans (if_neg (ntr c_185)) (rfl)))) (lv_sub hl [1, 2, 3, 4, 5, 6, 7, 8, 9, 0] rfl)
                · skip
                  refine lv_iconst (v := 4) hx hb dX3_signOf_188 (by decide) ?_
                  refine W.eq (g2 := F0 m 189 ls [.int 4, .int (((sp_X3_signOf_j88s0 M p0 p2) + (sp_X3_signOf_j128s0 M p0 p2)) + (sp_X3_signOf_j158s0 M p0 p2))]) rfl ?_
                  refine lv_goto (tgt := 193) hx hb dX3_signOf_189 (by decide) ?_
                  exact hj_173 _ ls (Eq.symm (Eq.trans (if_pos c_173) (Eq.trans (if_pos c_185) (rfl)))) (lv_sub hl [1, 2, 3, 4, 5, 6, 7, 8, 9, 0] rfl)
            refine lv_if_eq (tgt := 165) hx hb dX3_signOf_158 (by decide) (fun c_158 => ?_) (fun c_158 => ?_)
            · skip
              refine lv_iconst (v := 0) hx hb dX3_signOf_165 (by decide) ?_
              exact hj_158 _ ls (Eq.symm (Eq.trans (if_pos c_158) (rfl))) (lv_sub hl [1, 2, 3, 4, 5, 6, 7, 8, 9, 0] rfl)
            · skip
              refine lv_iconst (v := 1) hx hb dX3_signOf_161 (by decide) ?_
              refine lv_goto (tgt := 166) hx hb dX3_signOf_162 (by decide) ?_
              exact hj_158 _ ls (Eq.symm (Eq.trans (if_neg c_158) (rfl))) (lv_sub hl [1, 2, 3, 4, 5, 6, 7, 8, 9, 0] rfl)
          refine lv_icmp_ne (tgt := 145) hx hb dX3_signOf_128 (by decide) (fun c_128 => ?_) (fun c_128 => ?_)
          · skip
            refine lv_iconst (v := 0) hx hb dX3_signOf_145 (by decide) ?_
            exact hj_128 _ ls (Eq.symm (Eq.trans (if_neg c_128) (rfl))) (lv_sub hl [1, 2, 3, 4, 5, 6, 7, 8, 9, 0] rfl)
          · skip
            refine lv_aload_n hx hb dX3_signOf_131 rfl (lv_at hl 1 rfl) ?_
            refine va_get (D := D) (ci := 3) (v := .ref (am 6)) (C := RX3) (T := TX3) (N := 19) hx hb hts hin3 hown hK hP 0 rfl rfl 6 (by decide) (hts (.fieldLink RX3 22 "CartelWatchModel" "sum" "[I") (by decide +kernel)) (fun _ h9 => h9) rfl dX3_signOf_132 ?_
            refine lv_iload hx hb dX3_signOf_135 (lv_at hl 7 rfl) ?_
            refine va_iald hx hb hK hP 5 0 (cA := K 0) rfl rfl (by first | exact ix7 ht hb1 | exact ix7 ht hb2) dX3_signOf_137 ?_
            refine lv_if_le (tgt := 145) hx hb dX3_signOf_138 (by decide) (fun c_138 => ?_) (fun c_138 => ?_)
            · skip
              refine lv_iconst (v := 0) hx hb dX3_signOf_145 (by decide) ?_
              exact hj_128 _ ls (Eq.symm (Eq.trans (if_pos c_128) (Eq.trans (if_pos c_138) (rfl)))) (lv_sub hl [1, 2, 3, 4, 5, 6, 7, 8, 9, 0] rfl)
            · skip
              refine lv_iconst (v := 3) hx hb dX3_signOf_141 (by decide) ?_
              refine lv_goto (tgt := 146) hx hb dX3_signOf_142 (by decide) ?_
              exact hj_128 _ ls (Eq.symm (Eq.trans (if_pos c_128) (Eq.trans (if_neg c_138) (rfl)))) (lv_sub hl [1, 2, 3, 4, 5, 6, 7, 8, 9, 0] rfl)
        refine lb_eq (tgt := 115) hx hb dX3_signOf_88 (by decide) (fun c_88 => ?_) (fun c_88 => ?_)
        · skip
          refine lv_iconst (v := 0) hx hb dX3_signOf_115 (by decide) ?_
          exact hj_88 _ ls (Eq.symm (Eq.trans (if_neg (ntr c_88)) (rfl))) (lv_sub hl [4, 5, 6, 7, 8, 3, 2, 1, 0] rfl)
        · skip
          refine lv_iload hx hb dX3_signOf_91 (lv_at hl 1 rfl) ?_
          refine lv_if_le (tgt := 115) hx hb dX3_signOf_93 (by decide) (fun c_93 => ?_) (fun c_93 => ?_)
          · skip
            refine lv_iconst (v := 0) hx hb dX3_signOf_115 (by decide) ?_
            exact hj_88 _ ls (Eq.symm (Eq.trans (if_pos c_88) (Eq.trans (if_pos c_93) (rfl)))) (lv_sub hl [4, 5, 6, 7, 8, 3, 2, 1, 0] rfl)
          · skip
            refine lv_iload hx hb dX3_signOf_96 (lv_at hl 1 rfl) ?_
            refine lv_aload_n hx hb dX3_signOf_98 rfl (lv_at hl 4 rfl) ?_
            refine lv_iload_n hx hb dX3_signOf_99 rfl (lv_at hl 5 rfl) ?_
            refine pu_V (As := [.int p0]) (rest := [.int (((M 6) (((7 * p0) + p2).toNatClampNeg)) - (sp_X3_price M p0))]) hc (c_X3_price l D K am th M p0 ht (hI_x hI ht c_7)) (cwV 1 hts gX3_signOf_X3_price rfl rfl rfl (by decide +kernel) ⟨Nat.le_of_ble_eq_true rfl, Nat.le_of_ble_eq_true rfl⟩) hP hK hE (va_recv hK hP (ci := 3) (q0 := 0) rfl rfl) rfl rfl hl.1 (Nat.le_of_ble_eq_true rfl) dX3_signOf_100 ⟨Nat.le_of_ble_eq_true rfl, Nat.le_of_ble_eq_true rfl⟩ ?_
            refine lv_iconst (v := 5) hx hb dX3_signOf_103 (by decide) ?_
            refine W.eq (g2 := F0 m 104 ls [.int 5, .int (sp_X3_price M p0), .int (((M 6) (((7 * p0) + p2).toNatClampNeg)) - (sp_X3_price M p0))]) rfl ?_
            refine lv_imul hx hb dX3_signOf_104 ?_
            refine lv_bipush (v := 100) hx hb dX3_signOf_105 (by decide) ?_
            refine lv_idiv hx hb dX3_signOf_107 (by decide) ?_
            refine lv_icmp_gt (tgt := 115) hx hb dX3_signOf_108 (by decide) (fun c_108 => ?_) (fun c_108 => ?_)
            · skip
              refine lv_iconst (v := 0) hx hb dX3_signOf_115 (by decide) ?_
              exact hj_88 _ ls (Eq.symm (Eq.trans (if_pos c_88) (Eq.trans (if_neg c_93) (Eq.trans (if_pos c_108) (rfl))))) (lv_sub hl [4, 5, 6, 7, 8, 3, 2, 1, 0] rfl)
            · skip
              refine lv_iconst (v := 2) hx hb dX3_signOf_111 (by decide) ?_
              refine lv_goto (tgt := 116) hx hb dX3_signOf_112 (by decide) ?_
              exact hj_88 _ ls (Eq.symm (Eq.trans (if_pos c_88) (Eq.trans (if_neg c_93) (Eq.trans (if_neg c_108) (rfl))))) (lv_sub hl [4, 5, 6, 7, 8, 3, 2, 1, 0] rfl)
      refine lv_icmp_ne (tgt := 50) hx hb dX3_signOf_43 (by decide) (fun c_43 => ?_) (fun c_43 => ?_)
      · skip
        exact absurd c_17 c_43
      · skip
        refine lv_iload_n hx hb dX3_signOf_46 rfl (lv_at hl 4 rfl) ?_
        refine lv_goto (tgt := 51) hx hb dX3_signOf_47 (by decide) ?_
        exact hj_43 ls (lv_sub hl [1, 2, 3, 4, 0] rfl)
    · skip
      refine lv_aload_n hx hb dX3_signOf_20 rfl (lv_at hl 0 rfl) ?_
      refine va_get (D := D) (ci := 3) (v := .ref (am 3)) (C := RX3) (T := TX3) (N := 19) hx hb hts hin3 hown hK hP 0 rfl rfl 3 (by decide) (hts (.fieldLink RX3 13 "CartelWatchModel" "winner" "[I") (by decide +kernel)) (fun _ h9 => h9) rfl dX3_signOf_21 ?_
      refine lv_iload_n hx hb dX3_signOf_24 rfl (lv_at hl 1 rfl) ?_
      refine va_iald hx hb hK hP 2 0 (cA := K 0) rfl rfl (ht) dX3_signOf_25 ?_
      refine W.eq (g2 := F0 m 26 ls [.int ((M 3) p0.toNatClampNeg)]) rfl ?_
      refine lv_iload_n hx hb dX3_signOf_26 rfl (lv_at hl 3 rfl) ?_
      refine lv_icmp_eq (tgt := 32) hx hb dX3_signOf_27 (by decide) (fun c_27 => ?_) (fun c_27 => ?_)
      · skip
        refine lv_aload_n hx hb dX3_signOf_32 rfl (lv_at hl 0 rfl) ?_
        refine va_get (D := D) (ci := 3) (v := .ref (am 3)) (C := RX3) (T := TX3) (N := 19) hx hb hts hin3 hown hK hP 0 rfl rfl 3 (by decide) (hts (.fieldLink RX3 13 "CartelWatchModel" "winner" "[I") (by decide +kernel)) (fun _ h9 => h9) rfl dX3_signOf_33 ?_
        refine lv_iload_n hx hb dX3_signOf_36 rfl (lv_at hl 1 rfl) ?_
        refine va_iald hx hb hK hP 2 0 (cA := K 0) rfl rfl (ht) dX3_signOf_37 ?_
        refine lv_istore (lv' := [(4, .int ((M 3) p0.toNatClampNeg)), (0, .ref (am 0)), (1, .int p0), (2, .int p1), (3, .int p2)]) hx hb dX3_signOf_38 hl (by decide) rfl (fun ls hl => ?_)
        refine lv_iload hx hb dX3_signOf_40 (lv_at hl 0 rfl) ?_
        refine lv_iload_n hx hb dX3_signOf_42 rfl (lv_at hl 3 rfl) ?_
        have hj_43 : ∀ (ls : Array Slot), lv_has ls 10 [(0, .ref (am 0)), (1, .int p0), (2, .int p1), (3, .int p2), (4, .int ((M 3) p0.toNatClampNeg))] → W p l e ({ frames := 2, cells := 0, slots := 0, locals := 47 } : Room) s m ([.ref (am 0), .int p0, .int p1, .int p2] : List Value).toArray below meth c s.heap [] 0 0 (MQ below (QcV (.int (sp_X3_signOf M p0 p1 p2))) ([.ref (am 0), .int p0, .int p1, .int p2] : List Value).toArray s 0 0 (fun _ => False)) (F0 m 51 ls [.int p1]) := by
          intro ls hl
          refine lv_istore (lv' := [(5, .int p1), (0, .ref (am 0)), (1, .int p0), (2, .int p1), (3, .int p2), (4, .int ((M 3) p0.toNatClampNeg))]) hx hb dX3_signOf_51 hl (by decide) rfl (fun ls hl => ?_)
          refine lv_bipush (v := 7) hx hb dX3_signOf_53 (by decide) ?_
          refine lv_iload_n hx hb dX3_signOf_55 rfl (lv_at hl 2 rfl) ?_
          refine lv_imul hx hb dX3_signOf_56 ?_
          refine lv_iload hx hb dX3_signOf_57 (lv_at hl 0 rfl) ?_
          refine lv_iadd hx hb dX3_signOf_59 ?_
          refine lv_istore (lv' := [(6, .int ((7 * p0) + p1)), (5, .int p1), (0, .ref (am 0)), (1, .int p0), (2, .int p1), (3, .int p2), (4, .int ((M 3) p0.toNatClampNeg))]) hx hb dX3_signOf_60 hl (by decide) rfl (fun ls hl => ?_)
          refine lv_aload_n hx hb dX3_signOf_62 rfl (lv_at hl 2 rfl) ?_
          refine W.eq (g2 := F0 m 63 ls [.ref (am 0)]) rfl ?_
          refine va_get (D := D) (ci := 3) (v := .ref (am 6)) (C := RX3) (T := TX3) (N := 19) hx hb hts hin3 hown hK hP 0 rfl rfl 6 (by decide) (hts (.fieldLink RX3 22 "CartelWatchModel" "sum" "[I") (by decide +kernel)) (fun _ h9 => h9) rfl dX3_signOf_63 ?_
          refine lv_iload hx hb dX3_signOf_66 (lv_at hl 0 rfl) ?_
          refine va_iald hx hb hK hP 5 0 (cA := K 0) rfl rfl (by first | exact ix7 ht hb1 | exact ix7 ht hb2) dX3_signOf_68 ?_
          refine lv_aload_n hx hb dX3_signOf_69 rfl (lv_at hl 2 rfl) ?_
          refine lv_iload_n hx hb dX3_signOf_70 rfl (lv_at hl 3 rfl) ?_
          refine pu_V (As := [.int p0]) (rest := [.int ((M 6) (((7 * p0) + p1).toNatClampNeg))]) hc (c_X3_price l D K am th M p0 ht (hI_x hI ht c_7)) (cwV 1 hts gX3_signOf_X3_price rfl rfl rfl (by decide +kernel) ⟨Nat.le_of_ble_eq_true rfl, Nat.le_of_ble_eq_true rfl⟩) hP hK hE (va_recv hK hP (ci := 3) (q0 := 0) rfl rfl) rfl rfl hl.1 (Nat.le_of_ble_eq_true rfl) dX3_signOf_71 ⟨Nat.le_of_ble_eq_true rfl, Nat.le_of_ble_eq_true rfl⟩ ?_
          refine lv_isub hx hb dX3_signOf_74 ?_
          refine lv_istore (lv' := [(7, .int (((M 6) (((7 * p0) + p1).toNatClampNeg)) - (sp_X3_price M p0))), (6, .int ((7 * p0) + p1)), (5, .int p1), (0, .ref (am 0)), (1, .int p0), (2, .int p1), (3, .int p2), (4, .int ((M 3) p0.toNatClampNeg))]) hx hb dX3_signOf_75 hl (by decide) rfl (fun ls hl => ?_)
          refine W.eq (g2 := F0 m 77 ls []) rfl ?_
          refine lv_aload_n hx hb dX3_signOf_77 rfl (lv_at hl 3 rfl) ?_
          refine lv_iload_n hx hb dX3_signOf_78 rfl (lv_at hl 4 rfl) ?_
          refine lv_iload hx hb dX3_signOf_79 (lv_at hl 2 rfl) ?_
          refine pu_V (As := [.int p0, .int p1]) (rest := []) hc (c_X3_stands l D K am th M p0 p1 ht (by assumption)) (cwV 2 hts gX3_signOf_X3_stands rfl rfl rfl (by decide +kernel) ⟨Nat.le_of_ble_eq_true rfl, Nat.le_of_ble_eq_true rfl⟩) hP hK hE (va_recv hK hP (ci := 3) (q0 := 0) rfl rfl) rfl rfl hl.1 (Nat.le_of_ble_eq_true rfl) dX3_signOf_81 ⟨Nat.le_of_ble_eq_true rfl, Nat.le_of_ble_eq_true rfl⟩ ?_
          refine lv_istore (lv' := [(8, .int (bI (sp_X3_stands M p0 p1))), (7, .int (((M 6) (((7 * p0) + p1).toNatClampNeg)) - (sp_X3_price M p0))), (6, .int ((7 * p0) + p1)), (5, .int p1), (0, .ref (am 0)), (1, .int p0), (2, .int p1), (3, .int p2), (4, .int ((M 3) p0.toNatClampNeg))]) hx hb dX3_signOf_84 hl (by decide) rfl (fun ls hl => ?_)
          refine lv_iload hx hb dX3_signOf_86 (lv_at hl 0 rfl) ?_
          have hj_88 : ∀ (v88_0 : Int32) (ls : Array Slot), v88_0 = sp_X3_signOf_j88s0_1 M p0 p1 → lv_has ls 10 [(0, .ref (am 0)), (1, .int p0), (2, .int p1), (3, .int p2), (4, .int ((M 3) p0.toNatClampNeg)), (5, .int p1), (6, .int ((7 * p0) + p1)), (7, .int (((M 6) (((7 * p0) + p1).toNatClampNeg)) - (sp_X3_price M p0))), (8, .int (bI (sp_X3_stands M p0 p1)))] → W p l e ({ frames := 2, cells := 0, slots := 0, locals := 47 } : Room) s m ([.ref (am 0), .int p0, .int p1, .int p2] : List Value).toArray below meth c s.heap [] 0 0 (MQ below (QcV (.int (sp_X3_signOf M p0 p1 p2))) ([.ref (am 0), .int p0, .int p1, .int p2] : List Value).toArray s 0 0 (fun _ => False)) (F0 m 116 ls [.int v88_0]) := by
            intro v88_0 ls ev88_0 hl
            subst ev88_0
            refine lv_istore (lv' := [(9, .int (sp_X3_signOf_j88s0_1 M p0 p1)), (0, .ref (am 0)), (1, .int p0), (2, .int p1), (3, .int p2), (4, .int ((M 3) p0.toNatClampNeg)), (5, .int p1), (6, .int ((7 * p0) + p1)), (7, .int (((M 6) (((7 * p0) + p1).toNatClampNeg)) - (sp_X3_price M p0))), (8, .int (bI (sp_X3_stands M p0 p1)))]) hx hb dX3_signOf_116 hl (by decide) rfl (fun ls hl => ?_)
            refine lv_iload hx hb dX3_signOf_118 (lv_at hl 0 rfl) ?_
            refine lv_aload_n hx hb dX3_signOf_120 rfl (lv_at hl 1 rfl) ?_
            refine va_get (D := D) (ci := 3) (v := .ref (am 4)) (C := RX3) (T := TX3) (N := 19) hx hb hts hin3 hown hK hP 0 rfl rfl 4 (by decide) (hts (.fieldLink RX3 16 "CartelWatchModel" "passed" "[I") (by decide +kernel)) (fun _ h9 => h9) rfl dX3_signOf_121 ?_
            refine lv_iload_n hx hb dX3_signOf_124 rfl (lv_at hl 2 rfl) ?_
            refine va_iald hx hb hK hP 3 0 (cA := K 0) rfl rfl (ht) dX3_signOf_125 ?_
            refine lv_iload hx hb dX3_signOf_126 (lv_at hl 6 rfl) ?_
            have hj_128 : ∀ (v128_0 : Int32) (ls : Array Slot), v128_0 = sp_X3_signOf_j128s0_1 M p0 p1 → lv_has ls 10 [(0, .ref (am 0)), (1, .int p0), (2, .int p1), (3, .int p2), (4, .int ((M 3) p0.toNatClampNeg)), (5, .int p1), (6, .int ((7 * p0) + p1)), (7, .int (((M 6) (((7 * p0) + p1).toNatClampNeg)) - (sp_X3_price M p0))), (8, .int (bI (sp_X3_stands M p0 p1))), (9, .int (sp_X3_signOf_j88s0_1 M p0 p1))] → W p l e ({ frames := 2, cells := 0, slots := 0, locals := 47 } : Room) s m ([.ref (am 0), .int p0, .int p1, .int p2] : List Value).toArray below meth c s.heap [] 0 0 (MQ below (QcV (.int (sp_X3_signOf M p0 p1 p2))) ([.ref (am 0), .int p0, .int p1, .int p2] : List Value).toArray s 0 0 (fun _ => False)) (F0 m 146 ls [.int v128_0, .int (sp_X3_signOf_j88s0_1 M p0 p1)]) := by
              intro v128_0 ls ev128_0 hl
              subst ev128_0
              refine lv_iadd hx hb dX3_signOf_146 ?_
              refine lv_istore (lv' := [(9, .int ((sp_X3_signOf_j88s0_1 M p0 p1) + (sp_X3_signOf_j128s0_1 M p0 p1))), (0, .ref (am 0)), (1, .int p0), (2, .int p1), (3, .int p2), (4, .int ((M 3) p0.toNatClampNeg)), (5, .int p1), (6, .int ((7 * p0) + p1)), (7, .int (((M 6) (((7 * p0) + p1).toNatClampNeg)) - (sp_X3_price M p0))), (8, .int (bI (sp_X3_stands M p0 p1)))]) hx hb dX3_signOf_147 hl (by decide) rfl (fun ls hl => ?_)
              refine lv_iload hx hb dX3_signOf_149 (lv_at hl 0 rfl) ?_
              refine lv_aload_n hx hb dX3_signOf_151 rfl (lv_at hl 1 rfl) ?_
              refine va_get (D := D) (ci := 3) (v := .ref (am 7)) (C := RX3) (T := TX3) (N := 19) hx hb hts hin3 hown hK hP 0 rfl rfl 7 (by decide) (hts (.fieldLink RX3 25 "CartelWatchModel" "gone" "[Z") (by decide +kernel)) (fun _ h9 => h9) rfl dX3_signOf_152 ?_
              refine lv_iload hx hb dX3_signOf_155 (lv_at hl 7 rfl) ?_
              refine va_zald hx hb hK hP 6 1 (cA := K 1) rfl rfl (by first | exact ix7 ht hb1 | exact ix7 ht hb2) dX3_signOf_157 ?_
              have hj_158 : ∀ (v158_0 : Int32) (ls : Array Slot), v158_0 = sp_X3_signOf_j158s0_1 M p0 p1 → lv_has ls 10 [(0, .ref (am 0)), (1, .int p0), (2, .int p1), (3, .int p2), (4, .int ((M 3) p0.toNatClampNeg)), (5, .int p1), (6, .int ((7 * p0) + p1)), (7, .int (((M 6) (((7 * p0) + p1).toNatClampNeg)) - (sp_X3_price M p0))), (8, .int (bI (sp_X3_stands M p0 p1))), (9, .int ((sp_X3_signOf_j88s0_1 M p0 p1) + (sp_X3_signOf_j128s0_1 M p0 p1)))] → W p l e ({ frames := 2, cells := 0, slots := 0, locals := 47 } : Room) s m ([.ref (am 0), .int p0, .int p1, .int p2] : List Value).toArray below meth c s.heap [] 0 0 (MQ below (QcV (.int (sp_X3_signOf M p0 p1 p2))) ([.ref (am 0), .int p0, .int p1, .int p2] : List Value).toArray s 0 0 (fun _ => False)) (F0 m 166 ls [.int v158_0, .int ((sp_X3_signOf_j88s0_1 M p0 p1) + (sp_X3_signOf_j128s0_1 M p0 p1))]) := by
                intro v158_0 ls ev158_0 hl
                subst ev158_0
                refine lv_iadd hx hb dX3_signOf_166 ?_
                refine lv_istore (lv' := [(9, .int (((sp_X3_signOf_j88s0_1 M p0 p1) + (sp_X3_signOf_j128s0_1 M p0 p1)) + (sp_X3_signOf_j158s0_1 M p0 p1))), (0, .ref (am 0)), (1, .int p0), (2, .int p1), (3, .int p2), (4, .int ((M 3) p0.toNatClampNeg)), (5, .int p1), (6, .int ((7 * p0) + p1)), (7, .int (((M 6) (((7 * p0) + p1).toNatClampNeg)) - (sp_X3_price M p0))), (8, .int (bI (sp_X3_stands M p0 p1)))]) hx hb dX3_signOf_167 hl (by decide) rfl (fun ls hl => ?_)
                refine lv_iload hx hb dX3_signOf_169 (lv_at hl 0 rfl) ?_
                refine lv_iload hx hb dX3_signOf_171 (lv_at hl 9 rfl) ?_
                have hj_173 : ∀ (v173_0 : Int32) (ls : Array Slot), v173_0 = sp_X3_signOf_j173s0_1 M p0 p1 → lv_has ls 10 [(0, .ref (am 0)), (1, .int p0), (2, .int p1), (3, .int p2), (4, .int ((M 3) p0.toNatClampNeg)), (5, .int p1), (6, .int ((7 * p0) + p1)), (7, .int (((M 6) (((7 * p0) + p1).toNatClampNeg)) - (sp_X3_price M p0))), (8, .int (bI (sp_X3_stands M p0 p1))), (9, .int (((sp_X3_signOf_j88s0_1 M p0 p1) + (sp_X3_signOf_j128s0_1 M p0 p1)) + (sp_X3_signOf_j158s0_1 M p0 p1)))] → W p l e ({ frames := 2, cells := 0, slots := 0, locals := 47 } : Room) s m ([.ref (am 0), .int p0, .int p1, .int p2] : List Value).toArray below meth c s.heap [] 0 0 (MQ below (QcV (.int (sp_X3_signOf M p0 p1 p2))) ([.ref (am 0), .int p0, .int p1, .int p2] : List Value).toArray s 0 0 (fun _ => False)) (F0 m 193 ls [.int v173_0, .int (((sp_X3_signOf_j88s0_1 M p0 p1) + (sp_X3_signOf_j128s0_1 M p0 p1)) + (sp_X3_signOf_j158s0_1 M p0 p1))]) := by
                  intro v173_0 ls ev173_0 hl
                  subst ev173_0
                  refine lv_iadd hx hb dX3_signOf_193 ?_
                  refine lv_istore (lv' := [(9, .int ((((sp_X3_signOf_j88s0_1 M p0 p1) + (sp_X3_signOf_j128s0_1 M p0 p1)) + (sp_X3_signOf_j158s0_1 M p0 p1)) + (sp_X3_signOf_j173s0_1 M p0 p1))), (0, .ref (am 0)), (1, .int p0), (2, .int p1), (3, .int p2), (4, .int ((M 3) p0.toNatClampNeg)), (5, .int p1), (6, .int ((7 * p0) + p1)), (7, .int (((M 6) (((7 * p0) + p1).toNatClampNeg)) - (sp_X3_price M p0))), (8, .int (bI (sp_X3_stands M p0 p1)))]) hx hb dX3_signOf_194 hl (by decide) rfl (fun ls hl => ?_)
                  refine lv_iload hx hb dX3_signOf_196 (lv_at hl 0 rfl) ?_
                  exact pu_iret hx hb hr hlocks dX3_signOf_198 (Eq.symm (Eq.trans (if_pos c_7) (Eq.trans (if_neg c_17) (Eq.trans (if_pos c_27) (rfl)))))
                refine lb_eq (tgt := 192) hx hb dX3_signOf_173 (by decide) (fun c_173 => ?_) (fun c_173 => ?_)
                · skip
                  refine lv_iconst (v := 0) hx hb dX3_signOf_192 (by decide) ?_
                  exact hj_173 _ ls (Eq.symm (Eq.trans (if_neg (ntr c_173)) (rfl))) (lv_sub hl [1, 2, 3, 4, 5, 6, 7, 8, 9, 0] rfl)
                · skip
                  refine lv_aload_n hx hb dX3_signOf_176 rfl (lv_at hl 1 rfl) ?_
                  refine lv_iload_n hx hb dX3_signOf_177 rfl (lv_at hl 2 rfl) ?_
                  refine lv_iload hx hb dX3_signOf_178 (lv_at hl 5 rfl) ?_
                  refine lv_iload hx hb dX3_signOf_180 (lv_at hl 6 rfl) ?_
                  refine pu_V (As := [.int p0, .int ((M 3) p0.toNatClampNeg), .int p1]) (rest := [.int (((sp_X3_signOf_j88s0_1 M p0 p1) + (sp_X3_signOf_j128s0_1 M p0 p1)) + (sp_X3_signOf_j158s0_1 M p0 p1))]) hc (c_X3_isTurn l D K am th M p0 ((M 3) p0.toNatClampNeg) p1 (vin_eq ht) (Nat.le_of_lt (vin_lt ht)) (hI_x hI ht c_7) (by assumption)) (cwV 3 hts gX3_signOf_X3_isTurn rfl rfl rfl (by decide +kernel) ⟨Nat.le_of_ble_eq_true rfl, Nat.le_of_ble_eq_true rfl⟩) hP hK hE (va_recv hK hP (ci := 3) (q0 := 0) rfl rfl) rfl rfl hl.1 (Nat.le_of_ble_eq_true rfl) dX3_signOf_182 ⟨Nat.le_of_ble_eq_true rfl, Nat.le_of_ble_eq_true rfl⟩ ?_
                  refine lb_eq (tgt := 192) hx hb dX3_signOf_185 (by decide) (fun c_185 => ?_) (fun c_185 => ?_)
                  · skip
                    refine lv_iconst (v := 0) hx hb dX3_signOf_192 (by decide) ?_
                    exact hj_173 _ ls (Eq.symm (Eq.trans (if_pos c_173) (Eq.trans (if_neg (ntr c_185)) (rfl)))) (lv_sub hl [1, 2, 3, 4, 5, 6, 7, 8, 9, 0] rfl)
                  · skip
                    refine lv_iconst (v := 4) hx hb dX3_signOf_188 (by decide) ?_
                    refine W.eq (g2 := F0 m 189 ls [.int 4, .int (((sp_X3_signOf_j88s0_1 M p0 p1) + (sp_X3_signOf_j128s0_1 M p0 p1)) + (sp_X3_signOf_j158s0_1 M p0 p1))]) rfl ?_
                    refine lv_goto (tgt := 193) hx hb dX3_signOf_189 (by decide) ?_
                    exact hj_173 _ ls (Eq.symm (Eq.trans (if_pos c_173) (Eq.trans (if_pos c_185) (rfl)))) (lv_sub hl [1, 2, 3, 4, 5, 6, 7, 8, 9, 0] rfl)
              refine lv_if_eq (tgt := 165) hx hb dX3_signOf_158 (by decide) (fun c_158 => ?_) (fun c_158 => ?_)
              · skip
                refine lv_iconst (v := 0) hx hb dX3_signOf_165 (by decide) ?_
                exact hj_158 _ ls (Eq.symm (Eq.trans (if_pos c_158) (rfl))) (lv_sub hl [1, 2, 3, 4, 5, 6, 7, 8, 9, 0] rfl)
              · skip
                refine lv_iconst (v := 1) hx hb dX3_signOf_161 (by decide) ?_
                refine lv_goto (tgt := 166) hx hb dX3_signOf_162 (by decide) ?_
                exact hj_158 _ ls (Eq.symm (Eq.trans (if_neg c_158) (rfl))) (lv_sub hl [1, 2, 3, 4, 5, 6, 7, 8, 9, 0] rfl)
            refine lv_icmp_ne (tgt := 145) hx hb dX3_signOf_128 (by decide) (fun c_128 => ?_) (fun c_128 => ?_)
            · skip
              refine lv_iconst (v := 0) hx hb dX3_signOf_145 (by decide) ?_
              exact hj_128 _ ls (Eq.symm (Eq.trans (if_neg c_128) (rfl))) (lv_sub hl [1, 2, 3, 4, 5, 6, 7, 8, 9, 0] rfl)
            · skip
              refine lv_aload_n hx hb dX3_signOf_131 rfl (lv_at hl 1 rfl) ?_
              refine va_get (D := D) (ci := 3) (v := .ref (am 6)) (C := RX3) (T := TX3) (N := 19) hx hb hts hin3 hown hK hP 0 rfl rfl 6 (by decide) (hts (.fieldLink RX3 22 "CartelWatchModel" "sum" "[I") (by decide +kernel)) (fun _ h9 => h9) rfl dX3_signOf_132 ?_
              refine lv_iload hx hb dX3_signOf_135 (lv_at hl 7 rfl) ?_
              refine va_iald hx hb hK hP 5 0 (cA := K 0) rfl rfl (by first | exact ix7 ht hb1 | exact ix7 ht hb2) dX3_signOf_137 ?_
              refine lv_if_le (tgt := 145) hx hb dX3_signOf_138 (by decide) (fun c_138 => ?_) (fun c_138 => ?_)
              · skip
                refine lv_iconst (v := 0) hx hb dX3_signOf_145 (by decide) ?_
                exact hj_128 _ ls (Eq.symm (Eq.trans (if_pos c_128) (Eq.trans (if_pos c_138) (rfl)))) (lv_sub hl [1, 2, 3, 4, 5, 6, 7, 8, 9, 0] rfl)
              · skip
                refine lv_iconst (v := 3) hx hb dX3_signOf_141 (by decide) ?_
                refine lv_goto (tgt := 146) hx hb dX3_signOf_142 (by decide) ?_
                exact hj_128 _ ls (Eq.symm (Eq.trans (if_pos c_128) (Eq.trans (if_neg c_138) (rfl)))) (lv_sub hl [1, 2, 3, 4, 5, 6, 7, 8, 9, 0] rfl)
          refine lb_eq (tgt := 115) hx hb dX3_signOf_88 (by decide) (fun c_88 => ?_) (fun c_88 => ?_)
          · skip
            refine lv_iconst (v := 0) hx hb dX3_signOf_115 (by decide) ?_
            exact hj_88 _ ls (Eq.symm (Eq.trans (if_neg (ntr c_88)) (rfl))) (lv_sub hl [4, 5, 6, 7, 8, 3, 2, 1, 0] rfl)
          · skip
            refine lv_iload hx hb dX3_signOf_91 (lv_at hl 1 rfl) ?_
            refine lv_if_le (tgt := 115) hx hb dX3_signOf_93 (by decide) (fun c_93 => ?_) (fun c_93 => ?_)
            · skip
              refine lv_iconst (v := 0) hx hb dX3_signOf_115 (by decide) ?_
              exact hj_88 _ ls (Eq.symm (Eq.trans (if_pos c_88) (Eq.trans (if_pos c_93) (rfl)))) (lv_sub hl [4, 5, 6, 7, 8, 3, 2, 1, 0] rfl)
            · skip
              refine lv_iload hx hb dX3_signOf_96 (lv_at hl 1 rfl) ?_
              refine lv_aload_n hx hb dX3_signOf_98 rfl (lv_at hl 4 rfl) ?_
              refine lv_iload_n hx hb dX3_signOf_99 rfl (lv_at hl 5 rfl) ?_
              refine pu_V (As := [.int p0]) (rest := [.int (((M 6) (((7 * p0) + p1).toNatClampNeg)) - (sp_X3_price M p0))]) hc (c_X3_price l D K am th M p0 ht (hI_x hI ht c_7)) (cwV 1 hts gX3_signOf_X3_price rfl rfl rfl (by decide +kernel) ⟨Nat.le_of_ble_eq_true rfl, Nat.le_of_ble_eq_true rfl⟩) hP hK hE (va_recv hK hP (ci := 3) (q0 := 0) rfl rfl) rfl rfl hl.1 (Nat.le_of_ble_eq_true rfl) dX3_signOf_100 ⟨Nat.le_of_ble_eq_true rfl, Nat.le_of_ble_eq_true rfl⟩ ?_
              refine lv_iconst (v := 5) hx hb dX3_signOf_103 (by decide) ?_
              refine W.eq (g2 := F0 m 104 ls [.int 5, .int (sp_X3_price M p0), .int (((M 6) (((7 * p0) + p1).toNatClampNeg)) - (sp_X3_price M p0))]) rfl ?_
              refine lv_imul hx hb dX3_signOf_104 ?_
              refine lv_bipush (v := 100) hx hb dX3_signOf_105 (by decide) ?_
              refine lv_idiv hx hb dX3_signOf_107 (by decide) ?_
              refine lv_icmp_gt (tgt := 115) hx hb dX3_signOf_108 (by decide) (fun c_108 => ?_) (fun c_108 => ?_)
              · skip
                refine lv_iconst (v := 0) hx hb dX3_signOf_115 (by decide) ?_
                exact hj_88 _ ls (Eq.symm (Eq.trans (if_pos c_88) (Eq.trans (if_neg c_93) (Eq.trans (if_pos c_108) (rfl))))) (lv_sub hl [4, 5, 6, 7, 8, 3, 2, 1, 0] rfl)
              · skip
                refine lv_iconst (v := 2) hx hb dX3_signOf_111 (by decide) ?_
                refine lv_goto (tgt := 116) hx hb dX3_signOf_112 (by decide) ?_
                exact hj_88 _ ls (Eq.symm (Eq.trans (if_pos c_88) (Eq.trans (if_neg c_93) (Eq.trans (if_neg c_108) (rfl))))) (lv_sub hl [4, 5, 6, 7, 8, 3, 2, 1, 0] rfl)
        refine lv_icmp_ne (tgt := 50) hx hb dX3_signOf_43 (by decide) (fun c_43 => ?_) (fun c_43 => ?_)
        · skip
          refine lv_iload_n hx hb dX3_signOf_50 rfl (lv_at hl 3 rfl) ?_
          exact hj_43 ls (lv_sub hl [1, 2, 3, 4, 0] rfl)
        · skip
          exact absurd c_43 c_17
      · skip
        refine lv_iconst (v := 0) hx hb dX3_signOf_30 (by decide) ?_
        exact pu_iret hx hb hr hlocks dX3_signOf_31 (Eq.symm (Eq.trans (if_pos c_7) (Eq.trans (if_neg c_17) (Eq.trans (if_neg c_27) (rfl)))))

def sp_X3_suspicionOf_L5 (M : Nat → Nat → Int32) (p0 : Int32) (p1 : Int32) : Nat → Int32
  | 0 => 0
  | k + 1 => (sp_X3_suspicionOf_L5 M p0 p1 k) + (sp_X3_signOf M (nI k) p0 p1)
def sp_X3_suspicionOf (M : Nat → Nat → Int32) (n : Nat) (p0 : Int32) (p1 : Int32) : Int32 := sp_X3_suspicionOf_L5 M p0 p1 n
set_option maxHeartbeats 4000000 in
set_option maxRecDepth 100000 in
theorem c_X3_suspicionOf (l : Launch) (D : va_G) (K : Nat → ClassId) (am : Nat → Nat) (th : Int32) (M : Nat → Nat → Int32) (n nf : Nat) (p0 p1 : Int32) (hM : MOK M n nf) (hb1 : vp_in p0 7) (hb2 : vp_in p1 7) : PU l yX3_suspicionOf wsX3_suspicionOf 3 76 D K [.ref (am 0), .int p0, .int p1] (fun H => va_P D vwCl (mW K am th M) H) (.int (sp_X3_suspicionOf M n p0 p1)) := by
  refine Met.ofW (cc := cX3_suspicionOf) (maxL := 5) (ret := (some .int)) (by decide) rfl ?_
  intro p e s m args below meth c s₁ B hml hv
  obtain ⟨rfl, hP, hK, hE⟩ := hv
  have hx := B.exec
  have hb := B.bytes
  have hr := B.returns
  have hts := atoms_spec (ws := wsX3_suspicionOf) B.pre
  have hown : s.vm.findClass RX3 = some m.cls := findClass_of_methodNamed B.named
  have hlocks := B.notSynchronized
  have hc : CallFix p m c cX3_suspicionOf 5 s ([.ref (am 0), .int p0, .int p1] : List Value).toArray wsX3_suspicionOf RX3 := ⟨hx, hb, hml, hown, hts⟩
  have hin3 : ∀ w ∈ u_ws RX3 TX3 19, w ∈ wsX3_suspicionOf := by decide +kernel
  have hP : va_P D vwCl (mW K am th M) s.heap := hP
  obtain ⟨hn, hn30, hf, hf20, hI, hJ⟩ := id hM
  have hl := lv_entry ([.ref (am 0), .int p0, .int p1]) (n := 5) (Nat.le_of_ble_eq_true rfl)
  rw [lg_entry_eq]
  generalize (lg_sl ([.ref (am 0), .int p0, .int p1]) ++ List.replicate (5 - (lg_sl ([.ref (am 0), .int p0, .int p1])).length) Slot.unset).toArray = ls at hl ⊢
  have hl : lv_has ls 5 [(0, .ref (am 0)), (1, .int p0), (2, .int p1)] := hl
  refine lv_iconst (v := 0) hx hb dX3_suspicionOf_0 (by decide) ?_
  refine lv_istore_n (lv' := [(3, .int 0), (0, .ref (am 0)), (1, .int p0), (2, .int p1)]) hx hb dX3_suspicionOf_1 rfl hl (by decide) rfl (fun ls hl => ?_)
  refine lv_iconst (v := 0) hx hb dX3_suspicionOf_2 (by decide) ?_
  refine lv_istore (lv' := [(4, .int 0), (3, .int 0), (0, .ref (am 0)), (1, .int p0), (2, .int p1)]) hx hb dX3_suspicionOf_3 hl (by decide) rfl (fun ls hl => ?_)
  have hloop_5 : ∀ (n5 k : Nat), k ≤ n → n + 1 ≤ k + n5 → ∀ (a5_3 x5 : Int32) (ls : Array Slot), a5_3 = sp_X3_suspicionOf_L5 M p0 p1 k → x5 = nI k → lv_has ls 5 [(0, .ref (am 0)), (1, .int p0), (2, .int p1), (3, .int a5_3), (4, .int x5)] → W p l e ({ frames := 3, cells := 0, slots := 0, locals := 76 } : Room) s m ([.ref (am 0), .int p0, .int p1] : List Value).toArray below meth c s.heap [] 0 0 (MQ below (QcV (.int (sp_X3_suspicionOf M n p0 p1))) ([.ref (am 0), .int p0, .int p1] : List Value).toArray s 0 0 (fun _ => False)) (F0 m 5 ls []) := by
    intro n5
    induction n5 with
    | zero => intro k h1 h2; exact absurd h2 (by omega)
    | succ n5 ih_5 =>
      intro k hk_5 hn_5 a5_3 x5 ls ea5_3 ex5 hl
      subst ea5_3
      subst ex5
      refine lv_iload hx hb dX3_suspicionOf_5 (lv_at hl 4 rfl) ?_
      refine lv_aload_n hx hb dX3_suspicionOf_7 rfl (lv_at hl 0 rfl) ?_
      refine va_get (D := D) (ci := 3) (v := .int (M 1 0)) (C := RX3) (T := TX3) (N := 19) hx hb hts hin3 hown hK hP 0 rfl rfl 1 (by decide) (hts (.fieldLink RX3 67 "CartelWatchModel" "tenders" "I") (by decide +kernel)) (fun _ h9 => h9) rfl dX3_suspicionOf_8 ?_
      refine lv_icmp_ge (tgt := 31) hx hb dX3_suspicionOf_11 (by decide) (fun c_11 => ?_) (fun c_11 => ?_)
      · skip
        have hke_5 : n = k := (lp_end hn c_11 hk_5 (by omega)).symm
        subst hke_5
        refine lv_iload_n hx hb dX3_suspicionOf_31 rfl (lv_at hl 3 rfl) ?_
        exact pu_iret hx hb hr hlocks dX3_suspicionOf_32 (Eq.symm (rfl))
      · skip
        have hlt_5 : k < n := lp_in hn c_11 hk_5 (by omega)
        refine W.eq (g2 := F0 m 14 ls []) rfl ?_
        refine lv_iload_n hx hb dX3_suspicionOf_14 rfl (lv_at hl 3 rfl) ?_
        refine lv_aload_n hx hb dX3_suspicionOf_15 rfl (lv_at hl 0 rfl) ?_
        refine lv_iload hx hb dX3_suspicionOf_16 (lv_at hl 4 rfl) ?_
        refine lv_iload_n hx hb dX3_suspicionOf_18 rfl (lv_at hl 1 rfl) ?_
        refine lv_iload_n hx hb dX3_suspicionOf_19 rfl (lv_at hl 2 rfl) ?_
        refine pu_V (As := [.int (nI k), .int p0, .int p1]) (rest := [.int (sp_X3_suspicionOf_L5 M p0 p1 k)]) hc (c_X3_signOf l D K am th M n nf (nI k) p0 p1 hM (vp_in_nI (Nat.lt_of_lt_of_le hlt_5 hn30) (by decide)) hb1 hb2) (cwV 3 hts gX3_suspicionOf_X3_signOf rfl rfl rfl (by decide +kernel) ⟨Nat.le_of_ble_eq_true rfl, Nat.le_of_ble_eq_true rfl⟩) hP hK hE (va_recv hK hP (ci := 3) (q0 := 0) rfl rfl) rfl rfl hl.1 (Nat.le_of_ble_eq_true rfl) dX3_suspicionOf_20 ⟨Nat.le_of_ble_eq_true rfl, Nat.le_of_ble_eq_true rfl⟩ ?_
        refine lv_iadd hx hb dX3_suspicionOf_23 ?_
        refine lv_istore_n (lv' := [(3, .int ((sp_X3_suspicionOf_L5 M p0 p1 k) + (sp_X3_signOf M (nI k) p0 p1))), (0, .ref (am 0)), (1, .int p0), (2, .int p1), (4, .int (nI k))]) hx hb dX3_suspicionOf_24 rfl hl (by decide) rfl (fun ls hl => ?_)
        refine W.eq (g2 := F0 m 25 ls []) rfl ?_
        refine lv_iinc (v := (nI k) + 1) (lv' := [(4, .int ((nI k) + 1)), (3, .int ((sp_X3_suspicionOf_L5 M p0 p1 k) + (sp_X3_signOf M (nI k) p0 p1))), (0, .ref (am 0)), (1, .int p0), (2, .int p1)]) hx hb dX3_suspicionOf_25 hl (k := 4) rfl (rfl) (by decide) rfl (fun ls hl => ?_)
        refine lv_goto (tgt := 5) hx hb dX3_suspicionOf_28 (by decide) ?_
        exact ih_5 (k + 1) hlt_5 (by omega) _ _ ls (Eq.symm (rfl)) (nI_1 k) (lv_sub hl [2, 3, 4, 1, 0] rfl)
  exact hloop_5 (n + 1) 0 (Nat.zero_le _) (by omega) _ _ ls rfl nI_0.symm (lv_sub hl [2, 3, 4, 1, 0] rfl)

def sp_X3_count_L4 (p0 : Int32) : Nat → Int32
  | 0 => 0
  | k + 1 => (sp_X3_count_L4 p0 k) + ((p0 >>> ((nI k) &&& 31)) &&& 1)
def sp_X3_count (p0 : Int32) : Int32 := sp_X3_count_L4 p0 30
set_option maxHeartbeats 4000000 in
set_option maxRecDepth 100000 in
theorem c_X3_count (l : Launch) (D : va_G) (K : Nat → ClassId) (p0 : Int32) : PU l yX3_count wsX3_count 0 0 D K [.int p0] (fun H => True) (.int (sp_X3_count p0)) := by
  refine Met.ofW (cc := cX3_count) (maxL := 3) (ret := (some .int)) (by decide) rfl ?_
  intro p e s m args below meth c s₁ B hml hv
  obtain ⟨rfl, hP, hK, hE⟩ := hv
  have hx := B.exec
  have hb := B.bytes
  have hr := B.returns
  have hts := atoms_spec (ws := wsX3_count) B.pre
  have hown : s.vm.findClass RX3 = some m.cls := findClass_of_methodNamed B.named
  have hlocks := B.notSynchronized
  have hc : CallFix p m c cX3_count 3 s ([.int p0] : List Value).toArray wsX3_count RX3 := ⟨hx, hb, hml, hown, hts⟩
  have hl := lv_entry ([.int p0]) (n := 3) (Nat.le_of_ble_eq_true rfl)
  rw [lg_entry_eq]
  generalize (lg_sl ([.int p0]) ++ List.replicate (3 - (lg_sl ([.int p0])).length) Slot.unset).toArray = ls at hl ⊢
  have hl : lv_has ls 3 [(0, .int p0)] := hl
  refine lv_iconst (v := 0) hx hb dX3_count_0 (by decide) ?_
  refine lv_istore_n (lv' := [(1, .int 0), (0, .int p0)]) hx hb dX3_count_1 rfl hl (by decide) rfl (fun ls hl => ?_)
  refine lv_iconst (v := 0) hx hb dX3_count_2 (by decide) ?_
  refine lv_istore_n (lv' := [(2, .int 0), (1, .int 0), (0, .int p0)]) hx hb dX3_count_3 rfl hl (by decide) rfl (fun ls hl => ?_)
  have hloop_4 : ∀ (n4 k : Nat), k ≤ 30 → 30 + 1 ≤ k + n4 → ∀ (a4_1 x4 : Int32) (ls : Array Slot), a4_1 = sp_X3_count_L4 p0 k → x4 = nI k → lv_has ls 3 [(0, .int p0), (1, .int a4_1), (2, .int x4)] → W p l e ({ frames := 0, cells := 0, slots := 0, locals := 0 } : Room) s m ([.int p0] : List Value).toArray below meth c s.heap [] 0 0 (MQ below (QcV (.int (sp_X3_count p0))) ([.int p0] : List Value).toArray s 0 0 (fun _ => False)) (F0 m 4 ls []) := by
    intro n4
    induction n4 with
    | zero => intro k h1 h2; exact absurd h2 (by omega)
    | succ n4 ih_4 =>
      intro k hk_4 hn_4 a4_1 x4 ls ea4_1 ex4 hl
      subst ea4_1
      subst ex4
      refine lv_iload_n hx hb dX3_count_4 rfl (lv_at hl 2 rfl) ?_
      refine lv_bipush (v := 30) hx hb dX3_count_5 (by decide) ?_
      refine lv_icmp_ge (tgt := 24) hx hb dX3_count_7 (by decide) (fun c_7 => ?_) (fun c_7 => ?_)
      · skip
        have hke_4 : 30 = k := (lp_end rfl c_7 hk_4 (by decide)).symm
        subst hke_4
        refine lv_iload_n hx hb dX3_count_24 rfl (lv_at hl 1 rfl) ?_
        exact pu_iret hx hb hr hlocks dX3_count_25 (Eq.symm (rfl))
      · skip
        have hlt_4 : k < 30 := lp_in rfl c_7 hk_4 (by decide)
        refine lv_iload_n hx hb dX3_count_10 rfl (lv_at hl 1 rfl) ?_
        refine W.eq (g2 := F0 m 11 ls [.int (sp_X3_count_L4 p0 k)]) rfl ?_
        refine lv_iload_n hx hb dX3_count_11 rfl (lv_at hl 0 rfl) ?_
        refine lv_iload_n hx hb dX3_count_12 rfl (lv_at hl 2 rfl) ?_
        refine lv_ishr hx hb dX3_count_13 ?_
        refine lv_iconst (v := 1) hx hb dX3_count_14 (by decide) ?_
        refine lv_iand hx hb dX3_count_15 ?_
        refine lv_iadd hx hb dX3_count_16 ?_
        refine lv_istore_n (lv' := [(1, .int ((sp_X3_count_L4 p0 k) + ((p0 >>> ((nI k) &&& 31)) &&& 1))), (0, .int p0), (2, .int (nI k))]) hx hb dX3_count_17 rfl hl (by decide) rfl (fun ls hl => ?_)
        refine lv_iinc (v := (nI k) + 1) (lv' := [(2, .int ((nI k) + 1)), (1, .int ((sp_X3_count_L4 p0 k) + ((p0 >>> ((nI k) &&& 31)) &&& 1))), (0, .int p0)]) hx hb dX3_count_18 hl (k := 2) rfl (rfl) (by decide) rfl (fun ls hl => ?_)
        refine W.eq (g2 := F0 m 21 ls []) rfl ?_
        refine lv_goto (tgt := 4) hx hb dX3_count_21 (by decide) ?_
        exact ih_4 (k + 1) hlt_4 (by omega) _ _ ls (Eq.symm (rfl)) (nI_1 k) (lv_sub hl [2, 1, 0] rfl)
  exact hloop_4 (30 + 1) 0 (Nat.zero_le _) (by omega) _ _ ls rfl nI_0.symm (lv_sub hl [2, 1, 0] rfl)

def sp_X3_isOf (M : Nat → Nat → Int32) (p0 : Int32) (p1 : Int32) : Bool := if p1 = ((M 10) p0.toNatClampNeg) then true else (if p1 = ((M 11) p0.toNatClampNeg) then true else false)
set_option maxHeartbeats 4000000 in
set_option maxRecDepth 100000 in
theorem c_X3_isOf (l : Launch) (D : va_G) (K : Nat → ClassId) (am : Nat → Nat) (th : Int32) (M : Nat → Nat → Int32) (p0 p1 : Int32) (hF : vp_in p0 20) : PU l yX3_isOf wsX3_isOf 0 0 D K [.ref (am 0), .int p0, .int p1] (fun H => va_P D vwCl (mW K am th M) H) (.int (bI (sp_X3_isOf M p0 p1))) := by
  refine Met.ofW (cc := cX3_isOf) (maxL := 3) (ret := (some .boolean)) (by decide) rfl ?_
  intro p e s m args below meth c s₁ B hml hv
  obtain ⟨rfl, hP, hK, hE⟩ := hv
  have hx := B.exec
  have hb := B.bytes
  have hr := B.returns
  have hts := atoms_spec (ws := wsX3_isOf) B.pre
  have hown : s.vm.findClass RX3 = some m.cls := findClass_of_methodNamed B.named
  have hlocks := B.notSynchronized
  have hc : CallFix p m c cX3_isOf 3 s ([.ref (am 0), .int p0, .int p1] : List Value).toArray wsX3_isOf RX3 := ⟨hx, hb, hml, hown, hts⟩
  have hin3 : ∀ w ∈ u_ws RX3 TX3 19, w ∈ wsX3_isOf := by decide +kernel
  have hP : va_P D vwCl (mW K am th M) s.heap := hP
  have hl := lv_entry ([.ref (am 0), .int p0, .int p1]) (n := 3) (Nat.le_of_ble_eq_true rfl)
  rw [lg_entry_eq]
  generalize (lg_sl ([.ref (am 0), .int p0, .int p1]) ++ List.replicate (3 - (lg_sl ([.ref (am 0), .int p0, .int p1])).length) Slot.unset).toArray = ls at hl ⊢
  have hl : lv_has ls 3 [(0, .ref (am 0)), (1, .int p0), (2, .int p1)] := hl
  refine lv_iload_n hx hb dX3_isOf_0 rfl (lv_at hl 2 rfl) ?_
  refine lv_aload_n hx hb dX3_isOf_1 rfl (lv_at hl 0 rfl) ?_
  refine va_get (D := D) (ci := 3) (v := .ref (am 10)) (C := RX3) (T := TX3) (N := 19) hx hb hts hin3 hown hK hP 0 rfl rfl 10 (by decide) (hts (.fieldLink RX3 33 "CartelWatchModel" "one" "[I") (by decide +kernel)) (fun _ h9 => h9) rfl dX3_isOf_2 ?_
  refine lv_iload_n hx hb dX3_isOf_5 rfl (lv_at hl 1 rfl) ?_
  refine va_iald hx hb hK hP 7 0 (cA := K 0) rfl rfl (hF) dX3_isOf_6 ?_
  refine lv_icmp_eq (tgt := 20) hx hb dX3_isOf_7 (by decide) (fun c_7 => ?_) (fun c_7 => ?_)
  · skip
    refine lv_iconst (v := 1) hx hb dX3_isOf_20 (by decide) ?_
    refine lv_goto (tgt := 25) hx hb dX3_isOf_21 (by decide) ?_
    exact pu_zret hx hb hr hlocks dX3_isOf_25 (bI_nar _) (bI_eq (a := true) (Eq.symm (Eq.trans (if_pos c_7) (rfl))))
  · skip
    refine lv_iload_n hx hb dX3_isOf_10 rfl (lv_at hl 2 rfl) ?_
    refine lv_aload_n hx hb dX3_isOf_11 rfl (lv_at hl 0 rfl) ?_
    refine W.eq (g2 := F0 m 12 ls [.ref (am 0), .int p1]) rfl ?_
    refine va_get (D := D) (ci := 3) (v := .ref (am 11)) (C := RX3) (T := TX3) (N := 19) hx hb hts hin3 hown hK hP 0 rfl rfl 11 (by decide) (hts (.fieldLink RX3 36 "CartelWatchModel" "two" "[I") (by decide +kernel)) (fun _ h9 => h9) rfl dX3_isOf_12 ?_
    refine lv_iload_n hx hb dX3_isOf_15 rfl (lv_at hl 1 rfl) ?_
    refine va_iald hx hb hK hP 8 0 (cA := K 0) rfl rfl (hF) dX3_isOf_16 ?_
    refine lv_icmp_ne (tgt := 24) hx hb dX3_isOf_17 (by decide) (fun c_17 => ?_) (fun c_17 => ?_)
    · skip
      refine lv_iconst (v := 0) hx hb dX3_isOf_24 (by decide) ?_
      exact pu_zret hx hb hr hlocks dX3_isOf_25 (bI_nar _) (bI_eq (a := false) (Eq.symm (Eq.trans (if_neg c_7) (Eq.trans (if_neg c_17) (rfl)))))
    · skip
      refine lv_iconst (v := 1) hx hb dX3_isOf_20 (by decide) ?_
      refine lv_goto (tgt := 25) hx hb dX3_isOf_21 (by decide) ?_
      exact pu_zret hx hb hr hlocks dX3_isOf_25 (bI_nar _) (bI_eq (a := true) (Eq.symm (Eq.trans (if_neg c_7) (Eq.trans (if_pos c_17) (rfl)))))

def sp_X3_thrown (th : Int32) : Int32 := th
set_option maxHeartbeats 4000000 in
set_option maxRecDepth 100000 in
theorem c_X3_thrown (l : Launch) (D : va_G) (K : Nat → ClassId) (am : Nat → Nat) (th : Int32) (M : Nat → Nat → Int32) : PU l yX3_thrown wsX3_thrown 0 0 D K [.ref (am 0)] (fun H => va_P D vwCl (mW K am th M) H) (.int (sp_X3_thrown th)) := by
  refine Met.ofW (cc := cX3_thrown) (maxL := 1) (ret := (some .int)) (by decide) rfl ?_
  intro p e s m args below meth c s₁ B hml hv
  obtain ⟨rfl, hP, hK, hE⟩ := hv
  have hx := B.exec
  have hb := B.bytes
  have hr := B.returns
  have hts := atoms_spec (ws := wsX3_thrown) B.pre
  have hown : s.vm.findClass RX3 = some m.cls := findClass_of_methodNamed B.named
  have hlocks := B.notSynchronized
  have hc : CallFix p m c cX3_thrown 1 s ([.ref (am 0)] : List Value).toArray wsX3_thrown RX3 := ⟨hx, hb, hml, hown, hts⟩
  have hin3 : ∀ w ∈ u_ws RX3 TX3 19, w ∈ wsX3_thrown := by decide +kernel
  have hP : va_P D vwCl (mW K am th M) s.heap := hP
  have hl := lv_entry ([.ref (am 0)]) (n := 1) (Nat.le_of_ble_eq_true rfl)
  rw [lg_entry_eq]
  generalize (lg_sl ([.ref (am 0)]) ++ List.replicate (1 - (lg_sl ([.ref (am 0)])).length) Slot.unset).toArray = ls at hl ⊢
  have hl : lv_has ls 1 [(0, .ref (am 0))] := hl
  refine lv_aload_n hx hb dX3_thrown_0 rfl (lv_at hl 0 rfl) ?_
  refine va_get (D := D) (ci := 3) (v := .int th) (C := RX3) (T := TX3) (N := 19) hx hb hts hin3 hown hK hP 0 rfl rfl 0 (by decide) (hts (.fieldLink RX3 60 "CartelWatchModel" "thrown" "I") (by decide +kernel)) (fun _ h9 => h9) rfl dX3_thrown_1 ?_
  exact pu_iret hx hb hr hlocks dX3_thrown_4 (Eq.symm (rfl))
