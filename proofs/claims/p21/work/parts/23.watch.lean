def tArr (ad : Nat → Nat → Nat) (n : Nat) : Nat → Option Nat := fun k => if k < n then some (ad 4 k) else none
def dArr (ad : Nat → Nat → Nat) (d : Nat) : Nat → Option Nat := fun k => if k < d then some (ad 7 k) else none
/-- the four cells of the watch itself; a tender's three; a file's four -/
abbrev xW (K : Nat → ClassId) (ad : Nat → Nat → Nat) (n d : Nat) (S : Nat → Nat → Nat → Int32) : va_W := [(ad 0 0, .inr (2, [.ref (ad 1 0), .int (nI n), .ref (ad 2 0), .int (nI d), .ref (ad 3 0), .int (S 16 0 0)])), (ad 1 0, .inl (K 3, 30, .inr (.inr (.inr (.inr (tArr ad n)))))), (ad 2 0, .inl (K 2, 20, .inr (.inr (.inr (.inr (dArr ad d)))))), (ad 3 0, .inl (K 0, 7, .inl (S 15 0)))]
abbrev xT (K : Nat → ClassId) (ad : Nat → Nat → Nat) (S : Nat → Nat → Nat → Int32) (k : Nat) : va_W := tW K (ad 4 k) (ad 5 k) (ad 6 k) (S 1 k) (S 2 k) (S 3 k 0) (S 4 k 0) (S 5 k 0) (S 6 k 0)
abbrev xD (K : Nat → ClassId) (ad : Nat → Nat → Nat) (S : Nat → Nat → Nat → Int32) (j : Nat) : va_W := dW K (ad 7 j) (ad 8 j) (ad 9 j) (ad 10 j) (S 7 j 0) (S 8 j 0) (S 9 j) (S 10 j) (S 11 j) (S 12 j 0) (S 13 j 0) (S 14 j 0)
def XP (D : va_G) (K : Nat → ClassId) (ad : Nat → Nat → Nat) (n d : Nat) (S : Nat → Nat → Nat → Int32) (H : Heap) : Prop := n ≤ 30 ∧ d ≤ 20 ∧ va_P D vwCl (xW K ad n d S) H ∧ (∀ k, k < n → va_P D vwCl (xT K ad S k) H) ∧ ∀ j, j < d → va_P D vwCl (xD K ad S j) H
def tIn (n : Nat) (x : Int32) : Bool := decide (0 ≤ x.toInt ∧ x.toInt < n)
theorem tIn_ex {n : Nat} {x : Int32} (h : tIn n x = true) (hn : n < 2 ^ 31) : ∃ k : Nat, k < n ∧ x = nI k := vp_in_of (vp_in_iff.mpr (of_decide_eq_true h)) hn
theorem tIn_lt {n : Nat} {x : Int32} (h : tIn n x = true) (hn : n < 2 ^ 31) : x.toNatClampNeg < n := by
  obtain ⟨k, hk, rfl⟩ := tIn_ex h hn
  rw [nI_clamp (by omega)]; exact hk
theorem tIn_eq {n : Nat} {x : Int32} (h : tIn n x = true) (hn : n < 2 ^ 31) : x = nI x.toNatClampNeg := by
  obtain ⟨k, hk, rfl⟩ := tIn_ex h hn
  rw [nI_clamp (by omega)]
theorem tIn_nI {n k : Nat} (hk : k < 2 ^ 31) : tIn n (nI k) = decide (k < n) := by
  unfold tIn
  rw [nI_toInt hk]
  exact decide_eq_decide.mpr ⟨fun h => by omega, fun h => by omega⟩
theorem tIn_no {n : Nat} {x : Int32} (h : tIn n x = false) (h0 : 0 ≤ x.toInt) : ¬ x.toNatClampNeg < n := fun q => by
  have := of_decide_eq_false h
  have e : (x.toNatClampNeg : Int) = x.toInt := by
    obtain ⟨j, hj, rfl⟩ := nI_of (x := x) (fun q => by have := Int32.lt_iff_toInt_lt.mp q; have h3 : (0 : Int32).toInt = 0 := by decide
                                                       omega)
    rw [nI_clamp hj, nI_toInt hj]
  omega
theorem arr_or {a : Nat → Nat} {n N : Nat} {x : Int32} (hx : vp_in x N) (hN : N < 2 ^ 31) : (tIn n x = true ∧ (if x.toNatClampNeg < n then some (a x.toNatClampNeg) else none) = some (a x.toNatClampNeg)) ∨ (tIn n x = false ∧ (if x.toNatClampNeg < n then some (a x.toNatClampNeg) else none) = none) := by
  obtain ⟨k, hk, rfl⟩ := vp_in_of hx hN
  rw [tIn_nI (by omega), nI_clamp (by omega)]
  by_cases h : k < n
  · exact Or.inl ⟨decide_eq_true h, if_pos h⟩
  · exact Or.inr ⟨decide_eq_false h, if_neg h⟩
theorem tArr_or {ad : Nat → Nat → Nat} {n : Nat} {x : Int32} (hx : vp_in x 30) : (tIn n x = true ∧ tArr ad n x.toNatClampNeg = some (ad 4 x.toNatClampNeg)) ∨ (tIn n x = false ∧ tArr ad n x.toNatClampNeg = none) := arr_or (a := ad 4) hx (by decide)
theorem dArr_or {ad : Nat → Nat → Nat} {n : Nat} {x : Int32} (hx : vp_in x 20) : (tIn n x = true ∧ dArr ad n x.toNatClampNeg = some (ad 7 x.toNatClampNeg)) ∨ (tIn n x = false ∧ dArr ad n x.toNatClampNeg = none) := arr_or (a := ad 7) hx (by decide)

theorem ge_in {x y : Int32} {N : Nat} (h : N ≤ x.toNatClampNeg) (h0 : ¬ x < 0) (hy : y = nI N := by rfl) (hN : N < 2 ^ 31 := by decide) : y ≤ x := by
  obtain ⟨j, hj, rfl⟩ := nI_of h0
  rw [nI_clamp hj] at h
  rw [hy]
  exact nI_le h hj

def sp_X2_tenderAt (ad : Nat → Nat → Nat) (n : Nat) (p0 : Int32) : Option Nat := if p0 < 0 then none else (if 30 ≤ p0 then none else ((tArr ad n) p0.toNatClampNeg))
set_option maxHeartbeats 4000000 in
set_option maxRecDepth 100000 in
theorem c_X2_tenderAt (l : Launch) (D : va_G) (K : Nat → ClassId) (ad : Nat → Nat → Nat) (n d : Nat) (S : Nat → Nat → Nat → Int32) (p0 : Int32) : PU l yX2_tenderAt wsX2_tenderAt 0 0 D K [.ref (ad 0 0), .int p0] (fun H => XP D K ad n d S H) (va_rf (sp_X2_tenderAt ad n p0)) := by
  refine Met.ofW (cc := cX2_tenderAt) (maxL := 2) (ret := (some (.object "CartelWatch$Tender"))) (by decide) rfl ?_
  intro p e s m args below meth c s₁ B hml hv
  obtain ⟨rfl, hP, hK, hE⟩ := hv
  have hx := B.exec
  have hb := B.bytes
  have hr := B.returns
  have hts := atoms_spec (ws := wsX2_tenderAt) B.pre
  have hown : s.vm.findClass RX2 = some m.cls := findClass_of_methodNamed B.named
  have hlocks := B.notSynchronized
  have hc : CallFix p m c cX2_tenderAt 2 s ([.ref (ad 0 0), .int p0] : List Value).toArray wsX2_tenderAt RX2 := ⟨hx, hb, hml, hown, hts⟩
  have hin2 : ∀ w ∈ u_ws RX2 TX2 6, w ∈ wsX2_tenderAt := by decide +kernel
  have hXP := hP
  obtain ⟨hn, hd, hP, hT, hF⟩ := hP
  have hP : va_P D vwCl (xW K ad n d S) s.heap := hP
  have hl := lv_entry ([.ref (ad 0 0), .int p0]) (n := 2) (Nat.le_of_ble_eq_true rfl)
  rw [lg_entry_eq]
  generalize (lg_sl ([.ref (ad 0 0), .int p0]) ++ List.replicate (2 - (lg_sl ([.ref (ad 0 0), .int p0])).length) Slot.unset).toArray = ls at hl ⊢
  have hl : lv_has ls 2 [(0, .ref (ad 0 0)), (1, .int p0)] := hl
  refine lv_iload_n hx hb dX2_tenderAt_0 rfl (lv_at hl 1 rfl) ?_
  refine lv_if_lt (tgt := 22) hx hb dX2_tenderAt_1 (by decide) (fun c_1 => ?_) (fun c_1 => ?_)
  · skip
    refine lv_null hx hb dX2_tenderAt_22 ?_
    exact pu_aret (o := none) hx hb hr hlocks dX2_tenderAt_23 (Eq.symm (Eq.trans (if_pos c_1) (rfl)))
  · skip
    refine lv_iload_n hx hb dX2_tenderAt_4 rfl (lv_at hl 1 rfl) ?_
    refine lv_aload_n hx hb dX2_tenderAt_5 rfl (lv_at hl 0 rfl) ?_
    refine va_get (D := D) (ci := 2) (v := .ref (ad 1 0)) (C := RX2) (T := TX2) (N := 6) hx hb hts hin2 hown hK hP 0 rfl rfl 0 (by decide) (hts (.fieldLink RX2 11 "CartelWatch" "tenders" "[LCartelWatch$Tender;") (by decide +kernel)) (fun _ h9 => h9) rfl dX2_tenderAt_6 ?_
    refine va_alen (v := 30) hx hb hK hP 1 3 rfl rfl rfl dX2_tenderAt_9 ?_
    refine lv_icmp_ge (tgt := 22) hx hb dX2_tenderAt_10 (by decide) (fun c_10 => ?_) (fun c_10 => ?_)
    · skip
      refine lv_null hx hb dX2_tenderAt_22 ?_
      exact pu_aret (o := none) hx hb hr hlocks dX2_tenderAt_23 (Eq.symm (Eq.trans (if_neg c_1) (Eq.trans (if_pos c_10) (rfl))))
    · skip
      refine lv_aload_n hx hb dX2_tenderAt_13 rfl (lv_at hl 0 rfl) ?_
      refine W.eq (g2 := F0 m 14 ls [.ref (ad 0 0)]) rfl ?_
      refine va_get (D := D) (ci := 2) (v := .ref (ad 1 0)) (C := RX2) (T := TX2) (N := 6) hx hb hts hin2 hown hK hP 0 rfl rfl 0 (by decide) (hts (.fieldLink RX2 11 "CartelWatch" "tenders" "[LCartelWatch$Tender;") (by decide +kernel)) (fun _ h9 => h9) rfl dX2_tenderAt_14 ?_
      refine lv_iload_n hx hb dX2_tenderAt_17 rfl (lv_at hl 1 rfl) ?_
      refine va_aldq hx hb hK hP 1 3 (cA := K 3) rfl rfl (fun q => q.elim c_1 (fun h => c_10 (ge_in h c_1))) dX2_tenderAt_18 ?_
      refine lv_goto (tgt := 23) hx hb dX2_tenderAt_19 (by decide) ?_
      exact pu_aret (o := (tArr ad n) p0.toNatClampNeg) hx hb hr hlocks dX2_tenderAt_23 (Eq.symm (Eq.trans (if_neg c_1) (Eq.trans (if_neg c_10) (rfl))))

def sp_X2_dossierAt (ad : Nat → Nat → Nat) (d : Nat) (p0 : Int32) : Option Nat := if p0 < 0 then none else (if 20 ≤ p0 then none else ((dArr ad d) p0.toNatClampNeg))
set_option maxHeartbeats 4000000 in
set_option maxRecDepth 100000 in
theorem c_X2_dossierAt (l : Launch) (D : va_G) (K : Nat → ClassId) (ad : Nat → Nat → Nat) (n d : Nat) (S : Nat → Nat → Nat → Int32) (p0 : Int32) : PU l yX2_dossierAt wsX2_dossierAt 0 0 D K [.ref (ad 0 0), .int p0] (fun H => XP D K ad n d S H) (va_rf (sp_X2_dossierAt ad d p0)) := by
  refine Met.ofW (cc := cX2_dossierAt) (maxL := 2) (ret := (some (.object "CartelWatch$Dossier"))) (by decide) rfl ?_
  intro p e s m args below meth c s₁ B hml hv
  obtain ⟨rfl, hP, hK, hE⟩ := hv
  have hx := B.exec
  have hb := B.bytes
  have hr := B.returns
  have hts := atoms_spec (ws := wsX2_dossierAt) B.pre
  have hown : s.vm.findClass RX2 = some m.cls := findClass_of_methodNamed B.named
  have hlocks := B.notSynchronized
  have hc : CallFix p m c cX2_dossierAt 2 s ([.ref (ad 0 0), .int p0] : List Value).toArray wsX2_dossierAt RX2 := ⟨hx, hb, hml, hown, hts⟩
  have hin2 : ∀ w ∈ u_ws RX2 TX2 6, w ∈ wsX2_dossierAt := by decide +kernel
  have hXP := hP
  obtain ⟨hn, hd, hP, hT, hF⟩ := hP
  have hP : va_P D vwCl (xW K ad n d S) s.heap := hP
  have hl := lv_entry ([.ref (ad 0 0), .int p0]) (n := 2) (Nat.le_of_ble_eq_true rfl)
  rw [lg_entry_eq]
  generalize (lg_sl ([.ref (ad 0 0), .int p0]) ++ List.replicate (2 - (lg_sl ([.ref (ad 0 0), .int p0])).length) Slot.unset).toArray = ls at hl ⊢
  have hl : lv_has ls 2 [(0, .ref (ad 0 0)), (1, .int p0)] := hl
  refine lv_iload_n hx hb dX2_dossierAt_0 rfl (lv_at hl 1 rfl) ?_
  refine lv_if_lt (tgt := 22) hx hb dX2_dossierAt_1 (by decide) (fun c_1 => ?_) (fun c_1 => ?_)
  · skip
    refine lv_null hx hb dX2_dossierAt_22 ?_
    exact pu_aret (o := none) hx hb hr hlocks dX2_dossierAt_23 (Eq.symm (Eq.trans (if_pos c_1) (rfl)))
  · skip
    refine lv_iload_n hx hb dX2_dossierAt_4 rfl (lv_at hl 1 rfl) ?_
    refine lv_aload_n hx hb dX2_dossierAt_5 rfl (lv_at hl 0 rfl) ?_
    refine va_get (D := D) (ci := 2) (v := .ref (ad 2 0)) (C := RX2) (T := TX2) (N := 6) hx hb hts hin2 hown hK hP 0 rfl rfl 2 (by decide) (hts (.fieldLink RX2 21 "CartelWatch" "dossiers" "[LCartelWatch$Dossier;") (by decide +kernel)) (fun _ h9 => h9) rfl dX2_dossierAt_6 ?_
    refine va_alen (v := 20) hx hb hK hP 2 2 rfl rfl rfl dX2_dossierAt_9 ?_
    refine lv_icmp_ge (tgt := 22) hx hb dX2_dossierAt_10 (by decide) (fun c_10 => ?_) (fun c_10 => ?_)
    · skip
      refine lv_null hx hb dX2_dossierAt_22 ?_
      exact pu_aret (o := none) hx hb hr hlocks dX2_dossierAt_23 (Eq.symm (Eq.trans (if_neg c_1) (Eq.trans (if_pos c_10) (rfl))))
    · skip
      refine lv_aload_n hx hb dX2_dossierAt_13 rfl (lv_at hl 0 rfl) ?_
      refine W.eq (g2 := F0 m 14 ls [.ref (ad 0 0)]) rfl ?_
      refine va_get (D := D) (ci := 2) (v := .ref (ad 2 0)) (C := RX2) (T := TX2) (N := 6) hx hb hts hin2 hown hK hP 0 rfl rfl 2 (by decide) (hts (.fieldLink RX2 21 "CartelWatch" "dossiers" "[LCartelWatch$Dossier;") (by decide +kernel)) (fun _ h9 => h9) rfl dX2_dossierAt_14 ?_
      refine lv_iload_n hx hb dX2_dossierAt_17 rfl (lv_at hl 1 rfl) ?_
      refine va_aldq hx hb hK hP 2 2 (cA := K 2) rfl rfl (fun q => q.elim c_1 (fun h => c_10 (ge_in h c_1))) dX2_dossierAt_18 ?_
      refine lv_goto (tgt := 23) hx hb dX2_dossierAt_19 (by decide) ?_
      exact pu_aret (o := (dArr ad d) p0.toNatClampNeg) hx hb hr hlocks dX2_dossierAt_23 (Eq.symm (Eq.trans (if_neg c_1) (Eq.trans (if_neg c_10) (rfl))))

theorem at_or {a : Nat → Nat} {n N : Nat} {x y : Int32} (hn : n ≤ N) (hN : N < 2 ^ 31) (hy : y = nI N) : (tIn n x = true ∧ (if x < 0 then none else (if y ≤ x then none else (if x.toNatClampNeg < n then some (a x.toNatClampNeg) else none))) = some (a x.toNatClampNeg)) ∨ (tIn n x = false ∧ (if x < 0 then none else (if y ≤ x then none else (if x.toNatClampNeg < n then some (a x.toNatClampNeg) else none))) = none) := by
  by_cases h0 : x < 0
  · refine Or.inr ⟨decide_eq_false fun h => ?_, if_pos h0⟩
    have := Int32.lt_iff_toInt_lt.mp h0
    have e0 : (0 : Int32).toInt = 0 := by decide
    omega
  · obtain ⟨j, hj, rfl⟩ := nI_of h0
    rw [tIn_nI hj, nI_clamp hj, if_neg h0, hy]
    by_cases h : j < n
    · rw [if_neg (nI_ge (by omega) hN), if_pos h]
      exact Or.inl ⟨decide_eq_true h, rfl⟩
    · rw [if_neg h]
      exact Or.inr ⟨decide_eq_false h, by split <;> rfl⟩
theorem tAt_or {ad : Nat → Nat → Nat} {n : Nat} {x : Int32} (hn : n ≤ 30) : (tIn n x = true ∧ sp_X2_tenderAt ad n x = some (ad 4 x.toNatClampNeg)) ∨ (tIn n x = false ∧ sp_X2_tenderAt ad n x = none) := at_or (a := ad 4) hn (by decide) rfl
theorem dAt_or {ad : Nat → Nat → Nat} {d : Nat} {x : Int32} (hn : d ≤ 20) : (tIn d x = true ∧ sp_X2_dossierAt ad d x = some (ad 7 x.toNatClampNeg)) ∨ (tIn d x = false ∧ sp_X2_dossierAt ad d x = none) := at_or (a := ad 7) hn (by decide) rfl

def sp_X2_turnoverOf_L14 (n : Nat) (S : Nat → Nat → Nat → Int32) (p0 : Int32) : Nat → Int32
  | 0 => 0
  | k + 1 => if tIn n (nI k) = true then ((sp_X2_turnoverOf_L14 n S p0 k) + (sp_X1_incomeOf (S 1 ((nI k).toNatClampNeg)) (S 4 ((nI k).toNatClampNeg) 0) (S 5 ((nI k).toNatClampNeg) 0) (S 6 ((nI k).toNatClampNeg) 0) p0)) else (sp_X2_turnoverOf_L14 n S p0 k)
def sp_X2_turnoverOf (n : Nat) (S : Nat → Nat → Nat → Int32) (p0 : Int32) : Int32 := sp_X2_turnoverOf_L14 n S p0 30
set_option maxHeartbeats 4000000 in
set_option maxRecDepth 100000 in
theorem c_X2_turnoverOf (l : Launch) (D : va_G) (K : Nat → ClassId) (ad : Nat → Nat → Nat) (n d : Nat) (S : Nat → Nat → Nat → Int32) (p0 : Int32) : PU l yX2_turnoverOf wsX2_turnoverOf 3 62 D K [.ref (ad 0 0), .int p0] (fun H => XP D K ad n d S H) (.int (sp_X2_turnoverOf n S p0)) := by
  refine Met.ofW (cc := cX2_turnoverOf) (maxL := 7) (ret := (some .int)) (by decide) rfl ?_
  intro p e s m args below meth c s₁ B hml hv
  obtain ⟨rfl, hP, hK, hE⟩ := hv
  have hx := B.exec
  have hb := B.bytes
  have hr := B.returns
  have hts := atoms_spec (ws := wsX2_turnoverOf) B.pre
  have hown : s.vm.findClass RX2 = some m.cls := findClass_of_methodNamed B.named
  have hlocks := B.notSynchronized
  have hc : CallFix p m c cX2_turnoverOf 7 s ([.ref (ad 0 0), .int p0] : List Value).toArray wsX2_turnoverOf RX2 := ⟨hx, hb, hml, hown, hts⟩
  have hin2 : ∀ w ∈ u_ws RX2 TX2 6, w ∈ wsX2_turnoverOf := by decide +kernel
  have hXP := hP
  obtain ⟨hn, hd, hP, hT, hF⟩ := hP
  have hP : va_P D vwCl (xW K ad n d S) s.heap := hP
  have hl := lv_entry ([.ref (ad 0 0), .int p0]) (n := 7) (Nat.le_of_ble_eq_true rfl)
  rw [lg_entry_eq]
  generalize (lg_sl ([.ref (ad 0 0), .int p0]) ++ List.replicate (7 - (lg_sl ([.ref (ad 0 0), .int p0])).length) Slot.unset).toArray = ls at hl ⊢
  have hl : lv_has ls 7 [(0, .ref (ad 0 0)), (1, .int p0)] := hl
  refine lv_iconst (v := 0) hx hb dX2_turnoverOf_0 (by decide) ?_
  refine lv_istore_n (lv' := [(2, .int 0), (0, .ref (ad 0 0)), (1, .int p0)]) hx hb dX2_turnoverOf_1 rfl hl (by decide) rfl (fun ls hl => ?_)
  refine lv_aload_n hx hb dX2_turnoverOf_2 rfl (lv_at hl 1 rfl) ?_
  refine va_get (D := D) (ci := 2) (v := .ref (ad 1 0)) (C := RX2) (T := TX2) (N := 6) hx hb hts hin2 hown hK hP 0 rfl rfl 0 (by decide) (hts (.fieldLink RX2 11 "CartelWatch" "tenders" "[LCartelWatch$Tender;") (by decide +kernel)) (fun _ h9 => h9) rfl dX2_turnoverOf_3 ?_
  refine lv_astore_n (lv' := [(3, .ref (ad 1 0)), (2, .int 0), (0, .ref (ad 0 0)), (1, .int p0)]) hx hb dX2_turnoverOf_6 rfl hl (by decide) rfl (fun ls hl => ?_)
  refine lv_aload_n hx hb dX2_turnoverOf_7 rfl (lv_at hl 0 rfl) ?_
  refine va_alen (v := 30) hx hb hK hP 1 3 rfl rfl rfl dX2_turnoverOf_8 ?_
  refine lv_istore (lv' := [(4, .int 30), (3, .ref (ad 1 0)), (2, .int 0), (0, .ref (ad 0 0)), (1, .int p0)]) hx hb dX2_turnoverOf_9 hl (by decide) rfl (fun ls hl => ?_)
  refine W.eq (g2 := F0 m 11 ls []) rfl ?_
  refine lv_iconst (v := 0) hx hb dX2_turnoverOf_11 (by decide) ?_
  refine lv_istore (lv' := [(5, .int 0), (4, .int 30), (3, .ref (ad 1 0)), (2, .int 0), (0, .ref (ad 0 0)), (1, .int p0)]) hx hb dX2_turnoverOf_12 hl (by decide) rfl (fun ls hl => ?_)
  have hloop_14 : ∀ (n14 k : Nat), k ≤ 30 → 30 + 1 ≤ k + n14 → ∀ (a14_2 x14 : Int32) (ls : Array Slot), a14_2 = sp_X2_turnoverOf_L14 n S p0 k → x14 = nI k → lv_has ls 7 [(0, .ref (ad 0 0)), (1, .int p0), (2, .int a14_2), (3, .ref (ad 1 0)), (4, .int 30), (5, .int x14)] → W p l e ({ frames := 3, cells := 0, slots := 0, locals := 62 } : Room) s m ([.ref (ad 0 0), .int p0] : List Value).toArray below meth c s.heap [] 0 0 (MQ below (QcV (.int (sp_X2_turnoverOf n S p0))) ([.ref (ad 0 0), .int p0] : List Value).toArray s 0 0 (fun _ => False)) (F0 m 14 ls []) := by
    intro n14
    induction n14 with
    | zero => intro k h1 h2; exact absurd h2 (by omega)
    | succ n14 ih_14 =>
      intro k hk_14 hn_14 a14_2 x14 ls ea14_2 ex14 hl
      subst ea14_2
      subst ex14
      refine lv_iload hx hb dX2_turnoverOf_14 (lv_at hl 5 rfl) ?_
      refine lv_iload hx hb dX2_turnoverOf_16 (lv_at hl 4 rfl) ?_
      refine lv_icmp_ge (tgt := 47) hx hb dX2_turnoverOf_18 (by decide) (fun c_18 => ?_) (fun c_18 => ?_)
      · skip
        have hke_14 : 30 = k := (lp_end rfl c_18 hk_14 (by decide)).symm
        subst hke_14
        refine lv_iload_n hx hb dX2_turnoverOf_47 rfl (lv_at hl 2 rfl) ?_
        exact pu_iret hx hb hr hlocks dX2_turnoverOf_48 (Eq.symm (rfl))
      · skip
        have hlt_14 : k < 30 := lp_in rfl c_18 hk_14 (by decide)
        refine lv_aload_n hx hb dX2_turnoverOf_21 rfl (lv_at hl 3 rfl) ?_
        refine lv_iload hx hb dX2_turnoverOf_22 (lv_at hl 5 rfl) ?_
        refine va_aldq hx hb hK hP 1 3 (cA := K 3) rfl rfl (vp_in_nI hlt_14 (by decide)) dX2_turnoverOf_24 ?_
        rcases tArr_or (x := (nI k)) (vp_in_nI hlt_14 (by decide)) with ⟨hs_24, qs_24⟩ | ⟨hs_24, qs_24⟩
        · skip
          refine W.eq (g2 := F0 m 25 ls [.ref (ad 4 ((nI k).toNatClampNeg))]) (by rw [qs_24]; rfl) ?_
          refine W.eq (g2 := F0 m 25 ls [.ref (ad 4 ((nI k).toNatClampNeg))]) rfl ?_
          refine lv_astore (lv' := [(6, .ref (ad 4 ((nI k).toNatClampNeg))), (0, .ref (ad 0 0)), (1, .int p0), (2, .int (sp_X2_turnoverOf_L14 n S p0 k)), (3, .ref (ad 1 0)), (4, .int 30), (5, .int (nI k))]) hx hb dX2_turnoverOf_25 hl (by decide) rfl (fun ls hl => ?_)
          refine lv_aload hx hb dX2_turnoverOf_27 (lv_at hl 0 rfl) ?_
          refine lv_ifnull hx hb dX2_turnoverOf_29 ?_
          refine lv_iload_n hx hb dX2_turnoverOf_32 rfl (lv_at hl 3 rfl) ?_
          refine lv_aload hx hb dX2_turnoverOf_33 (lv_at hl 0 rfl) ?_
          refine lv_iload_n hx hb dX2_turnoverOf_35 rfl (lv_at hl 2 rfl) ?_
          refine pu_V (As := [.int p0]) (rest := [.int (sp_X2_turnoverOf_L14 n S p0 k)]) hc (c_X1_incomeOf l D K (ad 4 ((nI k).toNatClampNeg)) (ad 5 ((nI k).toNatClampNeg)) (ad 6 ((nI k).toNatClampNeg)) (S 1 ((nI k).toNatClampNeg)) (S 2 ((nI k).toNatClampNeg)) (S 3 ((nI k).toNatClampNeg) 0) (S 4 ((nI k).toNatClampNeg) 0) (S 5 ((nI k).toNatClampNeg) 0) (S 6 ((nI k).toNatClampNeg) 0) p0) (cwV 1 hts gX2_turnoverOf_X1_incomeOf rfl rfl rfl (by decide +kernel) ⟨Nat.le_of_ble_eq_true rfl, Nat.le_of_ble_eq_true rfl⟩) (hT ((nI k).toNatClampNeg) (tIn_lt hs_24 (by omega))) hK hE (va_recv hK (hT ((nI k).toNatClampNeg) (tIn_lt hs_24 (by omega))) (ci := 1) (q0 := 0) rfl rfl) rfl rfl hl.1 (Nat.le_of_ble_eq_true rfl) dX2_turnoverOf_36 ⟨Nat.le_of_ble_eq_true rfl, Nat.le_of_ble_eq_true rfl⟩ ?_
          refine lv_iadd hx hb dX2_turnoverOf_39 ?_
          refine W.eq (g2 := F0 m 40 ls [.int ((sp_X2_turnoverOf_L14 n S p0 k) + (sp_X1_incomeOf (S 1 ((nI k).toNatClampNeg)) (S 4 ((nI k).toNatClampNeg) 0) (S 5 ((nI k).toNatClampNeg) 0) (S 6 ((nI k).toNatClampNeg) 0) p0))]) rfl ?_
          refine lv_istore_n (lv' := [(2, .int ((sp_X2_turnoverOf_L14 n S p0 k) + (sp_X1_incomeOf (S 1 ((nI k).toNatClampNeg)) (S 4 ((nI k).toNatClampNeg) 0) (S 5 ((nI k).toNatClampNeg) 0) (S 6 ((nI k).toNatClampNeg) 0) p0))), (6, .ref (ad 4 ((nI k).toNatClampNeg))), (0, .ref (ad 0 0)), (1, .int p0), (3, .ref (ad 1 0)), (4, .int 30), (5, .int (nI k))]) hx hb dX2_turnoverOf_40 rfl hl (by decide) rfl (fun ls hl => ?_)
          refine lv_iinc (v := (nI k) + 1) (lv' := [(5, .int ((nI k) + 1)), (2, .int ((sp_X2_turnoverOf_L14 n S p0 k) + (sp_X1_incomeOf (S 1 ((nI k).toNatClampNeg)) (S 4 ((nI k).toNatClampNeg) 0) (S 5 ((nI k).toNatClampNeg) 0) (S 6 ((nI k).toNatClampNeg) 0) p0))), (6, .ref (ad 4 ((nI k).toNatClampNeg))), (0, .ref (ad 0 0)), (1, .int p0), (3, .ref (ad 1 0)), (4, .int 30)]) hx hb dX2_turnoverOf_41 hl (k := 6) rfl (rfl) (by decide) rfl (fun ls hl => ?_)
          refine lv_goto (tgt := 14) hx hb dX2_turnoverOf_44 (by decide) ?_
          exact ih_14 (k + 1) hlt_14 (by omega) _ _ ls (Eq.symm (Eq.trans (if_pos hs_24) (rfl))) (nI_1 k) (lv_sub hl [3, 4, 1, 5, 6, 0] rfl)
        · skip
          refine W.eq (g2 := F0 m 25 ls [.null]) (by rw [qs_24]; rfl) ?_
          refine W.eq (g2 := F0 m 25 ls [.null]) rfl ?_
          refine lv_astoreN (lv' := [(6, .null), (0, .ref (ad 0 0)), (1, .int p0), (2, .int (sp_X2_turnoverOf_L14 n S p0 k)), (3, .ref (ad 1 0)), (4, .int 30), (5, .int (nI k))]) hx hb dX2_turnoverOf_25 hl (by decide) rfl (fun ls hl => ?_)
          refine lv_aloadN hx hb dX2_turnoverOf_27 (lv_at hl 0 rfl) ?_
          refine lv_ifnullN (tgt := 41) hx hb dX2_turnoverOf_29 (by decide) ?_
          refine lv_iinc (v := (nI k) + 1) (lv' := [(5, .int ((nI k) + 1)), (6, .null), (0, .ref (ad 0 0)), (1, .int p0), (2, .int (sp_X2_turnoverOf_L14 n S p0 k)), (3, .ref (ad 1 0)), (4, .int 30)]) hx hb dX2_turnoverOf_41 hl (k := 6) rfl (rfl) (by decide) rfl (fun ls hl => ?_)
          refine lv_goto (tgt := 14) hx hb dX2_turnoverOf_44 (by decide) ?_
          exact ih_14 (k + 1) hlt_14 (by omega) _ _ ls (Eq.symm (Eq.trans (if_neg (ntr hs_24)) (rfl))) (nI_1 k) (lv_sub hl [2, 3, 4, 5, 6, 0] rfl)
  exact hloop_14 (30 + 1) 0 (Nat.zero_le _) (by omega) _ _ ls rfl nI_0.symm (lv_sub hl [4, 5, 3, 2, 1, 0] rfl)

def sp_X2_lastWinnerBefore_A (n : Nat) (S : Nat → Nat → Nat → Int32) (p1 p2 : Int32) : Nat → Int32
  | 0 => (-1)
  | j + 1 => if tIn n (nI j) = true then (if sp_X1_isAwarded (S 4 ((nI j).toNatClampNeg) 0) = true then (if sp_X1_isStanding (S 1 ((nI j).toNatClampNeg)) (S 2 ((nI j).toNatClampNeg)) p1 = true then (if sp_X1_isStanding (S 1 ((nI j).toNatClampNeg)) (S 2 ((nI j).toNatClampNeg)) p2 = true then (sp_X1_winner (S 4 ((nI j).toNatClampNeg) 0)) else (sp_X2_lastWinnerBefore_A n S p1 p2 j)) else (sp_X2_lastWinnerBefore_A n S p1 p2 j)) else (sp_X2_lastWinnerBefore_A n S p1 p2 j)) else (sp_X2_lastWinnerBefore_A n S p1 p2 j)
def sp_X2_lastWinnerBefore (n : Nat) (S : Nat → Nat → Nat → Int32) (p0 : Int32) (p1 : Int32) (p2 : Int32) : Int32 := sp_X2_lastWinnerBefore_A n S p1 p2 p0.toNatClampNeg
set_option maxHeartbeats 4000000 in
set_option maxRecDepth 100000 in
theorem c_X2_lastWinnerBefore (l : Launch) (D : va_G) (K : Nat → ClassId) (ad : Nat → Nat → Nat) (n d : Nat) (S : Nat → Nat → Nat → Int32) (p0 p1 p2 : Int32) (hp : p0 = nI p0.toNatClampNeg) (hp30 : p0.toNatClampNeg ≤ 30) : PU l yX2_lastWinnerBefore wsX2_lastWinnerBefore 2 41 D K [.ref (ad 0 0), .int p0, .int p1, .int p2] (fun H => XP D K ad n d S H) (.int (sp_X2_lastWinnerBefore n S p0 p1 p2)) := by
  refine Met.ofW (cc := cX2_lastWinnerBefore) (maxL := 6) (ret := (some .int)) (by decide) rfl ?_
  intro p e s m args below meth c s₁ B hml hv
  obtain ⟨rfl, hP, hK, hE⟩ := hv
  have hx := B.exec
  have hb := B.bytes
  have hr := B.returns
  have hts := atoms_spec (ws := wsX2_lastWinnerBefore) B.pre
  have hown : s.vm.findClass RX2 = some m.cls := findClass_of_methodNamed B.named
  have hlocks := B.notSynchronized
  have hc : CallFix p m c cX2_lastWinnerBefore 6 s ([.ref (ad 0 0), .int p0, .int p1, .int p2] : List Value).toArray wsX2_lastWinnerBefore RX2 := ⟨hx, hb, hml, hown, hts⟩
  have hXP := hP
  obtain ⟨hn, hd, hP, hT, hF⟩ := hP
  have hP : va_P D vwCl (xW K ad n d S) s.heap := hP
  have hl := lv_entry ([.ref (ad 0 0), .int p0, .int p1, .int p2]) (n := 6) (Nat.le_of_ble_eq_true rfl)
  rw [lg_entry_eq]
  generalize (lg_sl ([.ref (ad 0 0), .int p0, .int p1, .int p2]) ++ List.replicate (6 - (lg_sl ([.ref (ad 0 0), .int p0, .int p1, .int p2])).length) Slot.unset).toArray = ls at hl ⊢
  have hl : lv_has ls 6 [(0, .ref (ad 0 0)), (1, .int p0), (2, .int p1), (3, .int p2)] := hl
  refine lv_iload_n hx hb dX2_lastWinnerBefore_0 rfl (lv_at hl 1 rfl) ?_
  refine lv_iconst (v := 1) hx hb dX2_lastWinnerBefore_1 (by decide) ?_
  refine lv_isub hx hb dX2_lastWinnerBefore_2 ?_
  refine lv_istore (lv' := [(4, .int (p0 - 1)), (0, .ref (ad 0 0)), (1, .int p0), (2, .int p1), (3, .int p2)]) hx hb dX2_lastWinnerBefore_3 hl (by decide) rfl (fun ls hl => ?_)
  have hloop_5 : ∀ (j : Nat), j ≤ 30 → ∀ (x5 : Int32) (ls : Array Slot), x5 = nI j - 1 → sp_X2_lastWinnerBefore_A n S p1 p2 j = sp_X2_lastWinnerBefore n S p0 p1 p2 → lv_has ls 6 [(0, .ref (ad 0 0)), (1, .int p0), (2, .int p1), (3, .int p2), (4, .int x5)] → W p l e ({ frames := 2, cells := 0, slots := 0, locals := 41 } : Room) s m ([.ref (ad 0 0), .int p0, .int p1, .int p2] : List Value).toArray below meth c s.heap [] 0 0 (MQ below (QcV (.int (sp_X2_lastWinnerBefore n S p0 p1 p2))) ([.ref (ad 0 0), .int p0, .int p1, .int p2] : List Value).toArray s 0 0 (fun _ => False)) (F0 m 5 ls []) := by
    intro j
    induction j with
    | zero =>
      intro _ x5 ls ex5 hA_5 hl
      have ex5 : x5 = -1 := by rw [ex5]; decide
      subst ex5
      refine lv_iload hx hb dX2_lastWinnerBefore_5 (lv_at hl 4 rfl) ?_
      refine lv_if_lt (tgt := 61) hx hb dX2_lastWinnerBefore_7 (by decide) (fun c_7 => ?_) (fun c_7 => ?_)
      · skip
        refine lv_iconst (v := -1) hx hb dX2_lastWinnerBefore_61 (by decide) ?_
        exact pu_iret hx hb hr hlocks dX2_lastWinnerBefore_62 (Eq.trans (Eq.symm (rfl)) hA_5)
      · skip
        exact absurd (by decide) c_7
    | succ j ih_5 =>
      intro hj_5 x5 ls ex5 hA_5 hl
      rw [nI_pred] at ex5
      subst ex5
      refine lv_iload hx hb dX2_lastWinnerBefore_5 (lv_at hl 4 rfl) ?_
      refine lv_if_lt (tgt := 61) hx hb dX2_lastWinnerBefore_7 (by decide) (fun c_7 => ?_) (fun c_7 => ?_)
      · skip
        exact absurd c_7 (nI_pos (by omega))
      · skip
        refine lv_aload_n hx hb dX2_lastWinnerBefore_10 rfl (lv_at hl 0 rfl) ?_
        refine lv_iload hx hb dX2_lastWinnerBefore_11 (lv_at hl 4 rfl) ?_
        refine W.eq (g2 := F0 m 13 ls [.int (nI j), .ref (ad 0 0)]) rfl ?_
        refine pu_V (As := [.int (nI j)]) (rest := []) hc (c_X2_tenderAt l D K ad n d S (nI j)) (cwV 1 hts gX2_lastWinnerBefore_X2_tenderAt rfl rfl rfl (by decide +kernel) ⟨Nat.le_of_ble_eq_true rfl, Nat.le_of_ble_eq_true rfl⟩) hXP hK hE (va_recv hK hP (ci := 2) (q0 := 0) rfl rfl) rfl rfl hl.1 (Nat.le_of_ble_eq_true rfl) dX2_lastWinnerBefore_13 ⟨Nat.le_of_ble_eq_true rfl, Nat.le_of_ble_eq_true rfl⟩ ?_
        rcases tAt_or (ad := ad) (x := (nI j)) hn with ⟨hs_13, qs_13⟩ | ⟨hs_13, qs_13⟩
        · skip
          refine W.eq (g2 := F0 m 16 ls [.ref (ad 4 ((nI j).toNatClampNeg))]) (by rw [qs_13]; rfl) ?_
          refine lv_astore (lv' := [(5, .ref (ad 4 ((nI j).toNatClampNeg))), (0, .ref (ad 0 0)), (1, .int p0), (2, .int p1), (3, .int p2), (4, .int (nI j))]) hx hb dX2_lastWinnerBefore_16 hl (by decide) rfl (fun ls hl => ?_)
          refine lv_aload hx hb dX2_lastWinnerBefore_18 (lv_at hl 0 rfl) ?_
          refine lv_ifnull hx hb dX2_lastWinnerBefore_20 ?_
          refine lv_aload hx hb dX2_lastWinnerBefore_23 (lv_at hl 0 rfl) ?_
          refine pu_V (As := []) (rest := []) hc (c_X1_isAwarded l D K (ad 4 ((nI j).toNatClampNeg)) (ad 5 ((nI j).toNatClampNeg)) (ad 6 ((nI j).toNatClampNeg)) (S 1 ((nI j).toNatClampNeg)) (S 2 ((nI j).toNatClampNeg)) (S 3 ((nI j).toNatClampNeg) 0) (S 4 ((nI j).toNatClampNeg) 0) (S 5 ((nI j).toNatClampNeg) 0) (S 6 ((nI j).toNatClampNeg) 0)) (cwV 0 hts gX2_lastWinnerBefore_X1_isAwarded rfl rfl rfl (by decide +kernel) ⟨Nat.le_of_ble_eq_true rfl, Nat.le_of_ble_eq_true rfl⟩) (hT ((nI j).toNatClampNeg) (tIn_lt hs_13 (by omega))) hK hE (va_recv hK (hT ((nI j).toNatClampNeg) (tIn_lt hs_13 (by omega))) (ci := 1) (q0 := 0) rfl rfl) rfl rfl hl.1 (Nat.le_of_ble_eq_true rfl) dX2_lastWinnerBefore_25 ⟨Nat.le_of_ble_eq_true rfl, Nat.le_of_ble_eq_true rfl⟩ ?_
          refine lb_eq (tgt := 55) hx hb dX2_lastWinnerBefore_28 (by decide) (fun c_28 => ?_) (fun c_28 => ?_)
          · skip
            refine lv_iinc (v := (nI j) - 1) (lv' := [(4, .int ((nI j) - 1)), (5, .ref (ad 4 ((nI j).toNatClampNeg))), (0, .ref (ad 0 0)), (1, .int p0), (2, .int p1), (3, .int p2)]) hx hb dX2_lastWinnerBefore_55 hl (k := 5) rfl (by rw [Int32.sub_eq_add_neg]; rfl) (by decide) rfl (fun ls hl => ?_)
            refine lv_goto (tgt := 5) hx hb dX2_lastWinnerBefore_58 (by decide) ?_
            exact ih_5 (by omega) _ ls rfl (Eq.trans (Eq.symm (Eq.trans (if_pos hs_13) (Eq.trans (if_neg (ntr c_28)) (rfl)))) hA_5) (lv_sub hl [2, 3, 4, 5, 0] rfl)
          · skip
            refine lv_aload hx hb dX2_lastWinnerBefore_31 (lv_at hl 0 rfl) ?_
            refine W.eq (g2 := F0 m 33 ls [.ref (ad 4 ((nI j).toNatClampNeg))]) rfl ?_
            refine lv_iload_n hx hb dX2_lastWinnerBefore_33 rfl (lv_at hl 3 rfl) ?_
            refine pu_V (As := [.int p1]) (rest := []) hc (c_X1_isStanding l D K (ad 4 ((nI j).toNatClampNeg)) (ad 5 ((nI j).toNatClampNeg)) (ad 6 ((nI j).toNatClampNeg)) (S 1 ((nI j).toNatClampNeg)) (S 2 ((nI j).toNatClampNeg)) (S 3 ((nI j).toNatClampNeg) 0) (S 4 ((nI j).toNatClampNeg) 0) (S 5 ((nI j).toNatClampNeg) 0) (S 6 ((nI j).toNatClampNeg) 0) p1) (cwV 1 hts gX2_lastWinnerBefore_X1_isStanding rfl rfl rfl (by decide +kernel) ⟨Nat.le_of_ble_eq_true rfl, Nat.le_of_ble_eq_true rfl⟩) (hT ((nI j).toNatClampNeg) (tIn_lt hs_13 (by omega))) hK hE (va_recv hK (hT ((nI j).toNatClampNeg) (tIn_lt hs_13 (by omega))) (ci := 1) (q0 := 0) rfl rfl) rfl rfl hl.1 (Nat.le_of_ble_eq_true rfl) dX2_lastWinnerBefore_34 ⟨Nat.le_of_ble_eq_true rfl, Nat.le_of_ble_eq_true rfl⟩ ?_
            refine lb_eq (tgt := 55) hx hb dX2_lastWinnerBefore_37 (by decide) (fun c_37 => ?_) (fun c_37 => ?_)
            · skip
              refine lv_iinc (v := (nI j) - 1) (lv' := [(4, .int ((nI j) - 1)), (5, .ref (ad 4 ((nI j).toNatClampNeg))), (0, .ref (ad 0 0)), (1, .int p0), (2, .int p1), (3, .int p2)]) hx hb dX2_lastWinnerBefore_55 hl (k := 5) rfl (by rw [Int32.sub_eq_add_neg]; rfl) (by decide) rfl (fun ls hl => ?_)
              refine lv_goto (tgt := 5) hx hb dX2_lastWinnerBefore_58 (by decide) ?_
              exact ih_5 (by omega) _ ls rfl (Eq.trans (Eq.symm (Eq.trans (if_pos hs_13) (Eq.trans (if_pos c_28) (Eq.trans (if_neg (ntr c_37)) (rfl))))) hA_5) (lv_sub hl [2, 3, 4, 5, 0] rfl)
            · skip
              refine lv_aload hx hb dX2_lastWinnerBefore_40 (lv_at hl 0 rfl) ?_
              refine lv_iload_n hx hb dX2_lastWinnerBefore_42 rfl (lv_at hl 4 rfl) ?_
              refine pu_V (As := [.int p2]) (rest := []) hc (c_X1_isStanding l D K (ad 4 ((nI j).toNatClampNeg)) (ad 5 ((nI j).toNatClampNeg)) (ad 6 ((nI j).toNatClampNeg)) (S 1 ((nI j).toNatClampNeg)) (S 2 ((nI j).toNatClampNeg)) (S 3 ((nI j).toNatClampNeg) 0) (S 4 ((nI j).toNatClampNeg) 0) (S 5 ((nI j).toNatClampNeg) 0) (S 6 ((nI j).toNatClampNeg) 0) p2) (cwV 1 hts gX2_lastWinnerBefore_X1_isStanding rfl rfl rfl (by decide +kernel) ⟨Nat.le_of_ble_eq_true rfl, Nat.le_of_ble_eq_true rfl⟩) (hT ((nI j).toNatClampNeg) (tIn_lt hs_13 (by omega))) hK hE (va_recv hK (hT ((nI j).toNatClampNeg) (tIn_lt hs_13 (by omega))) (ci := 1) (q0 := 0) rfl rfl) rfl rfl hl.1 (Nat.le_of_ble_eq_true rfl) dX2_lastWinnerBefore_43 ⟨Nat.le_of_ble_eq_true rfl, Nat.le_of_ble_eq_true rfl⟩ ?_
              refine lb_eq (tgt := 55) hx hb dX2_lastWinnerBefore_46 (by decide) (fun c_46 => ?_) (fun c_46 => ?_)
              · skip
                refine lv_iinc (v := (nI j) - 1) (lv' := [(4, .int ((nI j) - 1)), (5, .ref (ad 4 ((nI j).toNatClampNeg))), (0, .ref (ad 0 0)), (1, .int p0), (2, .int p1), (3, .int p2)]) hx hb dX2_lastWinnerBefore_55 hl (k := 5) rfl (by rw [Int32.sub_eq_add_neg]; rfl) (by decide) rfl (fun ls hl => ?_)
                refine lv_goto (tgt := 5) hx hb dX2_lastWinnerBefore_58 (by decide) ?_
                exact ih_5 (by omega) _ ls rfl (Eq.trans (Eq.symm (Eq.trans (if_pos hs_13) (Eq.trans (if_pos c_28) (Eq.trans (if_pos c_37) (Eq.trans (if_neg (ntr c_46)) (rfl)))))) hA_5) (lv_sub hl [2, 3, 4, 5, 0] rfl)
              · skip
                refine lv_aload hx hb dX2_lastWinnerBefore_49 (lv_at hl 0 rfl) ?_
                refine W.eq (g2 := F0 m 51 ls [.ref (ad 4 ((nI j).toNatClampNeg))]) rfl ?_
                refine pu_V (As := []) (rest := []) hc (c_X1_winner l D K (ad 4 ((nI j).toNatClampNeg)) (ad 5 ((nI j).toNatClampNeg)) (ad 6 ((nI j).toNatClampNeg)) (S 1 ((nI j).toNatClampNeg)) (S 2 ((nI j).toNatClampNeg)) (S 3 ((nI j).toNatClampNeg) 0) (S 4 ((nI j).toNatClampNeg) 0) (S 5 ((nI j).toNatClampNeg) 0) (S 6 ((nI j).toNatClampNeg) 0)) (cwV 0 hts gX2_lastWinnerBefore_X1_winner rfl rfl rfl (by decide +kernel) ⟨Nat.le_of_ble_eq_true rfl, Nat.le_of_ble_eq_true rfl⟩) (hT ((nI j).toNatClampNeg) (tIn_lt hs_13 (by omega))) hK hE (va_recv hK (hT ((nI j).toNatClampNeg) (tIn_lt hs_13 (by omega))) (ci := 1) (q0 := 0) rfl rfl) rfl rfl hl.1 (Nat.le_of_ble_eq_true rfl) dX2_lastWinnerBefore_51 ⟨Nat.le_of_ble_eq_true rfl, Nat.le_of_ble_eq_true rfl⟩ ?_
                exact pu_iret hx hb hr hlocks dX2_lastWinnerBefore_54 (Eq.trans (Eq.symm (Eq.trans (if_pos hs_13) (Eq.trans (if_pos c_28) (Eq.trans (if_pos c_37) (Eq.trans (if_pos c_46) (rfl)))))) hA_5)
        · skip
          refine W.eq (g2 := F0 m 16 ls [.null]) (by rw [qs_13]; rfl) ?_
          refine lv_astoreN (lv' := [(5, .null), (0, .ref (ad 0 0)), (1, .int p0), (2, .int p1), (3, .int p2), (4, .int (nI j))]) hx hb dX2_lastWinnerBefore_16 hl (by decide) rfl (fun ls hl => ?_)
          refine lv_aloadN hx hb dX2_lastWinnerBefore_18 (lv_at hl 0 rfl) ?_
          refine lv_ifnullN (tgt := 55) hx hb dX2_lastWinnerBefore_20 (by decide) ?_
          refine lv_iinc (v := (nI j) - 1) (lv' := [(4, .int ((nI j) - 1)), (5, .null), (0, .ref (ad 0 0)), (1, .int p0), (2, .int p1), (3, .int p2)]) hx hb dX2_lastWinnerBefore_55 hl (k := 5) rfl (by rw [Int32.sub_eq_add_neg]; rfl) (by decide) rfl (fun ls hl => ?_)
          refine lv_goto (tgt := 5) hx hb dX2_lastWinnerBefore_58 (by decide) ?_
          exact ih_5 (by omega) _ ls rfl (Eq.trans (Eq.symm (Eq.trans (if_neg (ntr hs_13)) (rfl))) hA_5) (lv_sub hl [2, 3, 4, 5, 0] rfl)
  exact hloop_5 p0.toNatClampNeg hp30 _ ls (by rw [← hp]) rfl (lv_sub hl [1, 2, 3, 4, 0] rfl)

def sp_X2_countOf (n : Nat) (S : Nat → Nat → Nat → Int32) (p0 : Int32) (p1 : Int32) (p2 : Int32) : Int32 := if tIn n p0 = true then (if (sp_X1_winner (S 4 p0.toNatClampNeg 0)) = p1 then (if sp_X1_isStanding (S 1 p0.toNatClampNeg) (S 2 p0.toNatClampNeg) p2 = true then (if (sp_X2_lastWinnerBefore n S p0 (sp_X1_winner (S 4 p0.toNatClampNeg 0)) p2) = p2 then ((sp_X1_signsOfLoser (S 1 p0.toNatClampNeg) (S 2 p0.toNatClampNeg) (S 4 p0.toNatClampNeg 0) (S 5 p0.toNatClampNeg 0) p2) + 4) else (sp_X1_signsOfLoser (S 1 p0.toNatClampNeg) (S 2 p0.toNatClampNeg) (S 4 p0.toNatClampNeg 0) (S 5 p0.toNatClampNeg 0) p2)) else (sp_X1_signsOfLoser (S 1 p0.toNatClampNeg) (S 2 p0.toNatClampNeg) (S 4 p0.toNatClampNeg 0) (S 5 p0.toNatClampNeg 0) p2)) else (if (sp_X1_winner (S 4 p0.toNatClampNeg 0)) = p2 then (if sp_X1_isStanding (S 1 p0.toNatClampNeg) (S 2 p0.toNatClampNeg) p1 = true then (if (sp_X2_lastWinnerBefore n S p0 (sp_X1_winner (S 4 p0.toNatClampNeg 0)) p1) = p1 then ((sp_X1_signsOfLoser (S 1 p0.toNatClampNeg) (S 2 p0.toNatClampNeg) (S 4 p0.toNatClampNeg 0) (S 5 p0.toNatClampNeg 0) p1) + 4) else (sp_X1_signsOfLoser (S 1 p0.toNatClampNeg) (S 2 p0.toNatClampNeg) (S 4 p0.toNatClampNeg 0) (S 5 p0.toNatClampNeg 0) p1)) else (sp_X1_signsOfLoser (S 1 p0.toNatClampNeg) (S 2 p0.toNatClampNeg) (S 4 p0.toNatClampNeg 0) (S 5 p0.toNatClampNeg 0) p1)) else 0)) else 0
set_option maxHeartbeats 4000000 in
set_option maxRecDepth 100000 in
theorem c_X2_countOf (l : Launch) (D : va_G) (K : Nat → ClassId) (ad : Nat → Nat → Nat) (n d : Nat) (S : Nat → Nat → Nat → Int32) (p0 p1 p2 : Int32) : PU l yX2_countOf wsX2_countOf 4 85 D K [.ref (ad 0 0), .int p0, .int p1, .int p2] (fun H => XP D K ad n d S H) (.int (sp_X2_countOf n S p0 p1 p2)) := by
  refine Met.ofW (cc := cX2_countOf) (maxL := 8) (ret := (some .int)) (by decide) rfl ?_
  intro p e s m args below meth c s₁ B hml hv
  obtain ⟨rfl, hP, hK, hE⟩ := hv
  have hx := B.exec
  have hb := B.bytes
  have hr := B.returns
  have hts := atoms_spec (ws := wsX2_countOf) B.pre
  have hown : s.vm.findClass RX2 = some m.cls := findClass_of_methodNamed B.named
  have hlocks := B.notSynchronized
  have hc : CallFix p m c cX2_countOf 8 s ([.ref (ad 0 0), .int p0, .int p1, .int p2] : List Value).toArray wsX2_countOf RX2 := ⟨hx, hb, hml, hown, hts⟩
  have hXP := hP
  obtain ⟨hn, hd, hP, hT, hF⟩ := hP
  have hP : va_P D vwCl (xW K ad n d S) s.heap := hP
  have hl := lv_entry ([.ref (ad 0 0), .int p0, .int p1, .int p2]) (n := 8) (Nat.le_of_ble_eq_true rfl)
  rw [lg_entry_eq]
  generalize (lg_sl ([.ref (ad 0 0), .int p0, .int p1, .int p2]) ++ List.replicate (8 - (lg_sl ([.ref (ad 0 0), .int p0, .int p1, .int p2])).length) Slot.unset).toArray = ls at hl ⊢
  have hl : lv_has ls 8 [(0, .ref (ad 0 0)), (1, .int p0), (2, .int p1), (3, .int p2)] := hl
  refine lv_aload_n hx hb dX2_countOf_0 rfl (lv_at hl 0 rfl) ?_
  refine lv_iload_n hx hb dX2_countOf_1 rfl (lv_at hl 1 rfl) ?_
  refine pu_V (As := [.int p0]) (rest := []) hc (c_X2_tenderAt l D K ad n d S p0) (cwV 1 hts gX2_countOf_X2_tenderAt rfl rfl rfl (by decide +kernel) ⟨Nat.le_of_ble_eq_true rfl, Nat.le_of_ble_eq_true rfl⟩) hXP hK hE (va_recv hK hP (ci := 2) (q0 := 0) rfl rfl) rfl rfl hl.1 (Nat.le_of_ble_eq_true rfl) dX2_countOf_2 ⟨Nat.le_of_ble_eq_true rfl, Nat.le_of_ble_eq_true rfl⟩ ?_
  rcases tAt_or (ad := ad) (x := p0) hn with ⟨hs_2, qs_2⟩ | ⟨hs_2, qs_2⟩
  · skip
    refine W.eq (g2 := F0 m 5 ls [.ref (ad 4 p0.toNatClampNeg)]) (by rw [qs_2]; rfl) ?_
    refine lv_astore (lv' := [(4, .ref (ad 4 p0.toNatClampNeg)), (0, .ref (ad 0 0)), (1, .int p0), (2, .int p1), (3, .int p2)]) hx hb dX2_countOf_5 hl (by decide) rfl (fun ls hl => ?_)
    refine lv_aload hx hb dX2_countOf_7 (lv_at hl 0 rfl) ?_
    refine lv_ifnonnull (tgt := 14) hx hb dX2_countOf_9 (by decide) ?_
    refine lv_aload hx hb dX2_countOf_14 (lv_at hl 0 rfl) ?_
    refine pu_V (As := []) (rest := []) hc (c_X1_winner l D K (ad 4 p0.toNatClampNeg) (ad 5 p0.toNatClampNeg) (ad 6 p0.toNatClampNeg) (S 1 p0.toNatClampNeg) (S 2 p0.toNatClampNeg) (S 3 p0.toNatClampNeg 0) (S 4 p0.toNatClampNeg 0) (S 5 p0.toNatClampNeg 0) (S 6 p0.toNatClampNeg 0)) (cwV 0 hts gX2_countOf_X1_winner rfl rfl rfl (by decide +kernel) ⟨Nat.le_of_ble_eq_true rfl, Nat.le_of_ble_eq_true rfl⟩) (hT p0.toNatClampNeg (tIn_lt hs_2 (by omega))) hK hE (va_recv hK (hT p0.toNatClampNeg (tIn_lt hs_2 (by omega))) (ci := 1) (q0 := 0) rfl rfl) rfl rfl hl.1 (Nat.le_of_ble_eq_true rfl) dX2_countOf_16 ⟨Nat.le_of_ble_eq_true rfl, Nat.le_of_ble_eq_true rfl⟩ ?_
    refine lv_istore (lv' := [(5, .int (sp_X1_winner (S 4 p0.toNatClampNeg 0))), (4, .ref (ad 4 p0.toNatClampNeg)), (0, .ref (ad 0 0)), (1, .int p0), (2, .int p1), (3, .int p2)]) hx hb dX2_countOf_19 hl (by decide) rfl (fun ls hl => ?_)
    refine lv_iload hx hb dX2_countOf_21 (lv_at hl 0 rfl) ?_
    refine lv_iload_n hx hb dX2_countOf_23 rfl (lv_at hl 4 rfl) ?_
    refine lv_icmp_eq (tgt := 35) hx hb dX2_countOf_24 (by decide) (fun c_24 => ?_) (fun c_24 => ?_)
    · skip
      refine lv_iload hx hb dX2_countOf_35 (lv_at hl 0 rfl) ?_
      refine lv_iload_n hx hb dX2_countOf_37 rfl (lv_at hl 4 rfl) ?_
      have hj_38 : ∀ (ls : Array Slot), lv_has ls 8 [(0, .ref (ad 0 0)), (1, .int p0), (2, .int p1), (3, .int p2), (4, .ref (ad 4 p0.toNatClampNeg)), (5, .int (sp_X1_winner (S 4 p0.toNatClampNeg 0)))] → W p l e ({ frames := 4, cells := 0, slots := 0, locals := 85 } : Room) s m ([.ref (ad 0 0), .int p0, .int p1, .int p2] : List Value).toArray below meth c s.heap [] 0 0 (MQ below (QcV (.int (sp_X2_countOf n S p0 p1 p2))) ([.ref (ad 0 0), .int p0, .int p1, .int p2] : List Value).toArray s 0 0 (fun _ => False)) (F0 m 46 ls [.int p2]) := by
        intro ls hl
        refine lv_istore (lv' := [(6, .int p2), (0, .ref (ad 0 0)), (1, .int p0), (2, .int p1), (3, .int p2), (4, .ref (ad 4 p0.toNatClampNeg)), (5, .int (sp_X1_winner (S 4 p0.toNatClampNeg 0)))]) hx hb dX2_countOf_46 hl (by decide) rfl (fun ls hl => ?_)
        refine lv_aload hx hb dX2_countOf_48 (lv_at hl 5 rfl) ?_
        refine lv_iload hx hb dX2_countOf_50 (lv_at hl 0 rfl) ?_
        refine pu_V (As := [.int p2]) (rest := []) hc (c_X1_signsOfLoser l D K (ad 4 p0.toNatClampNeg) (ad 5 p0.toNatClampNeg) (ad 6 p0.toNatClampNeg) (S 1 p0.toNatClampNeg) (S 2 p0.toNatClampNeg) (S 3 p0.toNatClampNeg 0) (S 4 p0.toNatClampNeg 0) (S 5 p0.toNatClampNeg 0) (S 6 p0.toNatClampNeg 0) p2) (cwV 1 hts gX2_countOf_X1_signsOfLoser rfl rfl rfl (by decide +kernel) ⟨Nat.le_of_ble_eq_true rfl, Nat.le_of_ble_eq_true rfl⟩) (hT p0.toNatClampNeg (tIn_lt hs_2 (by omega))) hK hE (va_recv hK (hT p0.toNatClampNeg (tIn_lt hs_2 (by omega))) (ci := 1) (q0 := 0) rfl rfl) rfl rfl hl.1 (Nat.le_of_ble_eq_true rfl) dX2_countOf_52 ⟨Nat.le_of_ble_eq_true rfl, Nat.le_of_ble_eq_true rfl⟩ ?_
        refine lv_istore (lv' := [(7, .int (sp_X1_signsOfLoser (S 1 p0.toNatClampNeg) (S 2 p0.toNatClampNeg) (S 4 p0.toNatClampNeg 0) (S 5 p0.toNatClampNeg 0) p2)), (6, .int p2), (0, .ref (ad 0 0)), (1, .int p0), (2, .int p1), (3, .int p2), (4, .ref (ad 4 p0.toNatClampNeg)), (5, .int (sp_X1_winner (S 4 p0.toNatClampNeg 0)))]) hx hb dX2_countOf_55 hl (by decide) rfl (fun ls hl => ?_)
        refine lv_aload hx hb dX2_countOf_57 (lv_at hl 6 rfl) ?_
        refine lv_iload hx hb dX2_countOf_59 (lv_at hl 1 rfl) ?_
        refine pu_V (As := [.int p2]) (rest := []) hc (c_X1_isStanding l D K (ad 4 p0.toNatClampNeg) (ad 5 p0.toNatClampNeg) (ad 6 p0.toNatClampNeg) (S 1 p0.toNatClampNeg) (S 2 p0.toNatClampNeg) (S 3 p0.toNatClampNeg 0) (S 4 p0.toNatClampNeg 0) (S 5 p0.toNatClampNeg 0) (S 6 p0.toNatClampNeg 0) p2) (cwV 1 hts gX2_countOf_X1_isStanding rfl rfl rfl (by decide +kernel) ⟨Nat.le_of_ble_eq_true rfl, Nat.le_of_ble_eq_true rfl⟩) (hT p0.toNatClampNeg (tIn_lt hs_2 (by omega))) hK hE (va_recv hK (hT p0.toNatClampNeg (tIn_lt hs_2 (by omega))) (ci := 1) (q0 := 0) rfl rfl) rfl rfl hl.1 (Nat.le_of_ble_eq_true rfl) dX2_countOf_61 ⟨Nat.le_of_ble_eq_true rfl, Nat.le_of_ble_eq_true rfl⟩ ?_
        refine W.eq (g2 := F0 m 64 ls [.int (bI (sp_X1_isStanding (S 1 p0.toNatClampNeg) (S 2 p0.toNatClampNeg) p2))]) rfl ?_
        refine lb_eq (tgt := 84) hx hb dX2_countOf_64 (by decide) (fun c_64 => ?_) (fun c_64 => ?_)
        · skip
          refine lv_iload hx hb dX2_countOf_84 (lv_at hl 0 rfl) ?_
          exact pu_iret hx hb hr hlocks dX2_countOf_86 (Eq.symm (Eq.trans (if_pos hs_2) (Eq.trans (if_pos c_24) (Eq.trans (if_neg (ntr c_64)) (rfl)))))
        · skip
          refine lv_aload_n hx hb dX2_countOf_67 rfl (lv_at hl 2 rfl) ?_
          refine lv_iload_n hx hb dX2_countOf_68 rfl (lv_at hl 3 rfl) ?_
          refine lv_iload hx hb dX2_countOf_69 (lv_at hl 7 rfl) ?_
          refine lv_iload hx hb dX2_countOf_71 (lv_at hl 1 rfl) ?_
          refine pu_V (As := [.int p0, .int (sp_X1_winner (S 4 p0.toNatClampNeg 0)), .int p2]) (rest := []) hc (c_X2_lastWinnerBefore l D K ad n d S p0 (sp_X1_winner (S 4 p0.toNatClampNeg 0)) p2 (tIn_eq hs_2 (by omega)) (Nat.le_of_lt (Nat.lt_of_lt_of_le (tIn_lt hs_2 (by omega)) hn))) (cwV 3 hts gX2_countOf_X2_lastWinnerBefore rfl rfl rfl (by decide +kernel) ⟨Nat.le_of_ble_eq_true rfl, Nat.le_of_ble_eq_true rfl⟩) hXP hK hE (va_recv hK hP (ci := 2) (q0 := 0) rfl rfl) rfl rfl hl.1 (Nat.le_of_ble_eq_true rfl) dX2_countOf_73 ⟨Nat.le_of_ble_eq_true rfl, Nat.le_of_ble_eq_true rfl⟩ ?_
          refine lv_iload hx hb dX2_countOf_76 (lv_at hl 1 rfl) ?_
          refine lv_icmp_ne (tgt := 84) hx hb dX2_countOf_78 (by decide) (fun c_78 => ?_) (fun c_78 => ?_)
          · skip
            refine lv_iload hx hb dX2_countOf_84 (lv_at hl 0 rfl) ?_
            exact pu_iret hx hb hr hlocks dX2_countOf_86 (Eq.symm (Eq.trans (if_pos hs_2) (Eq.trans (if_pos c_24) (Eq.trans (if_pos c_64) (Eq.trans (if_neg c_78) (rfl))))))
          · skip
            refine W.eq (g2 := F0 m 81 ls []) rfl ?_
            refine lv_iinc (v := (sp_X1_signsOfLoser (S 1 p0.toNatClampNeg) (S 2 p0.toNatClampNeg) (S 4 p0.toNatClampNeg 0) (S 5 p0.toNatClampNeg 0) p2) + 4) (lv' := [(7, .int ((sp_X1_signsOfLoser (S 1 p0.toNatClampNeg) (S 2 p0.toNatClampNeg) (S 4 p0.toNatClampNeg 0) (S 5 p0.toNatClampNeg 0) p2) + 4)), (6, .int p2), (0, .ref (ad 0 0)), (1, .int p0), (2, .int p1), (3, .int p2), (4, .ref (ad 4 p0.toNatClampNeg)), (5, .int (sp_X1_winner (S 4 p0.toNatClampNeg 0)))]) hx hb dX2_countOf_81 hl (k := 0) rfl (rfl) (by decide) rfl (fun ls hl => ?_)
            refine lv_iload hx hb dX2_countOf_84 (lv_at hl 0 rfl) ?_
            exact pu_iret hx hb hr hlocks dX2_countOf_86 (Eq.symm (Eq.trans (if_pos hs_2) (Eq.trans (if_pos c_24) (Eq.trans (if_pos c_64) (Eq.trans (if_pos c_78) (rfl))))))
      refine lv_icmp_ne (tgt := 45) hx hb dX2_countOf_38 (by decide) (fun c_38 => ?_) (fun c_38 => ?_)
      · skip
        exact absurd c_24 c_38
      · skip
        refine lv_iload_n hx hb dX2_countOf_41 rfl (lv_at hl 5 rfl) ?_
        refine lv_goto (tgt := 46) hx hb dX2_countOf_42 (by decide) ?_
        exact hj_38 ls (lv_sub hl [2, 3, 4, 5, 1, 0] rfl)
    · skip
      refine lv_iload hx hb dX2_countOf_27 (lv_at hl 0 rfl) ?_
      refine lv_iload_n hx hb dX2_countOf_29 rfl (lv_at hl 5 rfl) ?_
      refine W.eq (g2 := F0 m 30 ls [.int p2, .int (sp_X1_winner (S 4 p0.toNatClampNeg 0))]) rfl ?_
      refine lv_icmp_eq (tgt := 35) hx hb dX2_countOf_30 (by decide) (fun c_30 => ?_) (fun c_30 => ?_)
      · skip
        refine lv_iload hx hb dX2_countOf_35 (lv_at hl 0 rfl) ?_
        refine lv_iload_n hx hb dX2_countOf_37 rfl (lv_at hl 4 rfl) ?_
        have hj_38 : ∀ (ls : Array Slot), lv_has ls 8 [(0, .ref (ad 0 0)), (1, .int p0), (2, .int p1), (3, .int p2), (4, .ref (ad 4 p0.toNatClampNeg)), (5, .int (sp_X1_winner (S 4 p0.toNatClampNeg 0)))] → W p l e ({ frames := 4, cells := 0, slots := 0, locals := 85 } : Room) s m ([.ref (ad 0 0), .int p0, .int p1, .int p2] : List Value).toArray below meth c s.heap [] 0 0 (MQ below (QcV (.int (sp_X2_countOf n S p0 p1 p2))) ([.ref (ad 0 0), .int p0, .int p1, .int p2] : List Value).toArray s 0 0 (fun _ => False)) (F0 m 46 ls [.int p1]) := by
          intro ls hl
          refine lv_istore (lv' := [(6, .int p1), (0, .ref (ad 0 0)), (1, .int p0), (2, .int p1), (3, .int p2), (4, .ref (ad 4 p0.toNatClampNeg)), (5, .int (sp_X1_winner (S 4 p0.toNatClampNeg 0)))]) hx hb dX2_countOf_46 hl (by decide) rfl (fun ls hl => ?_)
          refine lv_aload hx hb dX2_countOf_48 (lv_at hl 5 rfl) ?_
          refine lv_iload hx hb dX2_countOf_50 (lv_at hl 0 rfl) ?_
          refine pu_V (As := [.int p1]) (rest := []) hc (c_X1_signsOfLoser l D K (ad 4 p0.toNatClampNeg) (ad 5 p0.toNatClampNeg) (ad 6 p0.toNatClampNeg) (S 1 p0.toNatClampNeg) (S 2 p0.toNatClampNeg) (S 3 p0.toNatClampNeg 0) (S 4 p0.toNatClampNeg 0) (S 5 p0.toNatClampNeg 0) (S 6 p0.toNatClampNeg 0) p1) (cwV 1 hts gX2_countOf_X1_signsOfLoser rfl rfl rfl (by decide +kernel) ⟨Nat.le_of_ble_eq_true rfl, Nat.le_of_ble_eq_true rfl⟩) (hT p0.toNatClampNeg (tIn_lt hs_2 (by omega))) hK hE (va_recv hK (hT p0.toNatClampNeg (tIn_lt hs_2 (by omega))) (ci := 1) (q0 := 0) rfl rfl) rfl rfl hl.1 (Nat.le_of_ble_eq_true rfl) dX2_countOf_52 ⟨Nat.le_of_ble_eq_true rfl, Nat.le_of_ble_eq_true rfl⟩ ?_
          refine lv_istore (lv' := [(7, .int (sp_X1_signsOfLoser (S 1 p0.toNatClampNeg) (S 2 p0.toNatClampNeg) (S 4 p0.toNatClampNeg 0) (S 5 p0.toNatClampNeg 0) p1)), (6, .int p1), (0, .ref (ad 0 0)), (1, .int p0), (2, .int p1), (3, .int p2), (4, .ref (ad 4 p0.toNatClampNeg)), (5, .int (sp_X1_winner (S 4 p0.toNatClampNeg 0)))]) hx hb dX2_countOf_55 hl (by decide) rfl (fun ls hl => ?_)
          refine lv_aload hx hb dX2_countOf_57 (lv_at hl 6 rfl) ?_
          refine lv_iload hx hb dX2_countOf_59 (lv_at hl 1 rfl) ?_
          refine pu_V (As := [.int p1]) (rest := []) hc (c_X1_isStanding l D K (ad 4 p0.toNatClampNeg) (ad 5 p0.toNatClampNeg) (ad 6 p0.toNatClampNeg) (S 1 p0.toNatClampNeg) (S 2 p0.toNatClampNeg) (S 3 p0.toNatClampNeg 0) (S 4 p0.toNatClampNeg 0) (S 5 p0.toNatClampNeg 0) (S 6 p0.toNatClampNeg 0) p1) (cwV 1 hts gX2_countOf_X1_isStanding rfl rfl rfl (by decide +kernel) ⟨Nat.le_of_ble_eq_true rfl, Nat.le_of_ble_eq_true rfl⟩) (hT p0.toNatClampNeg (tIn_lt hs_2 (by omega))) hK hE (va_recv hK (hT p0.toNatClampNeg (tIn_lt hs_2 (by omega))) (ci := 1) (q0 := 0) rfl rfl) rfl rfl hl.1 (Nat.le_of_ble_eq_true rfl) dX2_countOf_61 ⟨Nat.le_of_ble_eq_true rfl, Nat.le_of_ble_eq_true rfl⟩ ?_
          refine W.eq (g2 := F0 m 64 ls [.int (bI (sp_X1_isStanding (S 1 p0.toNatClampNeg) (S 2 p0.toNatClampNeg) p1))]) rfl ?_
          refine lb_eq (tgt := 84) hx hb dX2_countOf_64 (by decide) (fun c_64 => ?_) (fun c_64 => ?_)
          · skip
            refine lv_iload hx hb dX2_countOf_84 (lv_at hl 0 rfl) ?_
            exact pu_iret hx hb hr hlocks dX2_countOf_86 (Eq.symm (Eq.trans (if_pos hs_2) (Eq.trans (if_neg c_24) (Eq.trans (if_pos c_30) (Eq.trans (if_neg (ntr c_64)) (rfl))))))
          · skip
            refine lv_aload_n hx hb dX2_countOf_67 rfl (lv_at hl 2 rfl) ?_
            refine lv_iload_n hx hb dX2_countOf_68 rfl (lv_at hl 3 rfl) ?_
            refine lv_iload hx hb dX2_countOf_69 (lv_at hl 7 rfl) ?_
            refine lv_iload hx hb dX2_countOf_71 (lv_at hl 1 rfl) ?_
            refine pu_V (As := [.int p0, .int (sp_X1_winner (S 4 p0.toNatClampNeg 0)), .int p1]) (rest := []) hc (c_X2_lastWinnerBefore l D K ad n d S p0 (sp_X1_winner (S 4 p0.toNatClampNeg 0)) p1 (tIn_eq hs_2 (by omega)) (Nat.le_of_lt (Nat.lt_of_lt_of_le (tIn_lt hs_2 (by omega)) hn))) (cwV 3 hts gX2_countOf_X2_lastWinnerBefore rfl rfl rfl (by decide +kernel) ⟨Nat.le_of_ble_eq_true rfl, Nat.le_of_ble_eq_true rfl⟩) hXP hK hE (va_recv hK hP (ci := 2) (q0 := 0) rfl rfl) rfl rfl hl.1 (Nat.le_of_ble_eq_true rfl) dX2_countOf_73 ⟨Nat.le_of_ble_eq_true rfl, Nat.le_of_ble_eq_true rfl⟩ ?_
            refine lv_iload hx hb dX2_countOf_76 (lv_at hl 1 rfl) ?_
            refine lv_icmp_ne (tgt := 84) hx hb dX2_countOf_78 (by decide) (fun c_78 => ?_) (fun c_78 => ?_)
            · skip
              refine lv_iload hx hb dX2_countOf_84 (lv_at hl 0 rfl) ?_
              exact pu_iret hx hb hr hlocks dX2_countOf_86 (Eq.symm (Eq.trans (if_pos hs_2) (Eq.trans (if_neg c_24) (Eq.trans (if_pos c_30) (Eq.trans (if_pos c_64) (Eq.trans (if_neg c_78) (rfl)))))))
            · skip
              refine W.eq (g2 := F0 m 81 ls []) rfl ?_
              refine lv_iinc (v := (sp_X1_signsOfLoser (S 1 p0.toNatClampNeg) (S 2 p0.toNatClampNeg) (S 4 p0.toNatClampNeg 0) (S 5 p0.toNatClampNeg 0) p1) + 4) (lv' := [(7, .int ((sp_X1_signsOfLoser (S 1 p0.toNatClampNeg) (S 2 p0.toNatClampNeg) (S 4 p0.toNatClampNeg 0) (S 5 p0.toNatClampNeg 0) p1) + 4)), (6, .int p1), (0, .ref (ad 0 0)), (1, .int p0), (2, .int p1), (3, .int p2), (4, .ref (ad 4 p0.toNatClampNeg)), (5, .int (sp_X1_winner (S 4 p0.toNatClampNeg 0)))]) hx hb dX2_countOf_81 hl (k := 0) rfl (rfl) (by decide) rfl (fun ls hl => ?_)
              refine lv_iload hx hb dX2_countOf_84 (lv_at hl 0 rfl) ?_
              exact pu_iret hx hb hr hlocks dX2_countOf_86 (Eq.symm (Eq.trans (if_pos hs_2) (Eq.trans (if_neg c_24) (Eq.trans (if_pos c_30) (Eq.trans (if_pos c_64) (Eq.trans (if_pos c_78) (rfl)))))))
        refine lv_icmp_ne (tgt := 45) hx hb dX2_countOf_38 (by decide) (fun c_38 => ?_) (fun c_38 => ?_)
        · skip
          refine lv_iload_n hx hb dX2_countOf_45 rfl (lv_at hl 4 rfl) ?_
          exact hj_38 ls (lv_sub hl [2, 3, 4, 5, 1, 0] rfl)
        · skip
          exact absurd c_38 c_24
      · skip
        refine lv_iconst (v := 0) hx hb dX2_countOf_33 (by decide) ?_
        exact pu_iret hx hb hr hlocks dX2_countOf_34 (Eq.symm (Eq.trans (if_pos hs_2) (Eq.trans (if_neg c_24) (Eq.trans (if_neg c_30) (rfl)))))
  · skip
    refine W.eq (g2 := F0 m 5 ls [.null]) (by rw [qs_2]; rfl) ?_
    refine lv_astoreN (lv' := [(4, .null), (0, .ref (ad 0 0)), (1, .int p0), (2, .int p1), (3, .int p2)]) hx hb dX2_countOf_5 hl (by decide) rfl (fun ls hl => ?_)
    refine lv_aloadN hx hb dX2_countOf_7 (lv_at hl 0 rfl) ?_
    refine lv_ifnonnullN hx hb dX2_countOf_9 ?_
    refine lv_iconst (v := 0) hx hb dX2_countOf_12 (by decide) ?_
    exact pu_iret hx hb hr hlocks dX2_countOf_13 (Eq.symm (Eq.trans (if_neg (ntr hs_2)) (rfl)))

def sp_X2_suspicionOf_L5 (n : Nat) (S : Nat → Nat → Nat → Int32) (p0 : Int32) (p1 : Int32) : Nat → Int32
  | 0 => 0
  | k + 1 => (sp_X2_suspicionOf_L5 n S p0 p1 k) + (sp_X2_countOf n S (nI k) p0 p1)
def sp_X2_suspicionOf (n : Nat) (S : Nat → Nat → Nat → Int32) (p0 : Int32) (p1 : Int32) : Int32 := sp_X2_suspicionOf_L5 n S p0 p1 30
set_option maxHeartbeats 4000000 in
set_option maxRecDepth 100000 in
theorem c_X2_suspicionOf (l : Launch) (D : va_G) (K : Nat → ClassId) (ad : Nat → Nat → Nat) (n d : Nat) (S : Nat → Nat → Nat → Int32) (p0 p1 : Int32) : PU l yX2_suspicionOf wsX2_suspicionOf 5 112 D K [.ref (ad 0 0), .int p0, .int p1] (fun H => XP D K ad n d S H) (.int (sp_X2_suspicionOf n S p0 p1)) := by
  refine Met.ofW (cc := cX2_suspicionOf) (maxL := 5) (ret := (some .int)) (by decide) rfl ?_
  intro p e s m args below meth c s₁ B hml hv
  obtain ⟨rfl, hP, hK, hE⟩ := hv
  have hx := B.exec
  have hb := B.bytes
  have hr := B.returns
  have hts := atoms_spec (ws := wsX2_suspicionOf) B.pre
  have hown : s.vm.findClass RX2 = some m.cls := findClass_of_methodNamed B.named
  have hlocks := B.notSynchronized
  have hc : CallFix p m c cX2_suspicionOf 5 s ([.ref (ad 0 0), .int p0, .int p1] : List Value).toArray wsX2_suspicionOf RX2 := ⟨hx, hb, hml, hown, hts⟩
  have hin2 : ∀ w ∈ u_ws RX2 TX2 6, w ∈ wsX2_suspicionOf := by decide +kernel
  have hXP := hP
  obtain ⟨hn, hd, hP, hT, hF⟩ := hP
  have hP : va_P D vwCl (xW K ad n d S) s.heap := hP
  have hl := lv_entry ([.ref (ad 0 0), .int p0, .int p1]) (n := 5) (Nat.le_of_ble_eq_true rfl)
  rw [lg_entry_eq]
  generalize (lg_sl ([.ref (ad 0 0), .int p0, .int p1]) ++ List.replicate (5 - (lg_sl ([.ref (ad 0 0), .int p0, .int p1])).length) Slot.unset).toArray = ls at hl ⊢
  have hl : lv_has ls 5 [(0, .ref (ad 0 0)), (1, .int p0), (2, .int p1)] := hl
  refine lv_iconst (v := 0) hx hb dX2_suspicionOf_0 (by decide) ?_
  refine lv_istore_n (lv' := [(3, .int 0), (0, .ref (ad 0 0)), (1, .int p0), (2, .int p1)]) hx hb dX2_suspicionOf_1 rfl hl (by decide) rfl (fun ls hl => ?_)
  refine lv_iconst (v := 0) hx hb dX2_suspicionOf_2 (by decide) ?_
  refine lv_istore (lv' := [(4, .int 0), (3, .int 0), (0, .ref (ad 0 0)), (1, .int p0), (2, .int p1)]) hx hb dX2_suspicionOf_3 hl (by decide) rfl (fun ls hl => ?_)
  have hloop_5 : ∀ (n5 k : Nat), k ≤ 30 → 30 + 1 ≤ k + n5 → ∀ (a5_3 x5 : Int32) (ls : Array Slot), a5_3 = sp_X2_suspicionOf_L5 n S p0 p1 k → x5 = nI k → lv_has ls 5 [(0, .ref (ad 0 0)), (1, .int p0), (2, .int p1), (3, .int a5_3), (4, .int x5)] → W p l e ({ frames := 5, cells := 0, slots := 0, locals := 112 } : Room) s m ([.ref (ad 0 0), .int p0, .int p1] : List Value).toArray below meth c s.heap [] 0 0 (MQ below (QcV (.int (sp_X2_suspicionOf n S p0 p1))) ([.ref (ad 0 0), .int p0, .int p1] : List Value).toArray s 0 0 (fun _ => False)) (F0 m 5 ls []) := by
    intro n5
    induction n5 with
    | zero => intro k h1 h2; exact absurd h2 (by omega)
    | succ n5 ih_5 =>
      intro k hk_5 hn_5 a5_3 x5 ls ea5_3 ex5 hl
      subst ea5_3
      subst ex5
      refine lv_iload hx hb dX2_suspicionOf_5 (lv_at hl 4 rfl) ?_
      refine lv_aload_n hx hb dX2_suspicionOf_7 rfl (lv_at hl 0 rfl) ?_
      refine va_get (D := D) (ci := 2) (v := .ref (ad 1 0)) (C := RX2) (T := TX2) (N := 6) hx hb hts hin2 hown hK hP 0 rfl rfl 0 (by decide) (hts (.fieldLink RX2 11 "CartelWatch" "tenders" "[LCartelWatch$Tender;") (by decide +kernel)) (fun _ h9 => h9) rfl dX2_suspicionOf_8 ?_
      refine va_alen (v := 30) hx hb hK hP 1 3 rfl rfl rfl dX2_suspicionOf_11 ?_
      refine W.eq (g2 := F0 m 12 ls [.int 30, .int (nI k)]) rfl ?_
      refine lv_icmp_ge (tgt := 32) hx hb dX2_suspicionOf_12 (by decide) (fun c_12 => ?_) (fun c_12 => ?_)
      · skip
        have hke_5 : 30 = k := (lp_end rfl c_12 hk_5 (by decide)).symm
        subst hke_5
        refine lv_iload_n hx hb dX2_suspicionOf_32 rfl (lv_at hl 3 rfl) ?_
        exact pu_iret hx hb hr hlocks dX2_suspicionOf_33 (Eq.symm (rfl))
      · skip
        have hlt_5 : k < 30 := lp_in rfl c_12 hk_5 (by decide)
        refine lv_iload_n hx hb dX2_suspicionOf_15 rfl (lv_at hl 3 rfl) ?_
        refine lv_aload_n hx hb dX2_suspicionOf_16 rfl (lv_at hl 0 rfl) ?_
        refine lv_iload hx hb dX2_suspicionOf_17 (lv_at hl 4 rfl) ?_
        refine lv_iload_n hx hb dX2_suspicionOf_19 rfl (lv_at hl 1 rfl) ?_
        refine lv_iload_n hx hb dX2_suspicionOf_20 rfl (lv_at hl 2 rfl) ?_
        refine pu_V (As := [.int (nI k), .int p0, .int p1]) (rest := [.int (sp_X2_suspicionOf_L5 n S p0 p1 k)]) hc (c_X2_countOf l D K ad n d S (nI k) p0 p1) (cwV 3 hts gX2_suspicionOf_X2_countOf rfl rfl rfl (by decide +kernel) ⟨Nat.le_of_ble_eq_true rfl, Nat.le_of_ble_eq_true rfl⟩) hXP hK hE (va_recv hK hP (ci := 2) (q0 := 0) rfl rfl) rfl rfl hl.1 (Nat.le_of_ble_eq_true rfl) dX2_suspicionOf_21 ⟨Nat.le_of_ble_eq_true rfl, Nat.le_of_ble_eq_true rfl⟩ ?_
        refine lv_iadd hx hb dX2_suspicionOf_24 ?_
        refine W.eq (g2 := F0 m 25 ls [.int ((sp_X2_suspicionOf_L5 n S p0 p1 k) + (sp_X2_countOf n S (nI k) p0 p1))]) rfl ?_
        refine lv_istore_n (lv' := [(3, .int ((sp_X2_suspicionOf_L5 n S p0 p1 k) + (sp_X2_countOf n S (nI k) p0 p1))), (0, .ref (ad 0 0)), (1, .int p0), (2, .int p1), (4, .int (nI k))]) hx hb dX2_suspicionOf_25 rfl hl (by decide) rfl (fun ls hl => ?_)
        refine lv_iinc (v := (nI k) + 1) (lv' := [(4, .int ((nI k) + 1)), (3, .int ((sp_X2_suspicionOf_L5 n S p0 p1 k) + (sp_X2_countOf n S (nI k) p0 p1))), (0, .ref (ad 0 0)), (1, .int p0), (2, .int p1)]) hx hb dX2_suspicionOf_26 hl (k := 4) rfl (rfl) (by decide) rfl (fun ls hl => ?_)
        refine lv_goto (tgt := 5) hx hb dX2_suspicionOf_29 (by decide) ?_
        exact ih_5 (k + 1) hlt_5 (by omega) _ _ ls (Eq.symm (rfl)) (nI_1 k) (lv_sub hl [2, 3, 4, 1, 0] rfl)
  exact hloop_5 (30 + 1) 0 (Nat.zero_le _) (by omega) _ _ ls rfl nI_0.symm (lv_sub hl [2, 3, 4, 1, 0] rfl)

def wIn (f : Int32 → Int32 → Int32) (k : Nat) (i : Int32 × Int32) : Nat → Int32 × Int32
  | 0 => i
  | j + 1 => if f (nI k) (nI (k + 1 + j)) ≤ (wIn f k i j).2 then wIn f k i j else ((10 * (nI k)) + (nI (k + 1 + j)), f (nI k) (nI (k + 1 + j)))
def wOut (f : Int32 → Int32 → Int32) : Nat → Int32 × Int32
  | 0 => ((-1), 0)
  | k + 1 => wIn f k (wOut f k) (6 - k)

def sp_X2_worst (n : Nat) (S : Nat → Nat → Nat → Int32) : Int32 := (wOut (sp_X2_suspicionOf n S) 7).1
set_option maxHeartbeats 4000000 in
set_option maxRecDepth 100000 in
theorem c_X2_worst (l : Launch) (D : va_G) (K : Nat → ClassId) (ad : Nat → Nat → Nat) (n d : Nat) (S : Nat → Nat → Nat → Int32) : PU l yX2_worst wsX2_worst 6 136 D K [.ref (ad 0 0)] (fun H => XP D K ad n d S H) (.int (sp_X2_worst n S)) := by
  refine Met.ofW (cc := cX2_worst) (maxL := 6) (ret := (some .int)) (by decide) rfl ?_
  intro p e s m args below meth c s₁ B hml hv
  obtain ⟨rfl, hP, hK, hE⟩ := hv
  have hx := B.exec
  have hb := B.bytes
  have hr := B.returns
  have hts := atoms_spec (ws := wsX2_worst) B.pre
  have hown : s.vm.findClass RX2 = some m.cls := findClass_of_methodNamed B.named
  have hlocks := B.notSynchronized
  have hc : CallFix p m c cX2_worst 6 s ([.ref (ad 0 0)] : List Value).toArray wsX2_worst RX2 := ⟨hx, hb, hml, hown, hts⟩
  have hXP := hP
  obtain ⟨hn, hd, hP, hT, hF⟩ := hP
  have hP : va_P D vwCl (xW K ad n d S) s.heap := hP
  have hl := lv_entry ([.ref (ad 0 0)]) (n := 6) (Nat.le_of_ble_eq_true rfl)
  rw [lg_entry_eq]
  generalize (lg_sl ([.ref (ad 0 0)]) ++ List.replicate (6 - (lg_sl ([.ref (ad 0 0)])).length) Slot.unset).toArray = ls at hl ⊢
  have hl : lv_has ls 6 [(0, .ref (ad 0 0))] := hl
  refine lv_iconst (v := -1) hx hb dX2_worst_0 (by decide) ?_
  refine lv_istore_n (lv' := [(1, .int (-1)), (0, .ref (ad 0 0))]) hx hb dX2_worst_1 rfl hl (by decide) rfl (fun ls hl => ?_)
  refine lv_iconst (v := 0) hx hb dX2_worst_2 (by decide) ?_
  refine lv_istore_n (lv' := [(2, .int 0), (1, .int (-1)), (0, .ref (ad 0 0))]) hx hb dX2_worst_3 rfl hl (by decide) rfl (fun ls hl => ?_)
  refine lv_iconst (v := 0) hx hb dX2_worst_4 (by decide) ?_
  refine lv_istore_n (lv' := [(3, .int 0), (2, .int 0), (1, .int (-1)), (0, .ref (ad 0 0))]) hx hb dX2_worst_5 rfl hl (by decide) rfl (fun ls hl => ?_)
  have hloop_6 : ∀ (n6 k : Nat), k ≤ 7 → 7 + 1 ≤ k + n6 → ∀ (a6_1 a6_2 x6 : Int32) (ls : Array Slot), a6_1 = (wOut (sp_X2_suspicionOf n S) k).1 → a6_2 = (wOut (sp_X2_suspicionOf n S) k).2 → x6 = nI k → lv_has ls 6 [(0, .ref (ad 0 0)), (1, .int a6_1), (2, .int a6_2), (3, .int x6)] → W p l e ({ frames := 6, cells := 0, slots := 0, locals := 136 } : Room) s m ([.ref (ad 0 0)] : List Value).toArray below meth c s.heap [] 0 0 (MQ below (QcV (.int (sp_X2_worst n S))) ([.ref (ad 0 0)] : List Value).toArray s 0 0 (fun _ => False)) (F0 m 6 ls []) := by
    intro n6
    induction n6 with
    | zero => intro k h1 h2; exact absurd h2 (by omega)
    | succ n6 ih_6 =>
      intro k hk_6 hn_6 a6_1 a6_2 x6 ls ea6_1 ea6_2 ex6 hl
      subst ea6_1
      subst ea6_2
      subst ex6
      refine lv_iload_n hx hb dX2_worst_6 rfl (lv_at hl 3 rfl) ?_
      refine lv_bipush (v := 7) hx hb dX2_worst_7 (by decide) ?_
      refine W.eq (g2 := F0 m 9 ls [.int 7, .int (nI k)]) rfl ?_
      refine lv_icmp_ge (tgt := 62) hx hb dX2_worst_9 (by decide) (fun c_9 => ?_) (fun c_9 => ?_)
      · skip
        have hke_6 : 7 = k := (lp_end rfl c_9 hk_6 (by decide)).symm
        subst hke_6
        refine lv_iload_n hx hb dX2_worst_62 rfl (lv_at hl 1 rfl) ?_
        exact pu_iret hx hb hr hlocks dX2_worst_63 (Eq.symm (rfl))
      · skip
        have hlt_6 : k < 7 := lp_in rfl c_9 hk_6 (by decide)
        refine lv_iload_n hx hb dX2_worst_12 rfl (lv_at hl 3 rfl) ?_
        refine lv_iconst (v := 1) hx hb dX2_worst_13 (by decide) ?_
        refine lv_iadd hx hb dX2_worst_14 ?_
        refine lv_istore (lv' := [(4, .int ((nI k) + 1)), (0, .ref (ad 0 0)), (1, .int ((wOut (sp_X2_suspicionOf n S) k).1)), (2, .int ((wOut (sp_X2_suspicionOf n S) k).2)), (3, .int (nI k))]) hx hb dX2_worst_15 hl (by decide) rfl (fun ls hl => ?_)
        have hloop_17 : ∀ (n17 j : Nat), j ≤ (6 - k) → (6 - k) + 1 ≤ j + n17 → ∀ (a17_1 a17_2 x17 : Int32) (ls : Array Slot), a17_1 = (wIn (sp_X2_suspicionOf n S) k (wOut (sp_X2_suspicionOf n S) k) j).1 → a17_2 = (wIn (sp_X2_suspicionOf n S) k (wOut (sp_X2_suspicionOf n S) k) j).2 → x17 = nI (k + 1 + j) → lv_has ls 6 [(0, .ref (ad 0 0)), (1, .int a17_1), (2, .int a17_2), (3, .int (nI k)), (4, .int x17)] → W p l e ({ frames := 6, cells := 0, slots := 0, locals := 136 } : Room) s m ([.ref (ad 0 0)] : List Value).toArray below meth c s.heap [] 0 0 (MQ below (QcV (.int (sp_X2_worst n S))) ([.ref (ad 0 0)] : List Value).toArray s 0 0 (fun _ => False)) (F0 m 17 ls []) := by
          intro n17
          induction n17 with
          | zero => intro j h1 h2; exact absurd h2 (by omega)
          | succ n17 ih_17 =>
            intro j hk_17 hn_17 a17_1 a17_2 x17 ls ea17_1 ea17_2 ex17 hl
            subst ea17_1
            subst ea17_2
            subst ex17
            refine lv_iload hx hb dX2_worst_17 (lv_at hl 4 rfl) ?_
            refine lv_bipush (v := 7) hx hb dX2_worst_19 (by decide) ?_
            refine lv_icmp_ge (tgt := 56) hx hb dX2_worst_21 (by decide) (fun c_21 => ?_) (fun c_21 => ?_)
            · skip
              have hke_17 : j = 6 - k := by have := lp_end (N := 7) rfl c_21 (by omega) (by decide); omega
              subst hke_17
              refine lv_iinc (v := (nI k) + 1) (lv' := [(3, .int ((nI k) + 1)), (0, .ref (ad 0 0)), (1, .int ((wIn (sp_X2_suspicionOf n S) k (wOut (sp_X2_suspicionOf n S) k) (6 - k)).1)), (2, .int ((wIn (sp_X2_suspicionOf n S) k (wOut (sp_X2_suspicionOf n S) k) (6 - k)).2)), (4, .int (nI (k + 1 + (6 - k))))]) hx hb dX2_worst_56 hl (k := 3) rfl (rfl) (by decide) rfl (fun ls hl => ?_)
              refine lv_goto (tgt := 6) hx hb dX2_worst_59 (by decide) ?_
              exact ih_6 (k + 1) hlt_6 (by omega) _ _ _ ls (congrArg Prod.fst (Eq.symm (rfl))) (congrArg Prod.snd (Eq.symm (rfl))) (nI_1 k) (lv_sub hl [1, 2, 3, 0] rfl)
            · skip
              have hlt_17 : j < 6 - k := by have := lp_in (N := 7) rfl c_21 (by omega) (by decide); omega
              refine W.eq (g2 := F0 m 24 ls []) rfl ?_
              refine lv_aload_n hx hb dX2_worst_24 rfl (lv_at hl 0 rfl) ?_
              refine lv_iload_n hx hb dX2_worst_25 rfl (lv_at hl 3 rfl) ?_
              refine lv_iload hx hb dX2_worst_26 (lv_at hl 4 rfl) ?_
              refine pu_V (As := [.int (nI k), .int (nI (k + 1 + j))]) (rest := []) hc (c_X2_suspicionOf l D K ad n d S (nI k) (nI (k + 1 + j))) (cwV 2 hts gX2_worst_X2_suspicionOf rfl rfl rfl (by decide +kernel) ⟨Nat.le_of_ble_eq_true rfl, Nat.le_of_ble_eq_true rfl⟩) hXP hK hE (va_recv hK hP (ci := 2) (q0 := 0) rfl rfl) rfl rfl hl.1 (Nat.le_of_ble_eq_true rfl) dX2_worst_28 ⟨Nat.le_of_ble_eq_true rfl, Nat.le_of_ble_eq_true rfl⟩ ?_
              refine lv_istore (lv' := [(5, .int (sp_X2_suspicionOf n S (nI k) (nI (k + 1 + j)))), (0, .ref (ad 0 0)), (1, .int ((wIn (sp_X2_suspicionOf n S) k (wOut (sp_X2_suspicionOf n S) k) j).1)), (2, .int ((wIn (sp_X2_suspicionOf n S) k (wOut (sp_X2_suspicionOf n S) k) j).2)), (3, .int (nI k)), (4, .int (nI (k + 1 + j)))]) hx hb dX2_worst_31 hl (by decide) rfl (fun ls hl => ?_)
              refine lv_iload hx hb dX2_worst_33 (lv_at hl 0 rfl) ?_
              refine lv_iload_n hx hb dX2_worst_35 rfl (lv_at hl 3 rfl) ?_
              refine lv_icmp_le (tgt := 50) hx hb dX2_worst_36 (by decide) (fun c_36 => ?_) (fun c_36 => ?_)
              · skip
                refine lv_iinc (v := (nI (k + 1 + j)) + 1) (lv' := [(4, .int ((nI (k + 1 + j)) + 1)), (5, .int (sp_X2_suspicionOf n S (nI k) (nI (k + 1 + j)))), (0, .ref (ad 0 0)), (1, .int ((wIn (sp_X2_suspicionOf n S) k (wOut (sp_X2_suspicionOf n S) k) j).1)), (2, .int ((wIn (sp_X2_suspicionOf n S) k (wOut (sp_X2_suspicionOf n S) k) j).2)), (3, .int (nI k))]) hx hb dX2_worst_50 hl (k := 5) rfl (rfl) (by decide) rfl (fun ls hl => ?_)
                refine lv_goto (tgt := 17) hx hb dX2_worst_53 (by decide) ?_
                exact ih_17 (j + 1) hlt_17 (by omega) _ _ _ ls (congrArg Prod.fst (Eq.symm (Eq.trans (if_pos c_36) (rfl)))) (congrArg Prod.snd (Eq.symm (Eq.trans (if_pos c_36) (rfl)))) (nI_1 (k + 1 + j)) (lv_sub hl [2, 3, 4, 5, 0] rfl)
              · skip
                refine W.eq (g2 := F0 m 39 ls []) rfl ?_
                refine lv_iload hx hb dX2_worst_39 (lv_at hl 0 rfl) ?_
                refine lv_istore_n (lv' := [(2, .int (sp_X2_suspicionOf n S (nI k) (nI (k + 1 + j)))), (5, .int (sp_X2_suspicionOf n S (nI k) (nI (k + 1 + j)))), (0, .ref (ad 0 0)), (1, .int ((wIn (sp_X2_suspicionOf n S) k (wOut (sp_X2_suspicionOf n S) k) j).1)), (3, .int (nI k)), (4, .int (nI (k + 1 + j)))]) hx hb dX2_worst_41 rfl hl (by decide) rfl (fun ls hl => ?_)
                refine lv_bipush (v := 10) hx hb dX2_worst_42 (by decide) ?_
                refine lv_iload_n hx hb dX2_worst_44 rfl (lv_at hl 4 rfl) ?_
                refine lv_imul hx hb dX2_worst_45 ?_
                refine lv_iload hx hb dX2_worst_46 (lv_at hl 5 rfl) ?_
                refine lv_iadd hx hb dX2_worst_48 ?_
                refine lv_istore_n (lv' := [(1, .int ((10 * (nI k)) + (nI (k + 1 + j)))), (2, .int (sp_X2_suspicionOf n S (nI k) (nI (k + 1 + j)))), (5, .int (sp_X2_suspicionOf n S (nI k) (nI (k + 1 + j)))), (0, .ref (ad 0 0)), (3, .int (nI k)), (4, .int (nI (k + 1 + j)))]) hx hb dX2_worst_49 rfl hl (by decide) rfl (fun ls hl => ?_)
                refine W.eq (g2 := F0 m 50 ls []) rfl ?_
                refine lv_iinc (v := (nI (k + 1 + j)) + 1) (lv' := [(4, .int ((nI (k + 1 + j)) + 1)), (1, .int ((10 * (nI k)) + (nI (k + 1 + j)))), (2, .int (sp_X2_suspicionOf n S (nI k) (nI (k + 1 + j)))), (5, .int (sp_X2_suspicionOf n S (nI k) (nI (k + 1 + j)))), (0, .ref (ad 0 0)), (3, .int (nI k))]) hx hb dX2_worst_50 hl (k := 5) rfl (rfl) (by decide) rfl (fun ls hl => ?_)
                refine lv_goto (tgt := 17) hx hb dX2_worst_53 (by decide) ?_
                exact ih_17 (j + 1) hlt_17 (by omega) _ _ _ ls (congrArg Prod.fst (Eq.symm (Eq.trans (if_neg c_36) (rfl)))) (congrArg Prod.snd (Eq.symm (Eq.trans (if_neg c_36) (rfl)))) (nI_1 (k + 1 + j)) (lv_sub hl [4, 1, 2, 5, 0] rfl)
        exact hloop_17 ((6 - k) + 1) 0 (Nat.zero_le _) (by omega) _ _ _ ls rfl rfl (nI_1 k) (lv_sub hl [1, 2, 3, 4, 0] rfl)
  exact hloop_6 (7 + 1) 0 (Nat.zero_le _) (by omega) _ _ _ ls rfl rfl nI_0.symm (lv_sub hl [3, 2, 1, 0] rfl)

def sp_X2_hasDossier_A (d : Nat) (S : Nat → Nat → Nat → Int32) (p0 p1 : Int32) : Nat → Nat → Bool
  | 0, _ => false
  | f + 1, k => if tIn d (nI k) = true then (if sp_X0_isOf (S 7 ((nI k).toNatClampNeg) 0) (S 8 ((nI k).toNatClampNeg) 0) p0 = true then (if sp_X0_isOf (S 7 ((nI k).toNatClampNeg) 0) (S 8 ((nI k).toNatClampNeg) 0) p1 = true then true else (sp_X2_hasDossier_A d S p0 p1 f (k + 1))) else (sp_X2_hasDossier_A d S p0 p1 f (k + 1))) else (sp_X2_hasDossier_A d S p0 p1 f (k + 1))
def sp_X2_hasDossier (d : Nat) (S : Nat → Nat → Nat → Int32) (p0 : Int32) (p1 : Int32) : Bool := sp_X2_hasDossier_A d S p0 p1 20 0
set_option maxHeartbeats 4000000 in
set_option maxRecDepth 100000 in
theorem c_X2_hasDossier (l : Launch) (D : va_G) (K : Nat → ClassId) (ad : Nat → Nat → Nat) (n d : Nat) (S : Nat → Nat → Nat → Int32) (p0 p1 : Int32) : PU l yX2_hasDossier wsX2_hasDossier 1 21 D K [.ref (ad 0 0), .int p0, .int p1] (fun H => XP D K ad n d S H) (.int (bI (sp_X2_hasDossier d S p0 p1))) := by
  refine Met.ofW (cc := cX2_hasDossier) (maxL := 7) (ret := (some .boolean)) (by decide) rfl ?_
  intro p e s m args below meth c s₁ B hml hv
  obtain ⟨rfl, hP, hK, hE⟩ := hv
  have hx := B.exec
  have hb := B.bytes
  have hr := B.returns
  have hts := atoms_spec (ws := wsX2_hasDossier) B.pre
  have hown : s.vm.findClass RX2 = some m.cls := findClass_of_methodNamed B.named
  have hlocks := B.notSynchronized
  have hc : CallFix p m c cX2_hasDossier 7 s ([.ref (ad 0 0), .int p0, .int p1] : List Value).toArray wsX2_hasDossier RX2 := ⟨hx, hb, hml, hown, hts⟩
  have hin2 : ∀ w ∈ u_ws RX2 TX2 6, w ∈ wsX2_hasDossier := by decide +kernel
  have hXP := hP
  obtain ⟨hn, hd, hP, hT, hF⟩ := hP
  have hP : va_P D vwCl (xW K ad n d S) s.heap := hP
  have hl := lv_entry ([.ref (ad 0 0), .int p0, .int p1]) (n := 7) (Nat.le_of_ble_eq_true rfl)
  rw [lg_entry_eq]
  generalize (lg_sl ([.ref (ad 0 0), .int p0, .int p1]) ++ List.replicate (7 - (lg_sl ([.ref (ad 0 0), .int p0, .int p1])).length) Slot.unset).toArray = ls at hl ⊢
  have hl : lv_has ls 7 [(0, .ref (ad 0 0)), (1, .int p0), (2, .int p1)] := hl
  refine lv_aload_n hx hb dX2_hasDossier_0 rfl (lv_at hl 0 rfl) ?_
  refine va_get (D := D) (ci := 2) (v := .ref (ad 2 0)) (C := RX2) (T := TX2) (N := 6) hx hb hts hin2 hown hK hP 0 rfl rfl 2 (by decide) (hts (.fieldLink RX2 21 "CartelWatch" "dossiers" "[LCartelWatch$Dossier;") (by decide +kernel)) (fun _ h9 => h9) rfl dX2_hasDossier_1 ?_
  refine lv_astore_n (lv' := [(3, .ref (ad 2 0)), (0, .ref (ad 0 0)), (1, .int p0), (2, .int p1)]) hx hb dX2_hasDossier_4 rfl hl (by decide) rfl (fun ls hl => ?_)
  refine lv_aload_n hx hb dX2_hasDossier_5 rfl (lv_at hl 0 rfl) ?_
  refine va_alen (v := 20) hx hb hK hP 2 2 rfl rfl rfl dX2_hasDossier_6 ?_
  refine lv_istore (lv' := [(4, .int 20), (3, .ref (ad 2 0)), (0, .ref (ad 0 0)), (1, .int p0), (2, .int p1)]) hx hb dX2_hasDossier_7 hl (by decide) rfl (fun ls hl => ?_)
  refine lv_iconst (v := 0) hx hb dX2_hasDossier_9 (by decide) ?_
  refine lv_istore (lv' := [(5, .int 0), (4, .int 20), (3, .ref (ad 2 0)), (0, .ref (ad 0 0)), (1, .int p0), (2, .int p1)]) hx hb dX2_hasDossier_10 hl (by decide) rfl (fun ls hl => ?_)
  have hloop_12 : ∀ (f k : Nat), k + f = 20 → ∀ (x12 : Int32) (ls : Array Slot), x12 = nI k → sp_X2_hasDossier_A d S p0 p1 f k = sp_X2_hasDossier d S p0 p1 → lv_has ls 7 [(0, .ref (ad 0 0)), (1, .int p0), (2, .int p1), (3, .ref (ad 2 0)), (4, .int 20), (5, .int x12)] → W p l e ({ frames := 1, cells := 0, slots := 0, locals := 21 } : Room) s m ([.ref (ad 0 0), .int p0, .int p1] : List Value).toArray below meth c s.heap [] 0 0 (MQ below (QcV (.int (bI (sp_X2_hasDossier d S p0 p1)))) ([.ref (ad 0 0), .int p0, .int p1] : List Value).toArray s 0 0 (fun _ => False)) (F0 m 12 ls []) := by
    intro f
    induction f with
    | zero =>
      intro k hk_12 x12 ls ex12 hA_12 hl
      obtain rfl : k = 20 := hk_12
      subst ex12
      refine W.eq (g2 := F0 m 12 ls []) rfl ?_
      refine lv_iload hx hb dX2_hasDossier_12 (lv_at hl 5 rfl) ?_
      refine lv_iload hx hb dX2_hasDossier_14 (lv_at hl 4 rfl) ?_
      refine lv_icmp_ge (tgt := 56) hx hb dX2_hasDossier_16 (by decide) (fun c_16 => ?_) (fun c_16 => ?_)
      · skip
        refine lv_iconst (v := 0) hx hb dX2_hasDossier_56 (by decide) ?_
        exact pu_zret hx hb hr hlocks dX2_hasDossier_57 (bI_nar _) (bI_eq (a := false) (Eq.trans (Eq.symm (rfl)) hA_12))
      · skip
        exact absurd (by decide) c_16
    | succ f ih_12 =>
      intro k hk_12 x12 ls ex12 hA_12 hl
      have hlt_12 : k < 20 := by omega
      subst ex12
      refine W.eq (g2 := F0 m 12 ls []) rfl ?_
      refine lv_iload hx hb dX2_hasDossier_12 (lv_at hl 5 rfl) ?_
      refine lv_iload hx hb dX2_hasDossier_14 (lv_at hl 4 rfl) ?_
      refine lv_icmp_ge (tgt := 56) hx hb dX2_hasDossier_16 (by decide) (fun c_16 => ?_) (fun c_16 => ?_)
      · skip
        exact absurd c_16 (nI_ge hlt_12 (by decide))
      · skip
        refine lv_aload_n hx hb dX2_hasDossier_19 rfl (lv_at hl 3 rfl) ?_
        refine lv_iload hx hb dX2_hasDossier_20 (lv_at hl 5 rfl) ?_
        refine va_aldq hx hb hK hP 2 2 (cA := K 2) rfl rfl (vp_in_nI hlt_12 (by decide)) dX2_hasDossier_22 ?_
        rcases dArr_or (x := (nI k)) (vp_in_nI hlt_12 (by decide)) with ⟨hs_22, qs_22⟩ | ⟨hs_22, qs_22⟩
        · skip
          refine W.eq (g2 := F0 m 23 ls [.ref (ad 7 ((nI k).toNatClampNeg))]) (by rw [qs_22]; rfl) ?_
          refine lv_astore (lv' := [(6, .ref (ad 7 ((nI k).toNatClampNeg))), (0, .ref (ad 0 0)), (1, .int p0), (2, .int p1), (3, .ref (ad 2 0)), (4, .int 20), (5, .int (nI k))]) hx hb dX2_hasDossier_23 hl (by decide) rfl (fun ls hl => ?_)
          refine lv_aload hx hb dX2_hasDossier_25 (lv_at hl 0 rfl) ?_
          refine W.eq (g2 := F0 m 27 ls [.ref (ad 7 ((nI k).toNatClampNeg))]) rfl ?_
          refine lv_ifnull hx hb dX2_hasDossier_27 ?_
          refine lv_aload hx hb dX2_hasDossier_30 (lv_at hl 0 rfl) ?_
          refine lv_iload_n hx hb dX2_hasDossier_32 rfl (lv_at hl 2 rfl) ?_
          refine pu_V (As := [.int p0]) (rest := []) hc (c_X0_isOf l D K (ad 7 ((nI k).toNatClampNeg)) (ad 8 ((nI k).toNatClampNeg)) (ad 9 ((nI k).toNatClampNeg)) (ad 10 ((nI k).toNatClampNeg)) (S 7 ((nI k).toNatClampNeg) 0) (S 8 ((nI k).toNatClampNeg) 0) (S 9 ((nI k).toNatClampNeg)) (S 10 ((nI k).toNatClampNeg)) (S 11 ((nI k).toNatClampNeg)) (S 12 ((nI k).toNatClampNeg) 0) (S 13 ((nI k).toNatClampNeg) 0) (S 14 ((nI k).toNatClampNeg) 0) p0) (cwV 1 hts gX2_hasDossier_X0_isOf rfl rfl rfl (by decide +kernel) ⟨Nat.le_of_ble_eq_true rfl, Nat.le_of_ble_eq_true rfl⟩) (hF ((nI k).toNatClampNeg) (tIn_lt hs_22 (by omega))) hK hE (va_recv hK (hF ((nI k).toNatClampNeg) (tIn_lt hs_22 (by omega))) (ci := 0) (q0 := 0) rfl rfl) rfl rfl hl.1 (Nat.le_of_ble_eq_true rfl) dX2_hasDossier_33 ⟨Nat.le_of_ble_eq_true rfl, Nat.le_of_ble_eq_true rfl⟩ ?_
          refine lb_eq (tgt := 50) hx hb dX2_hasDossier_36 (by decide) (fun c_36 => ?_) (fun c_36 => ?_)
          · skip
            refine lv_iinc (v := (nI k) + 1) (lv' := [(5, .int ((nI k) + 1)), (6, .ref (ad 7 ((nI k).toNatClampNeg))), (0, .ref (ad 0 0)), (1, .int p0), (2, .int p1), (3, .ref (ad 2 0)), (4, .int 20)]) hx hb dX2_hasDossier_50 hl (k := 6) rfl (rfl) (by decide) rfl (fun ls hl => ?_)
            refine lv_goto (tgt := 12) hx hb dX2_hasDossier_53 (by decide) ?_
            exact ih_12 (k + 1) (by omega) _ ls (nI_1 k) (Eq.trans (Eq.symm (Eq.trans (if_pos hs_22) (Eq.trans (if_neg (ntr c_36)) (rfl)))) hA_12) (lv_sub hl [2, 3, 4, 5, 6, 0] rfl)
          · skip
            refine lv_aload hx hb dX2_hasDossier_39 (lv_at hl 0 rfl) ?_
            refine lv_iload_n hx hb dX2_hasDossier_41 rfl (lv_at hl 3 rfl) ?_
            refine pu_V (As := [.int p1]) (rest := []) hc (c_X0_isOf l D K (ad 7 ((nI k).toNatClampNeg)) (ad 8 ((nI k).toNatClampNeg)) (ad 9 ((nI k).toNatClampNeg)) (ad 10 ((nI k).toNatClampNeg)) (S 7 ((nI k).toNatClampNeg) 0) (S 8 ((nI k).toNatClampNeg) 0) (S 9 ((nI k).toNatClampNeg)) (S 10 ((nI k).toNatClampNeg)) (S 11 ((nI k).toNatClampNeg)) (S 12 ((nI k).toNatClampNeg) 0) (S 13 ((nI k).toNatClampNeg) 0) (S 14 ((nI k).toNatClampNeg) 0) p1) (cwV 1 hts gX2_hasDossier_X0_isOf rfl rfl rfl (by decide +kernel) ⟨Nat.le_of_ble_eq_true rfl, Nat.le_of_ble_eq_true rfl⟩) (hF ((nI k).toNatClampNeg) (tIn_lt hs_22 (by omega))) hK hE (va_recv hK (hF ((nI k).toNatClampNeg) (tIn_lt hs_22 (by omega))) (ci := 0) (q0 := 0) rfl rfl) rfl rfl hl.1 (Nat.le_of_ble_eq_true rfl) dX2_hasDossier_42 ⟨Nat.le_of_ble_eq_true rfl, Nat.le_of_ble_eq_true rfl⟩ ?_
            refine W.eq (g2 := F0 m 45 ls [.int (bI (sp_X0_isOf (S 7 ((nI k).toNatClampNeg) 0) (S 8 ((nI k).toNatClampNeg) 0) p1))]) rfl ?_
            refine lb_eq (tgt := 50) hx hb dX2_hasDossier_45 (by decide) (fun c_45 => ?_) (fun c_45 => ?_)
            · skip
              refine lv_iinc (v := (nI k) + 1) (lv' := [(5, .int ((nI k) + 1)), (6, .ref (ad 7 ((nI k).toNatClampNeg))), (0, .ref (ad 0 0)), (1, .int p0), (2, .int p1), (3, .ref (ad 2 0)), (4, .int 20)]) hx hb dX2_hasDossier_50 hl (k := 6) rfl (rfl) (by decide) rfl (fun ls hl => ?_)
              refine lv_goto (tgt := 12) hx hb dX2_hasDossier_53 (by decide) ?_
              exact ih_12 (k + 1) (by omega) _ ls (nI_1 k) (Eq.trans (Eq.symm (Eq.trans (if_pos hs_22) (Eq.trans (if_pos c_36) (Eq.trans (if_neg (ntr c_45)) (rfl))))) hA_12) (lv_sub hl [2, 3, 4, 5, 6, 0] rfl)
            · skip
              refine lv_iconst (v := 1) hx hb dX2_hasDossier_48 (by decide) ?_
              exact pu_zret hx hb hr hlocks dX2_hasDossier_49 (bI_nar _) (bI_eq (a := true) (Eq.trans (Eq.symm (Eq.trans (if_pos hs_22) (Eq.trans (if_pos c_36) (Eq.trans (if_pos c_45) (rfl))))) hA_12))
        · skip
          refine W.eq (g2 := F0 m 23 ls [.null]) (by rw [qs_22]; rfl) ?_
          refine lv_astoreN (lv' := [(6, .null), (0, .ref (ad 0 0)), (1, .int p0), (2, .int p1), (3, .ref (ad 2 0)), (4, .int 20), (5, .int (nI k))]) hx hb dX2_hasDossier_23 hl (by decide) rfl (fun ls hl => ?_)
          refine lv_aloadN hx hb dX2_hasDossier_25 (lv_at hl 0 rfl) ?_
          refine W.eq (g2 := F0 m 27 ls [.null]) rfl ?_
          refine lv_ifnullN (tgt := 50) hx hb dX2_hasDossier_27 (by decide) ?_
          refine lv_iinc (v := (nI k) + 1) (lv' := [(5, .int ((nI k) + 1)), (6, .null), (0, .ref (ad 0 0)), (1, .int p0), (2, .int p1), (3, .ref (ad 2 0)), (4, .int 20)]) hx hb dX2_hasDossier_50 hl (k := 6) rfl (rfl) (by decide) rfl (fun ls hl => ?_)
          refine lv_goto (tgt := 12) hx hb dX2_hasDossier_53 (by decide) ?_
          exact ih_12 (k + 1) (by omega) _ ls (nI_1 k) (Eq.trans (Eq.symm (Eq.trans (if_neg (ntr hs_22)) (rfl))) hA_12) (lv_sub hl [2, 3, 4, 5, 6, 0] rfl)
  exact hloop_12 20 0 rfl _ ls nI_0.symm rfl (lv_sub hl [3, 4, 5, 2, 1, 0] rfl)
