set_option maxHeartbeats 4000000 in
set_option maxRecDepth 100000 in
theorem c_X1_takeBid (l : Launch) (D : va_G) (K : Nat → ClassId) (sz : Nat) (q sa wa : Nat) (su go : Nat → Int32) (dec win par prt p0 p1 : Int32) (hb7 : sp_X2_isBidder p0 = true) : EFv l yX1_takeBid wsX1_takeBid 1 20 D K [.ref q, .int p0, .int p1] sz (tW K q sa wa su go dec win par prt) (tW K q sa wa (upd su p0.toNatClampNeg p1) go dec win par prt) := by
  refine Met.ofW (cc := cX1_takeBid) (maxL := 3) (ret := none) (by decide) rfl ?_
  intro p e s m args below meth c s₁ B hml hv
  obtain ⟨rfl, hsz, hD0, hP, hK, hE⟩ := hv
  have hx := B.exec
  have hb := B.bytes
  have hr := B.returns
  have hts := atoms_spec (ws := wsX1_takeBid) B.pre
  have hown : s.vm.findClass RX1 = some m.cls := findClass_of_methodNamed B.named
  have hlocks := B.notSynchronized
  have hc : CallFix p m c cX1_takeBid 3 s ([.ref q, .int p0, .int p1] : List Value).toArray wsX1_takeBid RX1 := ⟨hx, hb, hml, hown, hts⟩
  subst hsz
  have hD := hD0.self (sz := s.heap.size)
  generalize hAe : va_A (tW K q sa wa su go dec win par prt) s.heap.size = A at hD ⊢
  have hA : ∀ q : Nat, s.heap.size ≤ q → A q := fun q h => by rw [← hAe]; exact Or.inr h
  have hS : va_S A s.heap s.heap [] := va_S.rf
  have hP : va_P D vwCl (tW K q sa wa su go dec win par prt) s.heap := hP
  have hin1 : ∀ w ∈ u_ws RX1 TX1 6, w ∈ wsX1_takeBid := by decide +kernel
  have hl := lv_entry ([.ref q, .int p0, .int p1]) (n := 3) (Nat.le_of_ble_eq_true rfl)
  rw [lg_entry_eq]
  generalize (lg_sl ([.ref q, .int p0, .int p1]) ++ List.replicate (3 - (lg_sl ([.ref q, .int p0, .int p1])).length) Slot.unset).toArray = ls at hl ⊢
  have hl : lv_has ls 3 [(0, .ref q), (1, .int p0), (2, .int p1)] := hl
  refine lv_iload_n hx hb dX1_takeBid_0 rfl (lv_at hl 1 rfl) ?_
  refine pu_SN (As := [.int p0]) (rest := []) hc (c_X2_isBidder l D K p0) ⟨va_cnB (own := RX1) (index := 33) (host := RX2) 1 hts gX1_takeBid_X2_isBidder_n33 rfl rfl rfl hE.1 (hts (.initialized RX2) (by decide +kernel)) (by decide +kernel) ⟨Nat.le_of_ble_eq_true rfl, Nat.le_of_ble_eq_true rfl⟩, (hts (.static yX2_isBidder) (by decide +kernel)), trivial⟩ trivial hK hE rfl rfl hl.1 (Nat.le_of_ble_eq_true rfl) dX1_takeBid_1 ⟨Nat.le_of_ble_eq_true rfl, Nat.le_of_ble_eq_true rfl⟩ ?_
  refine lb_eq (tgt := 14) hx hb dX1_takeBid_4 (by decide) (fun c_4 => ?_) (fun c_4 => ?_)
  · skip
    exact absurd hb7 (ntr c_4)
  · skip
    refine lv_aload_n hx hb dX1_takeBid_7 rfl (lv_at hl 0 rfl) ?_
    refine va_get (D := D) (ci := 1) (v := .ref sa) (C := RX1) (T := TX1) (N := 6) hx hb hts hin1 hown hK hP 0 rfl rfl 0 (by decide) (hts (.fieldLink RX1 9 "CartelWatch$Tender" "sums" "[I") (by decide +kernel)) (fun _ h9 => h9) rfl dX1_takeBid_8 ?_
    refine lv_iload_n hx hb dX1_takeBid_11 rfl (lv_at hl 1 rfl) ?_
    refine lv_iload_n hx hb dX1_takeBid_12 rfl (lv_at hl 2 rfl) ?_
    refine va_iast hx hb hK hP hD hS 1 0 (cA := K 0) rfl rfl (in7 hb7) dX1_takeBid_13 (fun H locs hP hD hS => ?_)
    have hP : va_P D vwCl [(q, .inr (1, [.ref sa, .ref wa, .int dec, .int win, .int par, .int prt])), (sa, .inl (K 0, 7, .inl (upd su p0.toNatClampNeg p1))), (wa, .inl (K 1, 7, .inl go))] H := hP
    have hD : va_D A [(q, .inr (1, [.ref sa, .ref wa, .int dec, .int win, .int par, .int prt])), (sa, .inl (K 0, 7, .inl (upd su p0.toNatClampNeg p1))), (wa, .inl (K 1, 7, .inl go))] := hD
    refine W.eq (g2 := F0 m 14 ls []) rfl ?_
    have hPe : va_P D vwCl [(q, .inr (1, [.ref sa, .ref wa, .int dec, .int win, .int par, .int prt])), (sa, .inl (K 0, 7, .inl (upd su p0.toNatClampNeg p1))), (wa, .inl (K 1, 7, .inl go))] H := hP
    have hDe : va_D A [(q, .inr (1, [.ref sa, .ref wa, .int dec, .int win, .int par, .int prt])), (sa, .inl (K 0, 7, .inl (upd su p0.toNatClampNeg p1))), (wa, .inl (K 1, 7, .inl go))] := hD
    exact W.vret hx hb hr (fun t ht hW => ⟨⟨(), rfl, trivial, by dsimp only; rw [ht]; exact ⟨hPe, hDe⟩⟩, hS.F ht⟩) hS.2.2 dX1_takeBid_14

set_option maxHeartbeats 4000000 in
set_option maxRecDepth 100000 in
theorem c_X1_giveBack (l : Launch) (D : va_G) (K : Nat → ClassId) (sz : Nat) (q sa wa : Nat) (su go : Nat → Int32) (dec win par prt p0 : Int32) (hb7 : sp_X2_isBidder p0 = true) : EFv l yX1_giveBack wsX1_giveBack 1 20 D K [.ref q, .int p0] sz (tW K q sa wa su go dec win par prt) (tW K q sa wa su (upd go p0.toNatClampNeg 1) dec win par prt) := by
  refine Met.ofW (cc := cX1_giveBack) (maxL := 2) (ret := none) (by decide) rfl ?_
  intro p e s m args below meth c s₁ B hml hv
  obtain ⟨rfl, hsz, hD0, hP, hK, hE⟩ := hv
  have hx := B.exec
  have hb := B.bytes
  have hr := B.returns
  have hts := atoms_spec (ws := wsX1_giveBack) B.pre
  have hown : s.vm.findClass RX1 = some m.cls := findClass_of_methodNamed B.named
  have hlocks := B.notSynchronized
  have hc : CallFix p m c cX1_giveBack 2 s ([.ref q, .int p0] : List Value).toArray wsX1_giveBack RX1 := ⟨hx, hb, hml, hown, hts⟩
  subst hsz
  have hD := hD0.self (sz := s.heap.size)
  generalize hAe : va_A (tW K q sa wa su go dec win par prt) s.heap.size = A at hD ⊢
  have hA : ∀ q : Nat, s.heap.size ≤ q → A q := fun q h => by rw [← hAe]; exact Or.inr h
  have hS : va_S A s.heap s.heap [] := va_S.rf
  have hP : va_P D vwCl (tW K q sa wa su go dec win par prt) s.heap := hP
  have hin1 : ∀ w ∈ u_ws RX1 TX1 6, w ∈ wsX1_giveBack := by decide +kernel
  have hl := lv_entry ([.ref q, .int p0]) (n := 2) (Nat.le_of_ble_eq_true rfl)
  rw [lg_entry_eq]
  generalize (lg_sl ([.ref q, .int p0]) ++ List.replicate (2 - (lg_sl ([.ref q, .int p0])).length) Slot.unset).toArray = ls at hl ⊢
  have hl : lv_has ls 2 [(0, .ref q), (1, .int p0)] := hl
  refine lv_iload_n hx hb dX1_giveBack_0 rfl (lv_at hl 1 rfl) ?_
  refine pu_SN (As := [.int p0]) (rest := []) hc (c_X2_isBidder l D K p0) ⟨va_cnB (own := RX1) (index := 33) (host := RX2) 1 hts gX1_giveBack_X2_isBidder_n33 rfl rfl rfl hE.1 (hts (.initialized RX2) (by decide +kernel)) (by decide +kernel) ⟨Nat.le_of_ble_eq_true rfl, Nat.le_of_ble_eq_true rfl⟩, (hts (.static yX2_isBidder) (by decide +kernel)), trivial⟩ trivial hK hE rfl rfl hl.1 (Nat.le_of_ble_eq_true rfl) dX1_giveBack_1 ⟨Nat.le_of_ble_eq_true rfl, Nat.le_of_ble_eq_true rfl⟩ ?_
  refine lb_eq (tgt := 14) hx hb dX1_giveBack_4 (by decide) (fun c_4 => ?_) (fun c_4 => ?_)
  · skip
    exact absurd hb7 (ntr c_4)
  · skip
    refine lv_aload_n hx hb dX1_giveBack_7 rfl (lv_at hl 0 rfl) ?_
    refine va_get (D := D) (ci := 1) (v := .ref wa) (C := RX1) (T := TX1) (N := 6) hx hb hts hin1 hown hK hP 0 rfl rfl 1 (by decide) (hts (.fieldLink RX1 15 "CartelWatch$Tender" "withdrawn" "[Z") (by decide +kernel)) (fun _ h9 => h9) rfl dX1_giveBack_8 ?_
    refine lv_iload_n hx hb dX1_giveBack_11 rfl (lv_at hl 1 rfl) ?_
    refine lv_iconst (v := 1) hx hb dX1_giveBack_12 (by decide) ?_
    refine va_zast hx hb hK hP hD hS 2 1 (cA := K 1) rfl rfl (in7 hb7) dX1_giveBack_13 (fun H locs hP hD hS => ?_)
    have hP : va_P D vwCl [(q, .inr (1, [.ref sa, .ref wa, .int dec, .int win, .int par, .int prt])), (sa, .inl (K 0, 7, .inl su)), (wa, .inl (K 1, 7, .inl (upd go p0.toNatClampNeg 1)))] H := hP
    have hD : va_D A [(q, .inr (1, [.ref sa, .ref wa, .int dec, .int win, .int par, .int prt])), (sa, .inl (K 0, 7, .inl su)), (wa, .inl (K 1, 7, .inl (upd go p0.toNatClampNeg 1)))] := hD
    refine W.eq (g2 := F0 m 14 ls []) rfl ?_
    have hPe : va_P D vwCl [(q, .inr (1, [.ref sa, .ref wa, .int dec, .int win, .int par, .int prt])), (sa, .inl (K 0, 7, .inl su)), (wa, .inl (K 1, 7, .inl (upd go p0.toNatClampNeg 1)))] H := hP
    have hDe : va_D A [(q, .inr (1, [.ref sa, .ref wa, .int dec, .int win, .int par, .int prt])), (sa, .inl (K 0, 7, .inl su)), (wa, .inl (K 1, 7, .inl (upd go p0.toNatClampNeg 1)))] := hD
    exact W.vret hx hb hr (fun t ht hW => ⟨⟨(), rfl, trivial, by dsimp only; rw [ht]; exact ⟨hPe, hDe⟩⟩, hS.F ht⟩) hS.2.2 dX1_giveBack_14

def sp_X1_decide_L4 (su : Nat → Int32) (go : Nat → Int32) : Nat → Int32
  | 0 => (-1)
  | k + 1 => if sp_X1_isStanding su go (nI k) = true then (if (sp_X1_decide_L4 su go k) = (-1) then (nI k) else (if (sp_X1_sumOf su (sp_X1_decide_L4 su go k)) ≤ (sp_X1_sumOf su (nI k)) then (sp_X1_decide_L4 su go k) else (nI k))) else (sp_X1_decide_L4 su go k)
set_option maxHeartbeats 4000000 in
set_option maxRecDepth 100000 in
theorem c_X1_decide (l : Launch) (D : va_G) (K : Nat → ClassId) (sz : Nat) (q sa wa : Nat) (su go : Nat → Int32) (dec win par prt : Int32) : EFv l yX1_decide wsX1_decide 2 41 D K [.ref q] sz (tW K q sa wa su go dec win par prt) (tW K q sa wa su go 1 (sp_X1_decide_L4 su go 7) par prt) := by
  refine Met.ofW (cc := cX1_decide) (maxL := 3) (ret := none) (by decide) rfl ?_
  intro p e s m args below meth c s₁ B hml hv
  obtain ⟨rfl, hsz, hD0, hP, hK, hE⟩ := hv
  have hx := B.exec
  have hb := B.bytes
  have hr := B.returns
  have hts := atoms_spec (ws := wsX1_decide) B.pre
  have hown : s.vm.findClass RX1 = some m.cls := findClass_of_methodNamed B.named
  have hlocks := B.notSynchronized
  have hc : CallFix p m c cX1_decide 3 s ([.ref q] : List Value).toArray wsX1_decide RX1 := ⟨hx, hb, hml, hown, hts⟩
  subst hsz
  have hD := hD0.self (sz := s.heap.size)
  generalize hAe : va_A (tW K q sa wa su go dec win par prt) s.heap.size = A at hD ⊢
  have hA : ∀ q : Nat, s.heap.size ≤ q → A q := fun q h => by rw [← hAe]; exact Or.inr h
  have hS : va_S A s.heap s.heap [] := va_S.rf
  have hP : va_P D vwCl (tW K q sa wa su go dec win par prt) s.heap := hP
  have hin1 : ∀ w ∈ u_ws RX1 TX1 6, w ∈ wsX1_decide := by decide +kernel
  have hl := lv_entry ([.ref q]) (n := 3) (Nat.le_of_ble_eq_true rfl)
  rw [lg_entry_eq]
  generalize (lg_sl ([.ref q]) ++ List.replicate (3 - (lg_sl ([.ref q])).length) Slot.unset).toArray = ls at hl ⊢
  have hl : lv_has ls 3 [(0, .ref q)] := hl
  refine lv_iconst (v := -1) hx hb dX1_decide_0 (by decide) ?_
  refine lv_istore_n (lv' := [(1, .int (-1)), (0, .ref q)]) hx hb dX1_decide_1 rfl hl (by decide) rfl (fun ls hl => ?_)
  refine lv_iconst (v := 0) hx hb dX1_decide_2 (by decide) ?_
  refine lv_istore_n (lv' := [(2, .int 0), (1, .int (-1)), (0, .ref q)]) hx hb dX1_decide_3 rfl hl (by decide) rfl (fun ls hl => ?_)
  have hloop_4 : ∀ (n4 k : Nat), k ≤ 7 → 7 + 1 ≤ k + n4 → ∀ (a4_1 x4 : Int32) (ls : Array Slot), a4_1 = sp_X1_decide_L4 su go k → x4 = nI k → lv_has ls 3 [(0, .ref q), (1, .int a4_1), (2, .int x4)] → W p l e ({ frames := 2, cells := 0, slots := 0, locals := 41 } : Room) s m ([.ref q] : List Value).toArray below meth c s.heap [] 0 0 (MQ below (va_Qv (fun (_ : Unit) => True) (fun _ t => va_P D vwCl (tW K q sa wa su go 1 (sp_X1_decide_L4 su go 7) par prt) t.heap ∧ va_D A (tW K q sa wa su go 1 (sp_X1_decide_L4 su go 7) par prt)) A) ([.ref q] : List Value).toArray s 0 0 A) (F0 m 4 ls []) := by
    intro n4
    induction n4 with
    | zero => intro k h1 h2; exact absurd h2 (by omega)
    | succ n4 ih_4 =>
      intro k hk_4 hn_4 a4_1 x4 ls ea4_1 ex4 hl
      subst ea4_1
      subst ex4
      refine lv_iload_n hx hb dX1_decide_4 rfl (lv_at hl 2 rfl) ?_
      refine lv_bipush (v := 7) hx hb dX1_decide_5 (by decide) ?_
      refine lv_icmp_ge (tgt := 44) hx hb dX1_decide_7 (by decide) (fun c_7 => ?_) (fun c_7 => ?_)
      · skip
        have hke_4 : 7 = k := (lp_end rfl c_7 hk_4 (by decide)).symm
        subst hke_4
        refine lv_aload_n hx hb dX1_decide_44 rfl (lv_at hl 0 rfl) ?_
        refine lv_iload_n hx hb dX1_decide_45 rfl (lv_at hl 1 rfl) ?_
        refine va_put (D := D) (ci := 1) (v := .int (sp_X1_decide_L4 su go 7)) (ty := .int) (C := RX1) (T := TX1) (N := 6) hx hb hts hin1 tyX1 tyX1_ok nmX1 hown hK hP hD hS 0 rfl rfl 3 (by decide) (hts (.fieldLink RX1 23 "CartelWatch$Tender" "winner" "I") (by decide +kernel)) (fun _ h9 => h9) rfl (by decide +kernel) rfl rfl (Nat.le_of_ble_eq_true rfl) dX1_decide_46 (fun H locs hP hD hS => ?_)
        have hP : va_P D vwCl [(q, .inr (1, [.ref sa, .ref wa, .int dec, .int (sp_X1_decide_L4 su go 7), .int par, .int prt])), (sa, .inl (K 0, 7, .inl su)), (wa, .inl (K 1, 7, .inl go))] H := hP
        have hD : va_D A [(q, .inr (1, [.ref sa, .ref wa, .int dec, .int (sp_X1_decide_L4 su go 7), .int par, .int prt])), (sa, .inl (K 0, 7, .inl su)), (wa, .inl (K 1, 7, .inl go))] := hD
        refine lv_aload_n hx hb dX1_decide_49 rfl (lv_at hl 0 rfl) ?_
        refine lv_iconst (v := 1) hx hb dX1_decide_50 (by decide) ?_
        refine va_put (D := D) (ci := 1) (v := .int 1) (ty := .boolean) (C := RX1) (T := TX1) (N := 6) hx hb hts hin1 tyX1 tyX1_ok nmX1 hown hK hP hD hS 0 rfl rfl 2 (by decide) (hts (.fieldLink RX1 19 "CartelWatch$Tender" "decided" "Z") (by decide +kernel)) (fun _ h9 => h9) rfl (by decide +kernel) rfl rfl (Nat.le_of_ble_eq_true rfl) dX1_decide_51 (fun H locs hP hD hS => ?_)
        have hP : va_P D vwCl [(q, .inr (1, [.ref sa, .ref wa, .int 1, .int (sp_X1_decide_L4 su go 7), .int par, .int prt])), (sa, .inl (K 0, 7, .inl su)), (wa, .inl (K 1, 7, .inl go))] H := hP
        have hD : va_D A [(q, .inr (1, [.ref sa, .ref wa, .int 1, .int (sp_X1_decide_L4 su go 7), .int par, .int prt])), (sa, .inl (K 0, 7, .inl su)), (wa, .inl (K 1, 7, .inl go))] := hD
        have hPe : va_P D vwCl [(q, .inr (1, [.ref sa, .ref wa, .int 1, .int (sp_X1_decide_L4 su go 7), .int par, .int prt])), (sa, .inl (K 0, 7, .inl su)), (wa, .inl (K 1, 7, .inl go))] H := hP
        have hDe : va_D A [(q, .inr (1, [.ref sa, .ref wa, .int 1, .int (sp_X1_decide_L4 su go 7), .int par, .int prt])), (sa, .inl (K 0, 7, .inl su)), (wa, .inl (K 1, 7, .inl go))] := hD
        exact W.vret hx hb hr (fun t ht hW => ⟨⟨(), rfl, trivial, by dsimp only; rw [ht]; exact ⟨hPe, hDe⟩⟩, hS.F ht⟩) hS.2.2 dX1_decide_54
      · skip
        have hlt_4 : k < 7 := lp_in rfl c_7 hk_4 (by decide)
        refine lv_aload_n hx hb dX1_decide_10 rfl (lv_at hl 0 rfl) ?_
        refine W.eq (g2 := F0 m 11 ls [.ref q]) rfl ?_
        refine lv_iload_n hx hb dX1_decide_11 rfl (lv_at hl 2 rfl) ?_
        refine pu_V (As := [.int (nI k)]) (rest := []) hc (c_X1_isStanding l D K q sa wa su go dec win par prt (nI k)) (cwV 1 hts gX1_decide_X1_isStanding rfl rfl rfl (by decide +kernel) ⟨Nat.le_of_ble_eq_true rfl, Nat.le_of_ble_eq_true rfl⟩) hP hK hE (va_recv hK hP (ci := 1) (q0 := 0) rfl rfl) rfl rfl hl.1 (Nat.le_of_ble_eq_true rfl) dX1_decide_12 ⟨Nat.le_of_ble_eq_true rfl, Nat.le_of_ble_eq_true rfl⟩ ?_
        refine lb_eq (tgt := 38) hx hb dX1_decide_15 (by decide) (fun c_15 => ?_) (fun c_15 => ?_)
        · skip
          refine lv_iinc (v := (nI k) + 1) (lv' := [(2, .int ((nI k) + 1)), (0, .ref q), (1, .int (sp_X1_decide_L4 su go k))]) hx hb dX1_decide_38 hl (k := 2) rfl (rfl) (by decide) rfl (fun ls hl => ?_)
          refine lv_goto (tgt := 4) hx hb dX1_decide_41 (by decide) ?_
          exact ih_4 (k + 1) hlt_4 (by omega) _ _ ls (Eq.symm (Eq.trans (if_neg (ntr c_15)) (rfl))) (nI_1 k) (lv_sub hl [1, 2, 0] rfl)
        · skip
          refine lv_iload_n hx hb dX1_decide_18 rfl (lv_at hl 1 rfl) ?_
          refine lv_iconst (v := -1) hx hb dX1_decide_19 (by decide) ?_
          refine lv_icmp_eq (tgt := 36) hx hb dX1_decide_20 (by decide) (fun c_20 => ?_) (fun c_20 => ?_)
          · skip
            refine lv_iload_n hx hb dX1_decide_36 rfl (lv_at hl 2 rfl) ?_
            refine lv_istore_n (lv' := [(1, .int (nI k)), (0, .ref q), (2, .int (nI k))]) hx hb dX1_decide_37 rfl hl (by decide) rfl (fun ls hl => ?_)
            refine lv_iinc (v := (nI k) + 1) (lv' := [(2, .int ((nI k) + 1)), (1, .int (nI k)), (0, .ref q)]) hx hb dX1_decide_38 hl (k := 2) rfl (rfl) (by decide) rfl (fun ls hl => ?_)
            refine lv_goto (tgt := 4) hx hb dX1_decide_41 (by decide) ?_
            exact ih_4 (k + 1) hlt_4 (by omega) _ _ ls (Eq.symm (Eq.trans (if_pos c_15) (Eq.trans (if_pos c_20) (rfl)))) (nI_1 k) (lv_sub hl [2, 1, 0] rfl)
          · skip
            refine lv_aload_n hx hb dX1_decide_23 rfl (lv_at hl 0 rfl) ?_
            refine lv_iload_n hx hb dX1_decide_24 rfl (lv_at hl 2 rfl) ?_
            refine W.eq (g2 := F0 m 25 ls [.int (nI k), .ref q]) rfl ?_
            refine pu_V (As := [.int (nI k)]) (rest := []) hc (c_X1_sumOf l D K q sa wa su go dec win par prt (nI k)) (cwV 1 hts gX1_decide_X1_sumOf rfl rfl rfl (by decide +kernel) ⟨Nat.le_of_ble_eq_true rfl, Nat.le_of_ble_eq_true rfl⟩) hP hK hE (va_recv hK hP (ci := 1) (q0 := 0) rfl rfl) rfl rfl hl.1 (Nat.le_of_ble_eq_true rfl) dX1_decide_25 ⟨Nat.le_of_ble_eq_true rfl, Nat.le_of_ble_eq_true rfl⟩ ?_
            refine lv_aload_n hx hb dX1_decide_28 rfl (lv_at hl 0 rfl) ?_
            refine lv_iload_n hx hb dX1_decide_29 rfl (lv_at hl 1 rfl) ?_
            refine pu_V (As := [.int (sp_X1_decide_L4 su go k)]) (rest := [.int (sp_X1_sumOf su (nI k))]) hc (c_X1_sumOf l D K q sa wa su go dec win par prt (sp_X1_decide_L4 su go k)) (cwV 1 hts gX1_decide_X1_sumOf rfl rfl rfl (by decide +kernel) ⟨Nat.le_of_ble_eq_true rfl, Nat.le_of_ble_eq_true rfl⟩) hP hK hE (va_recv hK hP (ci := 1) (q0 := 0) rfl rfl) rfl rfl hl.1 (Nat.le_of_ble_eq_true rfl) dX1_decide_30 ⟨Nat.le_of_ble_eq_true rfl, Nat.le_of_ble_eq_true rfl⟩ ?_
            refine lv_icmp_ge (tgt := 38) hx hb dX1_decide_33 (by decide) (fun c_33 => ?_) (fun c_33 => ?_)
            · skip
              refine lv_iinc (v := (nI k) + 1) (lv' := [(2, .int ((nI k) + 1)), (0, .ref q), (1, .int (sp_X1_decide_L4 su go k))]) hx hb dX1_decide_38 hl (k := 2) rfl (rfl) (by decide) rfl (fun ls hl => ?_)
              refine lv_goto (tgt := 4) hx hb dX1_decide_41 (by decide) ?_
              exact ih_4 (k + 1) hlt_4 (by omega) _ _ ls (Eq.symm (Eq.trans (if_pos c_15) (Eq.trans (if_neg c_20) (Eq.trans (if_pos c_33) (rfl))))) (nI_1 k) (lv_sub hl [1, 2, 0] rfl)
            · skip
              refine lv_iload_n hx hb dX1_decide_36 rfl (lv_at hl 2 rfl) ?_
              refine lv_istore_n (lv' := [(1, .int (nI k)), (0, .ref q), (2, .int (nI k))]) hx hb dX1_decide_37 rfl hl (by decide) rfl (fun ls hl => ?_)
              refine lv_iinc (v := (nI k) + 1) (lv' := [(2, .int ((nI k) + 1)), (1, .int (nI k)), (0, .ref q)]) hx hb dX1_decide_38 hl (k := 2) rfl (rfl) (by decide) rfl (fun ls hl => ?_)
              refine W.eq (g2 := F0 m 41 ls []) rfl ?_
              refine lv_goto (tgt := 4) hx hb dX1_decide_41 (by decide) ?_
              exact ih_4 (k + 1) hlt_4 (by omega) _ _ ls (Eq.symm (Eq.trans (if_pos c_15) (Eq.trans (if_neg c_20) (Eq.trans (if_neg c_33) (rfl))))) (nI_1 k) (lv_sub hl [2, 1, 0] rfl)
  exact hloop_4 (7 + 1) 0 (Nat.zero_le _) (by omega) _ _ ls rfl nI_0.symm (lv_sub hl [2, 1, 0] rfl)

set_option maxHeartbeats 4000000 in
set_option maxRecDepth 100000 in
theorem c_X1_giveOver (l : Launch) (D : va_G) (K : Nat → ClassId) (sz : Nat) (q sa wa : Nat) (su go : Nat → Int32) (dec win par prt p0 p1 : Int32) : EFv l yX1_giveOver wsX1_giveOver 0 0 D K [.ref q, .int p0, .int p1] sz (tW K q sa wa su go dec win par prt) (tW K q sa wa su go dec win p0 p1) := by
  refine Met.ofW (cc := cX1_giveOver) (maxL := 3) (ret := none) (by decide) rfl ?_
  intro p e s m args below meth c s₁ B hml hv
  obtain ⟨rfl, hsz, hD0, hP, hK, hE⟩ := hv
  have hx := B.exec
  have hb := B.bytes
  have hr := B.returns
  have hts := atoms_spec (ws := wsX1_giveOver) B.pre
  have hown : s.vm.findClass RX1 = some m.cls := findClass_of_methodNamed B.named
  have hlocks := B.notSynchronized
  have hc : CallFix p m c cX1_giveOver 3 s ([.ref q, .int p0, .int p1] : List Value).toArray wsX1_giveOver RX1 := ⟨hx, hb, hml, hown, hts⟩
  subst hsz
  have hD := hD0.self (sz := s.heap.size)
  generalize hAe : va_A (tW K q sa wa su go dec win par prt) s.heap.size = A at hD ⊢
  have hA : ∀ q : Nat, s.heap.size ≤ q → A q := fun q h => by rw [← hAe]; exact Or.inr h
  have hS : va_S A s.heap s.heap [] := va_S.rf
  have hP : va_P D vwCl (tW K q sa wa su go dec win par prt) s.heap := hP
  have hin1 : ∀ w ∈ u_ws RX1 TX1 6, w ∈ wsX1_giveOver := by decide +kernel
  have hl := lv_entry ([.ref q, .int p0, .int p1]) (n := 3) (Nat.le_of_ble_eq_true rfl)
  rw [lg_entry_eq]
  generalize (lg_sl ([.ref q, .int p0, .int p1]) ++ List.replicate (3 - (lg_sl ([.ref q, .int p0, .int p1])).length) Slot.unset).toArray = ls at hl ⊢
  have hl : lv_has ls 3 [(0, .ref q), (1, .int p0), (2, .int p1)] := hl
  refine lv_aload_n hx hb dX1_giveOver_0 rfl (lv_at hl 0 rfl) ?_
  refine lv_iload_n hx hb dX1_giveOver_1 rfl (lv_at hl 1 rfl) ?_
  refine va_put (D := D) (ci := 1) (v := .int p0) (ty := .int) (C := RX1) (T := TX1) (N := 6) hx hb hts hin1 tyX1 tyX1_ok nmX1 hown hK hP hD hS 0 rfl rfl 4 (by decide) (hts (.fieldLink RX1 27 "CartelWatch$Tender" "partner" "I") (by decide +kernel)) (fun _ h9 => h9) rfl (by decide +kernel) rfl rfl (Nat.le_of_ble_eq_true rfl) dX1_giveOver_2 (fun H locs hP hD hS => ?_)
  have hP : va_P D vwCl [(q, .inr (1, [.ref sa, .ref wa, .int dec, .int win, .int p0, .int prt])), (sa, .inl (K 0, 7, .inl su)), (wa, .inl (K 1, 7, .inl go))] H := hP
  have hD : va_D A [(q, .inr (1, [.ref sa, .ref wa, .int dec, .int win, .int p0, .int prt])), (sa, .inl (K 0, 7, .inl su)), (wa, .inl (K 1, 7, .inl go))] := hD
  refine lv_aload_n hx hb dX1_giveOver_5 rfl (lv_at hl 0 rfl) ?_
  refine lv_iload_n hx hb dX1_giveOver_6 rfl (lv_at hl 2 rfl) ?_
  refine va_put (D := D) (ci := 1) (v := .int p1) (ty := .int) (C := RX1) (T := TX1) (N := 6) hx hb hts hin1 tyX1 tyX1_ok nmX1 hown hK hP hD hS 0 rfl rfl 5 (by decide) (hts (.fieldLink RX1 30 "CartelWatch$Tender" "partnersPart" "I") (by decide +kernel)) (fun _ h9 => h9) rfl (by decide +kernel) rfl rfl (Nat.le_of_ble_eq_true rfl) dX1_giveOver_7 (fun H locs hP hD hS => ?_)
  have hP : va_P D vwCl [(q, .inr (1, [.ref sa, .ref wa, .int dec, .int win, .int p0, .int p1])), (sa, .inl (K 0, 7, .inl su)), (wa, .inl (K 1, 7, .inl go))] H := hP
  have hD : va_D A [(q, .inr (1, [.ref sa, .ref wa, .int dec, .int win, .int p0, .int p1])), (sa, .inl (K 0, 7, .inl su)), (wa, .inl (K 1, 7, .inl go))] := hD
  have hPe : va_P D vwCl [(q, .inr (1, [.ref sa, .ref wa, .int dec, .int win, .int p0, .int p1])), (sa, .inl (K 0, 7, .inl su)), (wa, .inl (K 1, 7, .inl go))] H := hP
  have hDe : va_D A [(q, .inr (1, [.ref sa, .ref wa, .int dec, .int win, .int p0, .int p1])), (sa, .inl (K 0, 7, .inl su)), (wa, .inl (K 1, 7, .inl go))] := hD
  exact W.vret hx hb hr (fun t ht hW => ⟨⟨(), rfl, trivial, by dsimp only; rw [ht]; exact ⟨hPe, hDe⟩⟩, hS.F ht⟩) hS.2.2 dX1_giveOver_10

def sp_X0_one (one : Int32) : Int32 := one
set_option maxHeartbeats 4000000 in
set_option maxRecDepth 100000 in
theorem c_X0_one (l : Launch) (D : va_G) (K : Nat → ClassId) (q ua na fa : Nat) (one oth : Int32) (un nw fi : Nat → Int32) (mc fst cl : Int32) : PU l yX0_one wsX0_one 0 0 D K [.ref q] (fun H => va_P D vwCl (dW K q ua na fa one oth un nw fi mc fst cl) H) (.int (sp_X0_one one)) := by
  refine Met.ofW (cc := cX0_one) (maxL := 1) (ret := (some .int)) (by decide) rfl ?_
  intro p e s m args below meth c s₁ B hml hv
  obtain ⟨rfl, hP, hK, hE⟩ := hv
  have hx := B.exec
  have hb := B.bytes
  have hr := B.returns
  have hts := atoms_spec (ws := wsX0_one) B.pre
  have hown : s.vm.findClass RX0 = some m.cls := findClass_of_methodNamed B.named
  have hlocks := B.notSynchronized
  have hc : CallFix p m c cX0_one 1 s ([.ref q] : List Value).toArray wsX0_one RX0 := ⟨hx, hb, hml, hown, hts⟩
  have hin0 : ∀ w ∈ u_ws RX0 TX0 8, w ∈ wsX0_one := by decide +kernel
  have hP : va_P D vwCl (dW K q ua na fa one oth un nw fi mc fst cl) s.heap := hP
  have hl := lv_entry ([.ref q]) (n := 1) (Nat.le_of_ble_eq_true rfl)
  rw [lg_entry_eq]
  generalize (lg_sl ([.ref q]) ++ List.replicate (1 - (lg_sl ([.ref q])).length) Slot.unset).toArray = ls at hl ⊢
  have hl : lv_has ls 1 [(0, .ref q)] := hl
  refine lv_aload_n hx hb dX0_one_0 rfl (lv_at hl 0 rfl) ?_
  refine va_get (D := D) (ci := 0) (v := .int one) (C := RX0) (T := TX0) (N := 8) hx hb hts hin0 hown hK hP 0 rfl rfl 0 (by decide) (hts (.fieldLink RX0 33 "CartelWatch$Dossier" "one" "I") (by decide +kernel)) (fun _ h9 => h9) rfl dX0_one_1 ?_
  exact pu_iret hx hb hr hlocks dX0_one_4 (Eq.symm (rfl))

def sp_X0_other (oth : Int32) : Int32 := oth
set_option maxHeartbeats 4000000 in
set_option maxRecDepth 100000 in
theorem c_X0_other (l : Launch) (D : va_G) (K : Nat → ClassId) (q ua na fa : Nat) (one oth : Int32) (un nw fi : Nat → Int32) (mc fst cl : Int32) : PU l yX0_other wsX0_other 0 0 D K [.ref q] (fun H => va_P D vwCl (dW K q ua na fa one oth un nw fi mc fst cl) H) (.int (sp_X0_other oth)) := by
  refine Met.ofW (cc := cX0_other) (maxL := 1) (ret := (some .int)) (by decide) rfl ?_
  intro p e s m args below meth c s₁ B hml hv
  obtain ⟨rfl, hP, hK, hE⟩ := hv
  have hx := B.exec
  have hb := B.bytes
  have hr := B.returns
  have hts := atoms_spec (ws := wsX0_other) B.pre
  have hown : s.vm.findClass RX0 = some m.cls := findClass_of_methodNamed B.named
  have hlocks := B.notSynchronized
  have hc : CallFix p m c cX0_other 1 s ([.ref q] : List Value).toArray wsX0_other RX0 := ⟨hx, hb, hml, hown, hts⟩
  have hin0 : ∀ w ∈ u_ws RX0 TX0 8, w ∈ wsX0_other := by decide +kernel
  have hP : va_P D vwCl (dW K q ua na fa one oth un nw fi mc fst cl) s.heap := hP
  have hl := lv_entry ([.ref q]) (n := 1) (Nat.le_of_ble_eq_true rfl)
  rw [lg_entry_eq]
  generalize (lg_sl ([.ref q]) ++ List.replicate (1 - (lg_sl ([.ref q])).length) Slot.unset).toArray = ls at hl ⊢
  have hl : lv_has ls 1 [(0, .ref q)] := hl
  refine lv_aload_n hx hb dX0_other_0 rfl (lv_at hl 0 rfl) ?_
  refine va_get (D := D) (ci := 0) (v := .int oth) (C := RX0) (T := TX0) (N := 8) hx hb hts hin0 hown hK hP 0 rfl rfl 1 (by decide) (hts (.fieldLink RX0 36 "CartelWatch$Dossier" "other" "I") (by decide +kernel)) (fun _ h9 => h9) rfl dX0_other_1 ?_
  exact pu_iret hx hb hr hlocks dX0_other_4 (Eq.symm (rfl))

def sp_X0_isOf (one : Int32) (oth : Int32) (p0 : Int32) : Bool := if p0 = one then true else (if p0 = oth then true else false)
set_option maxHeartbeats 4000000 in
set_option maxRecDepth 100000 in
theorem c_X0_isOf (l : Launch) (D : va_G) (K : Nat → ClassId) (q ua na fa : Nat) (one oth : Int32) (un nw fi : Nat → Int32) (mc fst cl p0 : Int32) : PU l yX0_isOf wsX0_isOf 0 0 D K [.ref q, .int p0] (fun H => va_P D vwCl (dW K q ua na fa one oth un nw fi mc fst cl) H) (.int (bI (sp_X0_isOf one oth p0))) := by
  refine Met.ofW (cc := cX0_isOf) (maxL := 2) (ret := (some .boolean)) (by decide) rfl ?_
  intro p e s m args below meth c s₁ B hml hv
  obtain ⟨rfl, hP, hK, hE⟩ := hv
  have hx := B.exec
  have hb := B.bytes
  have hr := B.returns
  have hts := atoms_spec (ws := wsX0_isOf) B.pre
  have hown : s.vm.findClass RX0 = some m.cls := findClass_of_methodNamed B.named
  have hlocks := B.notSynchronized
  have hc : CallFix p m c cX0_isOf 2 s ([.ref q, .int p0] : List Value).toArray wsX0_isOf RX0 := ⟨hx, hb, hml, hown, hts⟩
  have hin0 : ∀ w ∈ u_ws RX0 TX0 8, w ∈ wsX0_isOf := by decide +kernel
  have hP : va_P D vwCl (dW K q ua na fa one oth un nw fi mc fst cl) s.heap := hP
  have hl := lv_entry ([.ref q, .int p0]) (n := 2) (Nat.le_of_ble_eq_true rfl)
  rw [lg_entry_eq]
  generalize (lg_sl ([.ref q, .int p0]) ++ List.replicate (2 - (lg_sl ([.ref q, .int p0])).length) Slot.unset).toArray = ls at hl ⊢
  have hl : lv_has ls 2 [(0, .ref q), (1, .int p0)] := hl
  refine lv_iload_n hx hb dX0_isOf_0 rfl (lv_at hl 1 rfl) ?_
  refine lv_aload_n hx hb dX0_isOf_1 rfl (lv_at hl 0 rfl) ?_
  refine va_get (D := D) (ci := 0) (v := .int one) (C := RX0) (T := TX0) (N := 8) hx hb hts hin0 hown hK hP 0 rfl rfl 0 (by decide) (hts (.fieldLink RX0 33 "CartelWatch$Dossier" "one" "I") (by decide +kernel)) (fun _ h9 => h9) rfl dX0_isOf_2 ?_
  refine lv_icmp_eq (tgt := 16) hx hb dX0_isOf_5 (by decide) (fun c_5 => ?_) (fun c_5 => ?_)
  · skip
    refine lv_iconst (v := 1) hx hb dX0_isOf_16 (by decide) ?_
    refine lv_goto (tgt := 21) hx hb dX0_isOf_17 (by decide) ?_
    exact pu_zret hx hb hr hlocks dX0_isOf_21 (bI_nar _) (bI_eq (a := true) (Eq.symm (Eq.trans (if_pos c_5) (rfl))))
  · skip
    refine lv_iload_n hx hb dX0_isOf_8 rfl (lv_at hl 1 rfl) ?_
    refine lv_aload_n hx hb dX0_isOf_9 rfl (lv_at hl 0 rfl) ?_
    refine va_get (D := D) (ci := 0) (v := .int oth) (C := RX0) (T := TX0) (N := 8) hx hb hts hin0 hown hK hP 0 rfl rfl 1 (by decide) (hts (.fieldLink RX0 36 "CartelWatch$Dossier" "other" "I") (by decide +kernel)) (fun _ h9 => h9) rfl dX0_isOf_10 ?_
    refine lv_icmp_ne (tgt := 20) hx hb dX0_isOf_13 (by decide) (fun c_13 => ?_) (fun c_13 => ?_)
    · skip
      refine lv_iconst (v := 0) hx hb dX0_isOf_20 (by decide) ?_
      exact pu_zret hx hb hr hlocks dX0_isOf_21 (bI_nar _) (bI_eq (a := false) (Eq.symm (Eq.trans (if_neg c_5) (Eq.trans (if_neg c_13) (rfl)))))
    · skip
      refine W.eq (g2 := F0 m 16 ls []) rfl ?_
      refine lv_iconst (v := 1) hx hb dX0_isOf_16 (by decide) ?_
      refine lv_goto (tgt := 21) hx hb dX0_isOf_17 (by decide) ?_
      exact pu_zret hx hb hr hlocks dX0_isOf_21 (bI_nar _) (bI_eq (a := true) (Eq.symm (Eq.trans (if_neg c_5) (Eq.trans (if_pos c_13) (rfl)))))

def sp_X0_matterCount (mc : Int32) : Int32 := mc
set_option maxHeartbeats 4000000 in
set_option maxRecDepth 100000 in
theorem c_X0_matterCount (l : Launch) (D : va_G) (K : Nat → ClassId) (q ua na fa : Nat) (one oth : Int32) (un nw fi : Nat → Int32) (mc fst cl : Int32) : PU l yX0_matterCount wsX0_matterCount 0 0 D K [.ref q] (fun H => va_P D vwCl (dW K q ua na fa one oth un nw fi mc fst cl) H) (.int (sp_X0_matterCount mc)) := by
  refine Met.ofW (cc := cX0_matterCount) (maxL := 1) (ret := (some .int)) (by decide) rfl ?_
  intro p e s m args below meth c s₁ B hml hv
  obtain ⟨rfl, hP, hK, hE⟩ := hv
  have hx := B.exec
  have hb := B.bytes
  have hr := B.returns
  have hts := atoms_spec (ws := wsX0_matterCount) B.pre
  have hown : s.vm.findClass RX0 = some m.cls := findClass_of_methodNamed B.named
  have hlocks := B.notSynchronized
  have hc : CallFix p m c cX0_matterCount 1 s ([.ref q] : List Value).toArray wsX0_matterCount RX0 := ⟨hx, hb, hml, hown, hts⟩
  have hin0 : ∀ w ∈ u_ws RX0 TX0 8, w ∈ wsX0_matterCount := by decide +kernel
  have hP : va_P D vwCl (dW K q ua na fa one oth un nw fi mc fst cl) s.heap := hP
  have hl := lv_entry ([.ref q]) (n := 1) (Nat.le_of_ble_eq_true rfl)
  rw [lg_entry_eq]
  generalize (lg_sl ([.ref q]) ++ List.replicate (1 - (lg_sl ([.ref q])).length) Slot.unset).toArray = ls at hl ⊢
  have hl : lv_has ls 1 [(0, .ref q)] := hl
  refine lv_aload_n hx hb dX0_matterCount_0 rfl (lv_at hl 0 rfl) ?_
  refine va_get (D := D) (ci := 0) (v := .int mc) (C := RX0) (T := TX0) (N := 8) hx hb hts hin0 hown hK hP 0 rfl rfl 5 (by decide) (hts (.fieldLink RX0 22 "CartelWatch$Dossier" "matterCount" "I") (by decide +kernel)) (fun _ h9 => h9) rfl dX0_matterCount_1 ?_
  exact pu_iret hx hb hr hlocks dX0_matterCount_4 (Eq.symm (rfl))

def sp_X0_first (fst : Int32) : Int32 := fst
set_option maxHeartbeats 4000000 in
set_option maxRecDepth 100000 in
theorem c_X0_first (l : Launch) (D : va_G) (K : Nat → ClassId) (q ua na fa : Nat) (one oth : Int32) (un nw fi : Nat → Int32) (mc fst cl : Int32) : PU l yX0_first wsX0_first 0 0 D K [.ref q] (fun H => va_P D vwCl (dW K q ua na fa one oth un nw fi mc fst cl) H) (.int (sp_X0_first fst)) := by
  refine Met.ofW (cc := cX0_first) (maxL := 1) (ret := (some .int)) (by decide) rfl ?_
  intro p e s m args below meth c s₁ B hml hv
  obtain ⟨rfl, hP, hK, hE⟩ := hv
  have hx := B.exec
  have hb := B.bytes
  have hr := B.returns
  have hts := atoms_spec (ws := wsX0_first) B.pre
  have hown : s.vm.findClass RX0 = some m.cls := findClass_of_methodNamed B.named
  have hlocks := B.notSynchronized
  have hc : CallFix p m c cX0_first 1 s ([.ref q] : List Value).toArray wsX0_first RX0 := ⟨hx, hb, hml, hown, hts⟩
  have hin0 : ∀ w ∈ u_ws RX0 TX0 8, w ∈ wsX0_first := by decide +kernel
  have hP : va_P D vwCl (dW K q ua na fa one oth un nw fi mc fst cl) s.heap := hP
  have hl := lv_entry ([.ref q]) (n := 1) (Nat.le_of_ble_eq_true rfl)
  rw [lg_entry_eq]
  generalize (lg_sl ([.ref q]) ++ List.replicate (1 - (lg_sl ([.ref q])).length) Slot.unset).toArray = ls at hl ⊢
  have hl : lv_has ls 1 [(0, .ref q)] := hl
  refine lv_aload_n hx hb dX0_first_0 rfl (lv_at hl 0 rfl) ?_
  refine va_get (D := D) (ci := 0) (v := .int fst) (C := RX0) (T := TX0) (N := 8) hx hb hts hin0 hown hK hP 0 rfl rfl 6 (by decide) (hts (.fieldLink RX0 26 "CartelWatch$Dossier" "first" "I") (by decide +kernel)) (fun _ h9 => h9) rfl dX0_first_1 ?_
  exact pu_iret hx hb hr hlocks dX0_first_4 (Eq.symm (rfl))

def sp_X0_fineOf (fi : Nat → Int32) (p0 : Int32) : Int32 := if sp_X2_isBidder p0 = true then (fi p0.toNatClampNeg) else 0
set_option maxHeartbeats 4000000 in
set_option maxRecDepth 100000 in
theorem c_X0_fineOf (l : Launch) (D : va_G) (K : Nat → ClassId) (q ua na fa : Nat) (one oth : Int32) (un nw fi : Nat → Int32) (mc fst cl p0 : Int32) : PU l yX0_fineOf wsX0_fineOf 1 20 D K [.ref q, .int p0] (fun H => va_P D vwCl (dW K q ua na fa one oth un nw fi mc fst cl) H) (.int (sp_X0_fineOf fi p0)) := by
  refine Met.ofW (cc := cX0_fineOf) (maxL := 2) (ret := (some .int)) (by decide) rfl ?_
  intro p e s m args below meth c s₁ B hml hv
  obtain ⟨rfl, hP, hK, hE⟩ := hv
  have hx := B.exec
  have hb := B.bytes
  have hr := B.returns
  have hts := atoms_spec (ws := wsX0_fineOf) B.pre
  have hown : s.vm.findClass RX0 = some m.cls := findClass_of_methodNamed B.named
  have hlocks := B.notSynchronized
  have hc : CallFix p m c cX0_fineOf 2 s ([.ref q, .int p0] : List Value).toArray wsX0_fineOf RX0 := ⟨hx, hb, hml, hown, hts⟩
  have hin0 : ∀ w ∈ u_ws RX0 TX0 8, w ∈ wsX0_fineOf := by decide +kernel
  have hP : va_P D vwCl (dW K q ua na fa one oth un nw fi mc fst cl) s.heap := hP
  have hl := lv_entry ([.ref q, .int p0]) (n := 2) (Nat.le_of_ble_eq_true rfl)
  rw [lg_entry_eq]
  generalize (lg_sl ([.ref q, .int p0]) ++ List.replicate (2 - (lg_sl ([.ref q, .int p0])).length) Slot.unset).toArray = ls at hl ⊢
  have hl : lv_has ls 2 [(0, .ref q), (1, .int p0)] := hl
  refine lv_iload_n hx hb dX0_fineOf_0 rfl (lv_at hl 1 rfl) ?_
  refine pu_SN (As := [.int p0]) (rest := []) hc (c_X2_isBidder l D K p0) ⟨va_cnB (own := RX0) (index := 39) (host := RX2) 1 hts gX0_fineOf_X2_isBidder_n39 rfl rfl rfl hE.2.1 (hts (.initialized RX2) (by decide +kernel)) (by decide +kernel) ⟨Nat.le_of_ble_eq_true rfl, Nat.le_of_ble_eq_true rfl⟩, (hts (.static yX2_isBidder) (by decide +kernel)), trivial⟩ trivial hK hE rfl rfl hl.1 (Nat.le_of_ble_eq_true rfl) dX0_fineOf_1 ⟨Nat.le_of_ble_eq_true rfl, Nat.le_of_ble_eq_true rfl⟩ ?_
  refine lb_eq (tgt := 16) hx hb dX0_fineOf_4 (by decide) (fun c_4 => ?_) (fun c_4 => ?_)
  · skip
    refine lv_iconst (v := 0) hx hb dX0_fineOf_16 (by decide) ?_
    exact pu_iret hx hb hr hlocks dX0_fineOf_17 (Eq.symm (Eq.trans (if_neg (ntr c_4)) (rfl)))
  · skip
    refine lv_aload_n hx hb dX0_fineOf_7 rfl (lv_at hl 0 rfl) ?_
    refine va_get (D := D) (ci := 0) (v := .ref fa) (C := RX0) (T := TX0) (N := 8) hx hb hts hin0 hown hK hP 0 rfl rfl 4 (by decide) (hts (.fieldLink RX0 19 "CartelWatch$Dossier" "fines" "[I") (by decide +kernel)) (fun _ h9 => h9) rfl dX0_fineOf_8 ?_
    refine lv_iload_n hx hb dX0_fineOf_11 rfl (lv_at hl 1 rfl) ?_
    refine va_iald hx hb hK hP 3 0 (cA := K 0) rfl rfl (in7 c_4) dX0_fineOf_12 ?_
    refine lv_goto (tgt := 17) hx hb dX0_fineOf_13 (by decide) ?_
    exact pu_iret hx hb hr hlocks dX0_fineOf_17 (Eq.symm (Eq.trans (if_pos c_4) (rfl)))

def sp_X0_isClosed (cl : Int32) : Int32 := cl
set_option maxHeartbeats 4000000 in
set_option maxRecDepth 100000 in
theorem c_X0_isClosed (l : Launch) (D : va_G) (K : Nat → ClassId) (q ua na fa : Nat) (one oth : Int32) (un nw fi : Nat → Int32) (mc fst cl : Int32) (hz : narrow .boolean (.int cl) = .int cl) : PU l yX0_isClosed wsX0_isClosed 0 0 D K [.ref q] (fun H => va_P D vwCl (dW K q ua na fa one oth un nw fi mc fst cl) H) (.int (sp_X0_isClosed cl)) := by
  refine Met.ofW (cc := cX0_isClosed) (maxL := 1) (ret := (some .boolean)) (by decide) rfl ?_
  intro p e s m args below meth c s₁ B hml hv
  obtain ⟨rfl, hP, hK, hE⟩ := hv
  have hx := B.exec
  have hb := B.bytes
  have hr := B.returns
  have hts := atoms_spec (ws := wsX0_isClosed) B.pre
  have hown : s.vm.findClass RX0 = some m.cls := findClass_of_methodNamed B.named
  have hlocks := B.notSynchronized
  have hc : CallFix p m c cX0_isClosed 1 s ([.ref q] : List Value).toArray wsX0_isClosed RX0 := ⟨hx, hb, hml, hown, hts⟩
  have hin0 : ∀ w ∈ u_ws RX0 TX0 8, w ∈ wsX0_isClosed := by decide +kernel
  have hP : va_P D vwCl (dW K q ua na fa one oth un nw fi mc fst cl) s.heap := hP
  have hl := lv_entry ([.ref q]) (n := 1) (Nat.le_of_ble_eq_true rfl)
  rw [lg_entry_eq]
  generalize (lg_sl ([.ref q]) ++ List.replicate (1 - (lg_sl ([.ref q])).length) Slot.unset).toArray = ls at hl ⊢
  have hl : lv_has ls 1 [(0, .ref q)] := hl
  refine lv_aload_n hx hb dX0_isClosed_0 rfl (lv_at hl 0 rfl) ?_
  refine va_get (D := D) (ci := 0) (v := .int cl) (C := RX0) (T := TX0) (N := 8) hx hb hts hin0 hown hK hP 0 rfl rfl 7 (by decide) (hts (.fieldLink RX0 29 "CartelWatch$Dossier" "closed" "Z") (by decide +kernel)) (fun _ h9 => h9) rfl dX0_isClosed_1 ?_
  exact pu_zret hx hb hr hlocks dX0_isClosed_4 hz (Eq.symm (rfl))

def sp_X0_lenientFine_j4s0 (nw : Nat → Int32) (p0 : Int32) : Int32 := if sp_X2_isBidder p0 = true then (nw p0.toNatClampNeg) else 0
def sp_X0_lenientFine (nw : Nat → Int32) (mc : Int32) (fst : Int32) (p0 : Int32) (p1 : Int32) : Int32 := if (sp_X0_lenientFine_j4s0 nw p0) = 0 then p1 else (if p0 = fst then (if (2 * (sp_X0_lenientFine_j4s0 nw p0)) < mc then (p1 / 2) else 0) else (p1 - (p1 / 4)))
set_option maxHeartbeats 4000000 in
set_option maxRecDepth 100000 in
theorem c_X0_lenientFine (l : Launch) (D : va_G) (K : Nat → ClassId) (q ua na fa : Nat) (one oth : Int32) (un nw fi : Nat → Int32) (mc fst cl p0 p1 : Int32) : PU l yX0_lenientFine wsX0_lenientFine 1 20 D K [.ref q, .int p0, .int p1] (fun H => va_P D vwCl (dW K q ua na fa one oth un nw fi mc fst cl) H) (.int (sp_X0_lenientFine nw mc fst p0 p1)) := by
  refine Met.ofW (cc := cX0_lenientFine) (maxL := 4) (ret := (some .int)) (by decide) rfl ?_
  intro p e s m args below meth c s₁ B hml hv
  obtain ⟨rfl, hP, hK, hE⟩ := hv
  have hx := B.exec
  have hb := B.bytes
  have hr := B.returns
  have hts := atoms_spec (ws := wsX0_lenientFine) B.pre
  have hown : s.vm.findClass RX0 = some m.cls := findClass_of_methodNamed B.named
  have hlocks := B.notSynchronized
  have hc : CallFix p m c cX0_lenientFine 4 s ([.ref q, .int p0, .int p1] : List Value).toArray wsX0_lenientFine RX0 := ⟨hx, hb, hml, hown, hts⟩
  have hin0 : ∀ w ∈ u_ws RX0 TX0 8, w ∈ wsX0_lenientFine := by decide +kernel
  have hP : va_P D vwCl (dW K q ua na fa one oth un nw fi mc fst cl) s.heap := hP
  have hl := lv_entry ([.ref q, .int p0, .int p1]) (n := 4) (Nat.le_of_ble_eq_true rfl)
  rw [lg_entry_eq]
  generalize (lg_sl ([.ref q, .int p0, .int p1]) ++ List.replicate (4 - (lg_sl ([.ref q, .int p0, .int p1])).length) Slot.unset).toArray = ls at hl ⊢
  have hl : lv_has ls 4 [(0, .ref q), (1, .int p0), (2, .int p1)] := hl
  refine lv_iload_n hx hb dX0_lenientFine_0 rfl (lv_at hl 1 rfl) ?_
  refine pu_SN (As := [.int p0]) (rest := []) hc (c_X2_isBidder l D K p0) ⟨va_cnB (own := RX0) (index := 39) (host := RX2) 1 hts gX0_lenientFine_X2_isBidder_n39 rfl rfl rfl hE.2.1 (hts (.initialized RX2) (by decide +kernel)) (by decide +kernel) ⟨Nat.le_of_ble_eq_true rfl, Nat.le_of_ble_eq_true rfl⟩, (hts (.static yX2_isBidder) (by decide +kernel)), trivial⟩ trivial hK hE rfl rfl hl.1 (Nat.le_of_ble_eq_true rfl) dX0_lenientFine_1 ⟨Nat.le_of_ble_eq_true rfl, Nat.le_of_ble_eq_true rfl⟩ ?_
  have hj_4 : ∀ (v4_0 : Int32) (ls : Array Slot), v4_0 = sp_X0_lenientFine_j4s0 nw p0 → lv_has ls 4 [(0, .ref q), (1, .int p0), (2, .int p1)] → W p l e ({ frames := 1, cells := 0, slots := 0, locals := 20 } : Room) s m ([.ref q, .int p0, .int p1] : List Value).toArray below meth c s.heap [] 0 0 (MQ below (QcV (.int (sp_X0_lenientFine nw mc fst p0 p1))) ([.ref q, .int p0, .int p1] : List Value).toArray s 0 0 (fun _ => False)) (F0 m 17 ls [.int v4_0]) := by
    intro v4_0 ls ev4_0 hl
    subst ev4_0
    refine lv_istore_n (lv' := [(3, .int (sp_X0_lenientFine_j4s0 nw p0)), (0, .ref q), (1, .int p0), (2, .int p1)]) hx hb dX0_lenientFine_17 rfl hl (by decide) rfl (fun ls hl => ?_)
    refine lv_iload_n hx hb dX0_lenientFine_18 rfl (lv_at hl 0 rfl) ?_
    refine lv_if_ne (tgt := 24) hx hb dX0_lenientFine_19 (by decide) (fun c_19 => ?_) (fun c_19 => ?_)
    · skip
      refine lv_iload_n hx hb dX0_lenientFine_24 rfl (lv_at hl 2 rfl) ?_
      refine lv_aload_n hx hb dX0_lenientFine_25 rfl (lv_at hl 1 rfl) ?_
      refine va_get (D := D) (ci := 0) (v := .int fst) (C := RX0) (T := TX0) (N := 8) hx hb hts hin0 hown hK hP 0 rfl rfl 6 (by decide) (hts (.fieldLink RX0 26 "CartelWatch$Dossier" "first" "I") (by decide +kernel)) (fun _ h9 => h9) rfl dX0_lenientFine_26 ?_
      refine lv_icmp_eq (tgt := 38) hx hb dX0_lenientFine_29 (by decide) (fun c_29 => ?_) (fun c_29 => ?_)
      · skip
        refine lv_iconst (v := 2) hx hb dX0_lenientFine_38 (by decide) ?_
        refine lv_iload_n hx hb dX0_lenientFine_39 rfl (lv_at hl 0 rfl) ?_
        refine lv_imul hx hb dX0_lenientFine_40 ?_
        refine lv_aload_n hx hb dX0_lenientFine_41 rfl (lv_at hl 1 rfl) ?_
        refine va_get (D := D) (ci := 0) (v := .int mc) (C := RX0) (T := TX0) (N := 8) hx hb hts hin0 hown hK hP 0 rfl rfl 5 (by decide) (hts (.fieldLink RX0 22 "CartelWatch$Dossier" "matterCount" "I") (by decide +kernel)) (fun _ h9 => h9) rfl dX0_lenientFine_42 ?_
        refine lv_icmp_lt (tgt := 52) hx hb dX0_lenientFine_45 (by decide) (fun c_45 => ?_) (fun c_45 => ?_)
        · skip
          refine lv_iload_n hx hb dX0_lenientFine_52 rfl (lv_at hl 3 rfl) ?_
          refine lv_iconst (v := 2) hx hb dX0_lenientFine_53 (by decide) ?_
          refine lv_idiv hx hb dX0_lenientFine_54 (by decide) ?_
          exact pu_iret hx hb hr hlocks dX0_lenientFine_55 (Eq.symm (Eq.trans (if_neg c_19) (Eq.trans (if_pos c_29) (Eq.trans (if_pos c_45) (rfl)))))
        · skip
          refine lv_iconst (v := 0) hx hb dX0_lenientFine_48 (by decide) ?_
          refine lv_goto (tgt := 55) hx hb dX0_lenientFine_49 (by decide) ?_
          exact pu_iret hx hb hr hlocks dX0_lenientFine_55 (Eq.symm (Eq.trans (if_neg c_19) (Eq.trans (if_pos c_29) (Eq.trans (if_neg c_45) (rfl)))))
      · skip
        refine lv_iload_n hx hb dX0_lenientFine_32 rfl (lv_at hl 3 rfl) ?_
        refine lv_iload_n hx hb dX0_lenientFine_33 rfl (lv_at hl 3 rfl) ?_
        refine lv_iconst (v := 4) hx hb dX0_lenientFine_34 (by decide) ?_
        refine lv_idiv hx hb dX0_lenientFine_35 (by decide) ?_
        refine W.eq (g2 := F0 m 36 ls [.int (p1 / 4), .int p1]) rfl ?_
        refine lv_isub hx hb dX0_lenientFine_36 ?_
        exact pu_iret hx hb hr hlocks dX0_lenientFine_37 (Eq.symm (Eq.trans (if_neg c_19) (Eq.trans (if_neg c_29) (rfl))))
    · skip
      refine lv_iload_n hx hb dX0_lenientFine_22 rfl (lv_at hl 3 rfl) ?_
      exact pu_iret hx hb hr hlocks dX0_lenientFine_23 (Eq.symm (Eq.trans (if_pos c_19) (rfl)))
  refine lb_eq (tgt := 16) hx hb dX0_lenientFine_4 (by decide) (fun c_4 => ?_) (fun c_4 => ?_)
  · skip
    refine lv_iconst (v := 0) hx hb dX0_lenientFine_16 (by decide) ?_
    exact hj_4 _ ls (Eq.symm (Eq.trans (if_neg (ntr c_4)) (rfl))) (lv_sub hl [0, 1, 2] rfl)
  · skip
    refine lv_aload_n hx hb dX0_lenientFine_7 rfl (lv_at hl 0 rfl) ?_
    refine va_get (D := D) (ci := 0) (v := .ref na) (C := RX0) (T := TX0) (N := 8) hx hb hts hin0 hown hK hP 0 rfl rfl 3 (by decide) (hts (.fieldLink RX0 15 "CartelWatch$Dossier" "newTellings" "[I") (by decide +kernel)) (fun _ h9 => h9) rfl dX0_lenientFine_8 ?_
    refine lv_iload_n hx hb dX0_lenientFine_11 rfl (lv_at hl 1 rfl) ?_
    refine va_iald hx hb hK hP 2 0 (cA := K 0) rfl rfl (in7 c_4) dX0_lenientFine_12 ?_
    refine lv_goto (tgt := 17) hx hb dX0_lenientFine_13 (by decide) ?_
    exact hj_4 _ ls (Eq.symm (Eq.trans (if_pos c_4) (rfl))) (lv_sub hl [0, 1, 2] rfl)

set_option maxHeartbeats 4000000 in
set_option maxRecDepth 100000 in
theorem c_X0_shut (l : Launch) (D : va_G) (K : Nat → ClassId) (sz : Nat) (q ua na fa : Nat) (one oth : Int32) (un nw fi : Nat → Int32) (mc fst cl : Int32) : EFv l yX0_shut wsX0_shut 0 0 D K [.ref q] sz (dW K q ua na fa one oth un nw fi mc fst cl) (dW K q ua na fa one oth un nw fi mc fst 1) := by
  refine Met.ofW (cc := cX0_shut) (maxL := 1) (ret := none) (by decide) rfl ?_
  intro p e s m args below meth c s₁ B hml hv
  obtain ⟨rfl, hsz, hD0, hP, hK, hE⟩ := hv
  have hx := B.exec
  have hb := B.bytes
  have hr := B.returns
  have hts := atoms_spec (ws := wsX0_shut) B.pre
  have hown : s.vm.findClass RX0 = some m.cls := findClass_of_methodNamed B.named
  have hlocks := B.notSynchronized
  have hc : CallFix p m c cX0_shut 1 s ([.ref q] : List Value).toArray wsX0_shut RX0 := ⟨hx, hb, hml, hown, hts⟩
  subst hsz
  have hD := hD0.self (sz := s.heap.size)
  generalize hAe : va_A (dW K q ua na fa one oth un nw fi mc fst cl) s.heap.size = A at hD ⊢
  have hA : ∀ q : Nat, s.heap.size ≤ q → A q := fun q h => by rw [← hAe]; exact Or.inr h
  have hS : va_S A s.heap s.heap [] := va_S.rf
  have hP : va_P D vwCl (dW K q ua na fa one oth un nw fi mc fst cl) s.heap := hP
  have hin0 : ∀ w ∈ u_ws RX0 TX0 8, w ∈ wsX0_shut := by decide +kernel
  have hl := lv_entry ([.ref q]) (n := 1) (Nat.le_of_ble_eq_true rfl)
  rw [lg_entry_eq]
  generalize (lg_sl ([.ref q]) ++ List.replicate (1 - (lg_sl ([.ref q])).length) Slot.unset).toArray = ls at hl ⊢
  have hl : lv_has ls 1 [(0, .ref q)] := hl
  refine lv_aload_n hx hb dX0_shut_0 rfl (lv_at hl 0 rfl) ?_
  refine lv_iconst (v := 1) hx hb dX0_shut_1 (by decide) ?_
  refine va_put (D := D) (ci := 0) (v := .int 1) (ty := .boolean) (C := RX0) (T := TX0) (N := 8) hx hb hts hin0 tyX0 tyX0_ok nmX0 hown hK hP hD hS 0 rfl rfl 7 (by decide) (hts (.fieldLink RX0 29 "CartelWatch$Dossier" "closed" "Z") (by decide +kernel)) (fun _ h9 => h9) rfl (by decide +kernel) rfl rfl (Nat.le_of_ble_eq_true rfl) dX0_shut_2 (fun H locs hP hD hS => ?_)
  have hP : va_P D vwCl [(q, .inr (0, [.int one, .int oth, .ref ua, .ref na, .ref fa, .int mc, .int fst, .int 1])), (ua, .inl (K 1, 30, .inl un)), (na, .inl (K 0, 7, .inl nw)), (fa, .inl (K 0, 7, .inl fi))] H := hP
  have hD : va_D A [(q, .inr (0, [.int one, .int oth, .ref ua, .ref na, .ref fa, .int mc, .int fst, .int 1])), (ua, .inl (K 1, 30, .inl un)), (na, .inl (K 0, 7, .inl nw)), (fa, .inl (K 0, 7, .inl fi))] := hD
  have hPe : va_P D vwCl [(q, .inr (0, [.int one, .int oth, .ref ua, .ref na, .ref fa, .int mc, .int fst, .int 1])), (ua, .inl (K 1, 30, .inl un)), (na, .inl (K 0, 7, .inl nw)), (fa, .inl (K 0, 7, .inl fi))] H := hP
  have hDe : va_D A [(q, .inr (0, [.int one, .int oth, .ref ua, .ref na, .ref fa, .int mc, .int fst, .int 1])), (ua, .inl (K 1, 30, .inl un)), (na, .inl (K 0, 7, .inl nw)), (fa, .inl (K 0, 7, .inl fi))] := hD
  exact W.vret hx hb hr (fun t ht hW => ⟨⟨(), rfl, trivial, by dsimp only; rw [ht]; exact ⟨hPe, hDe⟩⟩, hS.F ht⟩) hS.2.2 dX0_shut_5

set_option maxHeartbeats 4000000 in
set_option maxRecDepth 100000 in
theorem c_X0_impose (l : Launch) (D : va_G) (K : Nat → ClassId) (sz : Nat) (q ua na fa : Nat) (one oth : Int32) (un nw fi : Nat → Int32) (mc fst cl p0 p1 : Int32) (hb7 : sp_X2_isBidder p0 = true) : EFv l yX0_impose wsX0_impose 1 20 D K [.ref q, .int p0, .int p1] sz (dW K q ua na fa one oth un nw fi mc fst cl) (dW K q ua na fa one oth un nw (upd fi p0.toNatClampNeg p1) mc fst cl) := by
  refine Met.ofW (cc := cX0_impose) (maxL := 3) (ret := none) (by decide) rfl ?_
  intro p e s m args below meth c s₁ B hml hv
  obtain ⟨rfl, hsz, hD0, hP, hK, hE⟩ := hv
  have hx := B.exec
  have hb := B.bytes
  have hr := B.returns
  have hts := atoms_spec (ws := wsX0_impose) B.pre
  have hown : s.vm.findClass RX0 = some m.cls := findClass_of_methodNamed B.named
  have hlocks := B.notSynchronized
  have hc : CallFix p m c cX0_impose 3 s ([.ref q, .int p0, .int p1] : List Value).toArray wsX0_impose RX0 := ⟨hx, hb, hml, hown, hts⟩
  subst hsz
  have hD := hD0.self (sz := s.heap.size)
  generalize hAe : va_A (dW K q ua na fa one oth un nw fi mc fst cl) s.heap.size = A at hD ⊢
  have hA : ∀ q : Nat, s.heap.size ≤ q → A q := fun q h => by rw [← hAe]; exact Or.inr h
  have hS : va_S A s.heap s.heap [] := va_S.rf
  have hP : va_P D vwCl (dW K q ua na fa one oth un nw fi mc fst cl) s.heap := hP
  have hin0 : ∀ w ∈ u_ws RX0 TX0 8, w ∈ wsX0_impose := by decide +kernel
  have hl := lv_entry ([.ref q, .int p0, .int p1]) (n := 3) (Nat.le_of_ble_eq_true rfl)
  rw [lg_entry_eq]
  generalize (lg_sl ([.ref q, .int p0, .int p1]) ++ List.replicate (3 - (lg_sl ([.ref q, .int p0, .int p1])).length) Slot.unset).toArray = ls at hl ⊢
  have hl : lv_has ls 3 [(0, .ref q), (1, .int p0), (2, .int p1)] := hl
  refine lv_iload_n hx hb dX0_impose_0 rfl (lv_at hl 1 rfl) ?_
  refine pu_SN (As := [.int p0]) (rest := []) hc (c_X2_isBidder l D K p0) ⟨va_cnB (own := RX0) (index := 39) (host := RX2) 1 hts gX0_impose_X2_isBidder_n39 rfl rfl rfl hE.2.1 (hts (.initialized RX2) (by decide +kernel)) (by decide +kernel) ⟨Nat.le_of_ble_eq_true rfl, Nat.le_of_ble_eq_true rfl⟩, (hts (.static yX2_isBidder) (by decide +kernel)), trivial⟩ trivial hK hE rfl rfl hl.1 (Nat.le_of_ble_eq_true rfl) dX0_impose_1 ⟨Nat.le_of_ble_eq_true rfl, Nat.le_of_ble_eq_true rfl⟩ ?_
  refine lb_eq (tgt := 14) hx hb dX0_impose_4 (by decide) (fun c_4 => ?_) (fun c_4 => ?_)
  · skip
    exact absurd hb7 (ntr c_4)
  · skip
    refine lv_aload_n hx hb dX0_impose_7 rfl (lv_at hl 0 rfl) ?_
    refine va_get (D := D) (ci := 0) (v := .ref fa) (C := RX0) (T := TX0) (N := 8) hx hb hts hin0 hown hK hP 0 rfl rfl 4 (by decide) (hts (.fieldLink RX0 19 "CartelWatch$Dossier" "fines" "[I") (by decide +kernel)) (fun _ h9 => h9) rfl dX0_impose_8 ?_
    refine lv_iload_n hx hb dX0_impose_11 rfl (lv_at hl 1 rfl) ?_
    refine lv_iload_n hx hb dX0_impose_12 rfl (lv_at hl 2 rfl) ?_
    refine va_iast hx hb hK hP hD hS 3 0 (cA := K 0) rfl rfl (in7 hb7) dX0_impose_13 (fun H locs hP hD hS => ?_)
    have hP : va_P D vwCl [(q, .inr (0, [.int one, .int oth, .ref ua, .ref na, .ref fa, .int mc, .int fst, .int cl])), (ua, .inl (K 1, 30, .inl un)), (na, .inl (K 0, 7, .inl nw)), (fa, .inl (K 0, 7, .inl (upd fi p0.toNatClampNeg p1)))] H := hP
    have hD : va_D A [(q, .inr (0, [.int one, .int oth, .ref ua, .ref na, .ref fa, .int mc, .int fst, .int cl])), (ua, .inl (K 1, 30, .inl un)), (na, .inl (K 0, 7, .inl nw)), (fa, .inl (K 0, 7, .inl (upd fi p0.toNatClampNeg p1)))] := hD
    refine W.eq (g2 := F0 m 14 ls []) rfl ?_
    have hPe : va_P D vwCl [(q, .inr (0, [.int one, .int oth, .ref ua, .ref na, .ref fa, .int mc, .int fst, .int cl])), (ua, .inl (K 1, 30, .inl un)), (na, .inl (K 0, 7, .inl nw)), (fa, .inl (K 0, 7, .inl (upd fi p0.toNatClampNeg p1)))] H := hP
    have hDe : va_D A [(q, .inr (0, [.int one, .int oth, .ref ua, .ref na, .ref fa, .int mc, .int fst, .int cl])), (ua, .inl (K 1, 30, .inl un)), (na, .inl (K 0, 7, .inl nw)), (fa, .inl (K 0, 7, .inl (upd fi p0.toNatClampNeg p1)))] := hD
    exact W.vret hx hb hr (fun t ht hW => ⟨⟨(), rfl, trivial, by dsimp only; rw [ht]; exact ⟨hPe, hDe⟩⟩, hS.F ht⟩) hS.2.2 dX0_impose_14

set_option maxHeartbeats 4000000 in
set_option maxRecDepth 100000 in
theorem c_X0_addMatter (l : Launch) (D : va_G) (K : Nat → ClassId) (sz : Nat) (q ua na fa : Nat) (one oth : Int32) (un nw fi : Nat → Int32) (mc fst cl p0 : Int32) (ht : vp_in p0 30) : EFv l yX0_addMatter wsX0_addMatter 0 0 D K [.ref q, .int p0] sz (dW K q ua na fa one oth un nw fi mc fst cl) (dW K q ua na fa one oth (upd un p0.toNatClampNeg 1) nw fi (mc + 1) fst cl) := by
  refine Met.ofW (cc := cX0_addMatter) (maxL := 2) (ret := none) (by decide) rfl ?_
  intro p e s m args below meth c s₁ B hml hv
  obtain ⟨rfl, hsz, hD0, hP, hK, hE⟩ := hv
  have hx := B.exec
  have hb := B.bytes
  have hr := B.returns
  have hts := atoms_spec (ws := wsX0_addMatter) B.pre
  have hown : s.vm.findClass RX0 = some m.cls := findClass_of_methodNamed B.named
  have hlocks := B.notSynchronized
  have hc : CallFix p m c cX0_addMatter 2 s ([.ref q, .int p0] : List Value).toArray wsX0_addMatter RX0 := ⟨hx, hb, hml, hown, hts⟩
  subst hsz
  have hD := hD0.self (sz := s.heap.size)
  generalize hAe : va_A (dW K q ua na fa one oth un nw fi mc fst cl) s.heap.size = A at hD ⊢
  have hA : ∀ q : Nat, s.heap.size ≤ q → A q := fun q h => by rw [← hAe]; exact Or.inr h
  have hS : va_S A s.heap s.heap [] := va_S.rf
  have hP : va_P D vwCl (dW K q ua na fa one oth un nw fi mc fst cl) s.heap := hP
  have hin0 : ∀ w ∈ u_ws RX0 TX0 8, w ∈ wsX0_addMatter := by decide +kernel
  have hl := lv_entry ([.ref q, .int p0]) (n := 2) (Nat.le_of_ble_eq_true rfl)
  rw [lg_entry_eq]
  generalize (lg_sl ([.ref q, .int p0]) ++ List.replicate (2 - (lg_sl ([.ref q, .int p0])).length) Slot.unset).toArray = ls at hl ⊢
  have hl : lv_has ls 2 [(0, .ref q), (1, .int p0)] := hl
  refine lv_iload_n hx hb dX0_addMatter_0 rfl (lv_at hl 1 rfl) ?_
  refine lv_if_lt (tgt := 30) hx hb dX0_addMatter_1 (by decide) (fun c_1 => ?_) (fun c_1 => ?_)
  · skip
    exact absurd c_1 (vin_nn ht)
  · skip
    refine lv_iload_n hx hb dX0_addMatter_4 rfl (lv_at hl 1 rfl) ?_
    refine lv_aload_n hx hb dX0_addMatter_5 rfl (lv_at hl 0 rfl) ?_
    refine va_get (D := D) (ci := 0) (v := .ref ua) (C := RX0) (T := TX0) (N := 8) hx hb hts hin0 hown hK hP 0 rfl rfl 2 (by decide) (hts (.fieldLink RX0 9 "CartelWatch$Dossier" "untold" "[Z") (by decide +kernel)) (fun _ h9 => h9) rfl dX0_addMatter_6 ?_
    refine va_alen (v := 30) hx hb hK hP 1 1 rfl rfl rfl dX0_addMatter_9 ?_
    refine lv_icmp_ge (tgt := 30) hx hb dX0_addMatter_10 (by decide) (fun c_10 => ?_) (fun c_10 => ?_)
    · skip
      exact absurd c_10 (vin_ge ht (by decide) rfl)
    · skip
      refine lv_aload_n hx hb dX0_addMatter_13 rfl (lv_at hl 0 rfl) ?_
      refine W.eq (g2 := F0 m 14 ls [.ref q]) rfl ?_
      refine va_get (D := D) (ci := 0) (v := .ref ua) (C := RX0) (T := TX0) (N := 8) hx hb hts hin0 hown hK hP 0 rfl rfl 2 (by decide) (hts (.fieldLink RX0 9 "CartelWatch$Dossier" "untold" "[Z") (by decide +kernel)) (fun _ h9 => h9) rfl dX0_addMatter_14 ?_
      refine lv_iload_n hx hb dX0_addMatter_17 rfl (lv_at hl 1 rfl) ?_
      refine lv_iconst (v := 1) hx hb dX0_addMatter_18 (by decide) ?_
      refine va_zast hx hb hK hP hD hS 1 1 (cA := K 1) rfl rfl (ht) dX0_addMatter_19 (fun H locs hP hD hS => ?_)
      have hP : va_P D vwCl [(q, .inr (0, [.int one, .int oth, .ref ua, .ref na, .ref fa, .int mc, .int fst, .int cl])), (ua, .inl (K 1, 30, .inl (upd un p0.toNatClampNeg 1))), (na, .inl (K 0, 7, .inl nw)), (fa, .inl (K 0, 7, .inl fi))] H := hP
      have hD : va_D A [(q, .inr (0, [.int one, .int oth, .ref ua, .ref na, .ref fa, .int mc, .int fst, .int cl])), (ua, .inl (K 1, 30, .inl (upd un p0.toNatClampNeg 1))), (na, .inl (K 0, 7, .inl nw)), (fa, .inl (K 0, 7, .inl fi))] := hD
      refine lv_aload_n hx hb dX0_addMatter_20 rfl (lv_at hl 0 rfl) ?_
      refine lv_dup hx hb dX0_addMatter_21 rfl ?_
      refine va_get (D := D) (ci := 0) (v := .int mc) (C := RX0) (T := TX0) (N := 8) hx hb hts hin0 hown hK hP 0 rfl rfl 5 (by decide) (hts (.fieldLink RX0 22 "CartelWatch$Dossier" "matterCount" "I") (by decide +kernel)) (fun _ h9 => h9) rfl dX0_addMatter_22 ?_
      refine lv_iconst (v := 1) hx hb dX0_addMatter_25 (by decide) ?_
      refine W.eq (g2 := F0 m 26 ls [.int 1, .int mc, .ref q]) rfl ?_
      refine lv_iadd hx hb dX0_addMatter_26 ?_
      refine va_put (D := D) (ci := 0) (v := .int (mc + 1)) (ty := .int) (C := RX0) (T := TX0) (N := 8) hx hb hts hin0 tyX0 tyX0_ok nmX0 hown hK hP hD hS 0 rfl rfl 5 (by decide) (hts (.fieldLink RX0 22 "CartelWatch$Dossier" "matterCount" "I") (by decide +kernel)) (fun _ h9 => h9) rfl (by decide +kernel) rfl rfl (Nat.le_of_ble_eq_true rfl) dX0_addMatter_27 (fun H locs hP hD hS => ?_)
      have hP : va_P D vwCl [(q, .inr (0, [.int one, .int oth, .ref ua, .ref na, .ref fa, .int (mc + 1), .int fst, .int cl])), (ua, .inl (K 1, 30, .inl (upd un p0.toNatClampNeg 1))), (na, .inl (K 0, 7, .inl nw)), (fa, .inl (K 0, 7, .inl fi))] H := hP
      have hD : va_D A [(q, .inr (0, [.int one, .int oth, .ref ua, .ref na, .ref fa, .int (mc + 1), .int fst, .int cl])), (ua, .inl (K 1, 30, .inl (upd un p0.toNatClampNeg 1))), (na, .inl (K 0, 7, .inl nw)), (fa, .inl (K 0, 7, .inl fi))] := hD
      have hPe : va_P D vwCl [(q, .inr (0, [.int one, .int oth, .ref ua, .ref na, .ref fa, .int (mc + 1), .int fst, .int cl])), (ua, .inl (K 1, 30, .inl (upd un p0.toNatClampNeg 1))), (na, .inl (K 0, 7, .inl nw)), (fa, .inl (K 0, 7, .inl fi))] H := hP
      have hDe : va_D A [(q, .inr (0, [.int one, .int oth, .ref ua, .ref na, .ref fa, .int (mc + 1), .int fst, .int cl])), (ua, .inl (K 1, 30, .inl (upd un p0.toNatClampNeg 1))), (na, .inl (K 0, 7, .inl nw)), (fa, .inl (K 0, 7, .inl fi))] := hD
      exact W.vret hx hb hr (fun t ht hW => ⟨⟨(), rfl, trivial, by dsimp only; rw [ht]; exact ⟨hPe, hDe⟩⟩, hS.F ht⟩) hS.2.2 dX0_addMatter_30

def sp_X0_hear (un : Nat → Int32) (nw : Nat → Int32) (fst : Int32) (p0 : Int32) (p1 : Int32) : Bool × (Nat → Int32) × (Nat → Int32) × Int32 := if (un p1.toNatClampNeg) = 0 then ((false, un, nw, fst)) else (if fst = (-1) then ((true, upd un p1.toNatClampNeg 0, upd nw p0.toNatClampNeg ((nw p0.toNatClampNeg) + 1), p0)) else ((true, upd un p1.toNatClampNeg 0, upd nw p0.toNatClampNeg ((nw p0.toNatClampNeg) + 1), fst)))
set_option maxHeartbeats 4000000 in
set_option maxRecDepth 100000 in
theorem c_X0_hear (l : Launch) (D : va_G) (K : Nat → ClassId) (sz : Nat) (q ua na fa : Nat) (one oth : Int32) (un nw fi : Nat → Int32) (mc fst cl p0 p1 : Int32) (hb7 : sp_X2_isBidder p0 = true) (ht : vp_in p1 30) : EFi l yX0_hear wsX0_hear 1 20 D K [.ref q, .int p0, .int p1] sz (dW K q ua na fa one oth un nw fi mc fst cl) (dW K q ua na fa one oth ((sp_X0_hear un nw fst p0 p1).2.1) ((sp_X0_hear un nw fst p0 p1).2.2.1) fi mc ((sp_X0_hear un nw fst p0 p1).2.2.2) cl) (bI (sp_X0_hear un nw fst p0 p1).1) := by
  refine Met.ofW (cc := cX0_hear) (maxL := 3) (ret := (some .boolean)) (by decide) rfl ?_
  intro p e s m args below meth c s₁ B hml hv
  obtain ⟨rfl, hsz, hD0, hP, hK, hE⟩ := hv
  have hx := B.exec
  have hb := B.bytes
  have hr := B.returns
  have hts := atoms_spec (ws := wsX0_hear) B.pre
  have hown : s.vm.findClass RX0 = some m.cls := findClass_of_methodNamed B.named
  have hlocks := B.notSynchronized
  have hc : CallFix p m c cX0_hear 3 s ([.ref q, .int p0, .int p1] : List Value).toArray wsX0_hear RX0 := ⟨hx, hb, hml, hown, hts⟩
  subst hsz
  have hD := hD0.self (sz := s.heap.size)
  generalize hAe : va_A (dW K q ua na fa one oth un nw fi mc fst cl) s.heap.size = A at hD ⊢
  have hA : ∀ q : Nat, s.heap.size ≤ q → A q := fun q h => by rw [← hAe]; exact Or.inr h
  have hS : va_S A s.heap s.heap [] := va_S.rf
  have hP : va_P D vwCl (dW K q ua na fa one oth un nw fi mc fst cl) s.heap := hP
  have hin0 : ∀ w ∈ u_ws RX0 TX0 8, w ∈ wsX0_hear := by decide +kernel
  have hl := lv_entry ([.ref q, .int p0, .int p1]) (n := 3) (Nat.le_of_ble_eq_true rfl)
  rw [lg_entry_eq]
  generalize (lg_sl ([.ref q, .int p0, .int p1]) ++ List.replicate (3 - (lg_sl ([.ref q, .int p0, .int p1])).length) Slot.unset).toArray = ls at hl ⊢
  have hl : lv_has ls 3 [(0, .ref q), (1, .int p0), (2, .int p1)] := hl
  refine lv_iload_n hx hb dX0_hear_0 rfl (lv_at hl 1 rfl) ?_
  refine pu_SN (As := [.int p0]) (rest := []) hc (c_X2_isBidder l D K p0) ⟨va_cnB (own := RX0) (index := 39) (host := RX2) 1 hts gX0_hear_X2_isBidder_n39 rfl rfl rfl hE.2.1 (hts (.initialized RX2) (by decide +kernel)) (by decide +kernel) ⟨Nat.le_of_ble_eq_true rfl, Nat.le_of_ble_eq_true rfl⟩, (hts (.static yX2_isBidder) (by decide +kernel)), trivial⟩ trivial hK hE rfl rfl hl.1 (Nat.le_of_ble_eq_true rfl) dX0_hear_1 ⟨Nat.le_of_ble_eq_true rfl, Nat.le_of_ble_eq_true rfl⟩ ?_
  refine lb_eq (tgt := 29) hx hb dX0_hear_4 (by decide) (fun c_4 => ?_) (fun c_4 => ?_)
  · skip
    exact absurd hb7 (ntr c_4)
  · skip
    refine lv_iload_n hx hb dX0_hear_7 rfl (lv_at hl 2 rfl) ?_
    refine lv_if_lt (tgt := 29) hx hb dX0_hear_8 (by decide) (fun c_8 => ?_) (fun c_8 => ?_)
    · skip
      exact absurd c_8 (vin_nn ht)
    · skip
      refine lv_iload_n hx hb dX0_hear_11 rfl (lv_at hl 2 rfl) ?_
      refine lv_aload_n hx hb dX0_hear_12 rfl (lv_at hl 0 rfl) ?_
      refine va_get (D := D) (ci := 0) (v := .ref ua) (C := RX0) (T := TX0) (N := 8) hx hb hts hin0 hown hK hP 0 rfl rfl 2 (by decide) (hts (.fieldLink RX0 9 "CartelWatch$Dossier" "untold" "[Z") (by decide +kernel)) (fun _ h9 => h9) rfl dX0_hear_13 ?_
      refine W.eq (g2 := F0 m 16 ls [.ref ua, .int p1]) rfl ?_
      refine va_alen (v := 30) hx hb hK hP 1 1 rfl rfl rfl dX0_hear_16 ?_
      refine lv_icmp_ge (tgt := 29) hx hb dX0_hear_17 (by decide) (fun c_17 => ?_) (fun c_17 => ?_)
      · skip
        exact absurd c_17 (vin_ge ht (by decide) rfl)
      · skip
        refine lv_aload_n hx hb dX0_hear_20 rfl (lv_at hl 0 rfl) ?_
        refine va_get (D := D) (ci := 0) (v := .ref ua) (C := RX0) (T := TX0) (N := 8) hx hb hts hin0 hown hK hP 0 rfl rfl 2 (by decide) (hts (.fieldLink RX0 9 "CartelWatch$Dossier" "untold" "[Z") (by decide +kernel)) (fun _ h9 => h9) rfl dX0_hear_21 ?_
        refine lv_iload_n hx hb dX0_hear_24 rfl (lv_at hl 2 rfl) ?_
        refine va_zald hx hb hK hP 1 1 (cA := K 1) rfl rfl (ht) dX0_hear_25 ?_
        refine lv_if_ne (tgt := 31) hx hb dX0_hear_26 (by decide) (fun c_26 => ?_) (fun c_26 => ?_)
        · skip
          refine lv_aload_n hx hb dX0_hear_31 rfl (lv_at hl 0 rfl) ?_
          refine va_get (D := D) (ci := 0) (v := .ref ua) (C := RX0) (T := TX0) (N := 8) hx hb hts hin0 hown hK hP 0 rfl rfl 2 (by decide) (hts (.fieldLink RX0 9 "CartelWatch$Dossier" "untold" "[Z") (by decide +kernel)) (fun _ h9 => h9) rfl dX0_hear_32 ?_
          refine lv_iload_n hx hb dX0_hear_35 rfl (lv_at hl 2 rfl) ?_
          refine lv_iconst (v := 0) hx hb dX0_hear_36 (by decide) ?_
          refine va_zast hx hb hK hP hD hS 1 1 (cA := K 1) rfl rfl (ht) dX0_hear_37 (fun H locs hP hD hS => ?_)
          have hP : va_P D vwCl [(q, .inr (0, [.int one, .int oth, .ref ua, .ref na, .ref fa, .int mc, .int fst, .int cl])), (ua, .inl (K 1, 30, .inl (upd un p1.toNatClampNeg 0))), (na, .inl (K 0, 7, .inl nw)), (fa, .inl (K 0, 7, .inl fi))] H := hP
          have hD : va_D A [(q, .inr (0, [.int one, .int oth, .ref ua, .ref na, .ref fa, .int mc, .int fst, .int cl])), (ua, .inl (K 1, 30, .inl (upd un p1.toNatClampNeg 0))), (na, .inl (K 0, 7, .inl nw)), (fa, .inl (K 0, 7, .inl fi))] := hD
          refine lv_aload_n hx hb dX0_hear_38 rfl (lv_at hl 0 rfl) ?_
          refine va_get (D := D) (ci := 0) (v := .ref na) (C := RX0) (T := TX0) (N := 8) hx hb hts hin0 hown hK hP 0 rfl rfl 3 (by decide) (hts (.fieldLink RX0 15 "CartelWatch$Dossier" "newTellings" "[I") (by decide +kernel)) (fun _ h9 => h9) rfl dX0_hear_39 ?_
          refine lv_iload_n hx hb dX0_hear_42 rfl (lv_at hl 1 rfl) ?_
          refine W.eq (g2 := F0 m 43 ls [.int p0, .ref na]) rfl ?_
          refine lv_dup2_11 hx hb dX0_hear_43 rfl rfl ?_
          refine va_iald hx hb hK hP 2 0 (cA := K 0) rfl rfl (in7 hb7) dX0_hear_44 ?_
          refine lv_iconst (v := 1) hx hb dX0_hear_45 (by decide) ?_
          refine lv_iadd hx hb dX0_hear_46 ?_
          refine va_iast hx hb hK hP hD hS 2 0 (cA := K 0) rfl rfl (in7 hb7) dX0_hear_47 (fun H locs hP hD hS => ?_)
          have hP : va_P D vwCl [(q, .inr (0, [.int one, .int oth, .ref ua, .ref na, .ref fa, .int mc, .int fst, .int cl])), (ua, .inl (K 1, 30, .inl (upd un p1.toNatClampNeg 0))), (na, .inl (K 0, 7, .inl (upd nw p0.toNatClampNeg ((nw p0.toNatClampNeg) + 1)))), (fa, .inl (K 0, 7, .inl fi))] H := hP
          have hD : va_D A [(q, .inr (0, [.int one, .int oth, .ref ua, .ref na, .ref fa, .int mc, .int fst, .int cl])), (ua, .inl (K 1, 30, .inl (upd un p1.toNatClampNeg 0))), (na, .inl (K 0, 7, .inl (upd nw p0.toNatClampNeg ((nw p0.toNatClampNeg) + 1)))), (fa, .inl (K 0, 7, .inl fi))] := hD
          refine lv_aload_n hx hb dX0_hear_48 rfl (lv_at hl 0 rfl) ?_
          refine va_get (D := D) (ci := 0) (v := .int fst) (C := RX0) (T := TX0) (N := 8) hx hb hts hin0 hown hK hP 0 rfl rfl 6 (by decide) (hts (.fieldLink RX0 26 "CartelWatch$Dossier" "first" "I") (by decide +kernel)) (fun _ h9 => h9) rfl dX0_hear_49 ?_
          refine lv_iconst (v := -1) hx hb dX0_hear_52 (by decide) ?_
          refine W.eq (g2 := F0 m 53 ls [.int (-1), .int fst]) rfl ?_
          refine lv_icmp_ne (tgt := 61) hx hb dX0_hear_53 (by decide) (fun c_53 => ?_) (fun c_53 => ?_)
          · skip
            refine lv_iconst (v := 1) hx hb dX0_hear_61 (by decide) ?_
            have hPe : va_P D vwCl [(q, .inr (0, [.int one, .int oth, .ref ua, .ref na, .ref fa, .int mc, .int fst, .int cl])), (ua, .inl (K 1, 30, .inl (upd un p1.toNatClampNeg 0))), (na, .inl (K 0, 7, .inl (upd nw p0.toNatClampNeg ((nw p0.toNatClampNeg) + 1)))), (fa, .inl (K 0, 7, .inl fi))] H := hP
            have hDe : va_D A [(q, .inr (0, [.int one, .int oth, .ref ua, .ref na, .ref fa, .int mc, .int fst, .int cl])), (ua, .inl (K 1, 30, .inl (upd un p1.toNatClampNeg 0))), (na, .inl (K 0, 7, .inl (upd nw p0.toNatClampNeg ((nw p0.toNatClampNeg) + 1)))), (fa, .inl (K 0, 7, .inl fi))] := hD
            have hsp : sp_X0_hear un nw fst p0 p1 = ((true, upd un p1.toNatClampNeg 0, upd nw p0.toNatClampNeg ((nw p0.toNatClampNeg) + 1), fst) : Bool × (Nat → Int32) × (Nat → Int32) × Int32) := Eq.trans (if_neg c_26) (Eq.trans (if_neg c_53) (rfl))
            exact W.zret (v := bI true) hx hb hr (bI_nar true) (fun t ht hW => ⟨⟨_, (), rfl, by rw [hsp], by dsimp only; rw [ht, hsp]; exact ⟨hPe, hDe⟩⟩, hS.F ht⟩) hS.2.2 dX0_hear_62
          · skip
            refine lv_aload_n hx hb dX0_hear_56 rfl (lv_at hl 0 rfl) ?_
            refine lv_iload_n hx hb dX0_hear_57 rfl (lv_at hl 1 rfl) ?_
            refine va_put (D := D) (ci := 0) (v := .int p0) (ty := .int) (C := RX0) (T := TX0) (N := 8) hx hb hts hin0 tyX0 tyX0_ok nmX0 hown hK hP hD hS 0 rfl rfl 6 (by decide) (hts (.fieldLink RX0 26 "CartelWatch$Dossier" "first" "I") (by decide +kernel)) (fun _ h9 => h9) rfl (by decide +kernel) rfl rfl (Nat.le_of_ble_eq_true rfl) dX0_hear_58 (fun H locs hP hD hS => ?_)
            have hP : va_P D vwCl [(q, .inr (0, [.int one, .int oth, .ref ua, .ref na, .ref fa, .int mc, .int p0, .int cl])), (ua, .inl (K 1, 30, .inl (upd un p1.toNatClampNeg 0))), (na, .inl (K 0, 7, .inl (upd nw p0.toNatClampNeg ((nw p0.toNatClampNeg) + 1)))), (fa, .inl (K 0, 7, .inl fi))] H := hP
            have hD : va_D A [(q, .inr (0, [.int one, .int oth, .ref ua, .ref na, .ref fa, .int mc, .int p0, .int cl])), (ua, .inl (K 1, 30, .inl (upd un p1.toNatClampNeg 0))), (na, .inl (K 0, 7, .inl (upd nw p0.toNatClampNeg ((nw p0.toNatClampNeg) + 1)))), (fa, .inl (K 0, 7, .inl fi))] := hD
            refine lv_iconst (v := 1) hx hb dX0_hear_61 (by decide) ?_
            have hPe : va_P D vwCl [(q, .inr (0, [.int one, .int oth, .ref ua, .ref na, .ref fa, .int mc, .int p0, .int cl])), (ua, .inl (K 1, 30, .inl (upd un p1.toNatClampNeg 0))), (na, .inl (K 0, 7, .inl (upd nw p0.toNatClampNeg ((nw p0.toNatClampNeg) + 1)))), (fa, .inl (K 0, 7, .inl fi))] H := hP
            have hDe : va_D A [(q, .inr (0, [.int one, .int oth, .ref ua, .ref na, .ref fa, .int mc, .int p0, .int cl])), (ua, .inl (K 1, 30, .inl (upd un p1.toNatClampNeg 0))), (na, .inl (K 0, 7, .inl (upd nw p0.toNatClampNeg ((nw p0.toNatClampNeg) + 1)))), (fa, .inl (K 0, 7, .inl fi))] := hD
            have hsp : sp_X0_hear un nw fst p0 p1 = ((true, upd un p1.toNatClampNeg 0, upd nw p0.toNatClampNeg ((nw p0.toNatClampNeg) + 1), p0) : Bool × (Nat → Int32) × (Nat → Int32) × Int32) := Eq.trans (if_neg c_26) (Eq.trans (if_pos c_53) (rfl))
            exact W.zret (v := bI true) hx hb hr (bI_nar true) (fun t ht hW => ⟨⟨_, (), rfl, by rw [hsp], by dsimp only; rw [ht, hsp]; exact ⟨hPe, hDe⟩⟩, hS.F ht⟩) hS.2.2 dX0_hear_62
        · skip
          refine lv_iconst (v := 0) hx hb dX0_hear_29 (by decide) ?_
          refine W.eq (g2 := F0 m 30 ls [.int 0]) rfl ?_
          have hPe : va_P D vwCl [(q, .inr (0, [.int one, .int oth, .ref ua, .ref na, .ref fa, .int mc, .int fst, .int cl])), (ua, .inl (K 1, 30, .inl un)), (na, .inl (K 0, 7, .inl nw)), (fa, .inl (K 0, 7, .inl fi))] s.heap := hP
          have hDe : va_D A [(q, .inr (0, [.int one, .int oth, .ref ua, .ref na, .ref fa, .int mc, .int fst, .int cl])), (ua, .inl (K 1, 30, .inl un)), (na, .inl (K 0, 7, .inl nw)), (fa, .inl (K 0, 7, .inl fi))] := hD
          have hsp : sp_X0_hear un nw fst p0 p1 = ((false, un, nw, fst) : Bool × (Nat → Int32) × (Nat → Int32) × Int32) := Eq.trans (if_pos c_26) (rfl)
          exact W.zret (v := bI false) hx hb hr (bI_nar false) (fun t ht hW => ⟨⟨_, (), rfl, by rw [hsp], by dsimp only; rw [ht, hsp]; exact ⟨hPe, hDe⟩⟩, hS.F ht⟩) hS.2.2 dX0_hear_30

set_option maxHeartbeats 4000000 in
set_option maxRecDepth 100000 in
theorem c_X1_init (l : Launch) (D : va_G) (K : Nat → ClassId) (sz : Nat) (q : Nat) : EFn l yX1_init wsX1_init 1 40 2 14 D K [.ref q] sz ([(q, .inr (1, [.null, .null, .int 0, .int 0, .int 0, .int 0]))]) (fun H => ∃ q7 q15 : Nat, va_P D vwCl (tW K q q7 q15 (fun _ => 0) (fun _ => 0) 0 (-1) (-1) 0) H ∧ va_D (va_A ([(q, .inr (1, [.null, .null, .int 0, .int 0, .int 0, .int 0]))]) sz) (tW K q q7 q15 (fun _ => 0) (fun _ => 0) 0 (-1) (-1) 0)) := by
  refine Met.ofW (cc := cX1_init) (maxL := 1) (ret := none) (by decide) rfl ?_
  intro p e s m args below meth c s₁ B hml hv
  obtain ⟨rfl, hsz, hD0, hP, hK, hE⟩ := hv
  have hx := B.exec
  have hb := B.bytes
  have hr := B.returns
  have hts := atoms_spec (ws := wsX1_init) B.pre
  have hown : s.vm.findClass RX1 = some m.cls := findClass_of_methodNamed B.named
  have hlocks := B.notSynchronized
  have hini : meth.name = "<init>" := (name_of_methodNamed B.named B.method).1
  subst hsz
  have hD := hD0.self (sz := s.heap.size)
  generalize hAe : va_A ([(q, .inr (1, [.null, .null, .int 0, .int 0, .int 0, .int 0]))]) s.heap.size = A at hD ⊢
  have hA : ∀ q : Nat, s.heap.size ≤ q → A q := fun q h => by rw [← hAe]; exact Or.inr h
  have hS : va_S A s.heap s.heap [] := va_S.rf
  have hP : va_P D vwCl ([(q, .inr (1, [.null, .null, .int 0, .int 0, .int 0, .int 0]))]) s.heap := hP
  have hin1 : ∀ w ∈ u_ws RX1 TX1 6, w ∈ wsX1_init := by decide +kernel
  have hl := lv_entry ([.ref q]) (n := 1) (Nat.le_of_ble_eq_true rfl)
  rw [lg_entry_eq]
  generalize (lg_sl ([.ref q]) ++ List.replicate (1 - (lg_sl ([.ref q])).length) Slot.unset).toArray = ls at hl ⊢
  have hl : lv_has ls 1 [(0, .ref q)] := hl
  refine lv_aload_n hx hb dX1_init_0 rfl (lv_at hl 0 rfl) ?_
  refine W.objInit hx hb hown (hts (.methodLink RX1 3 objectInit) (by decide +kernel)) (hts (.instanceMethod objectInit) (by decide +kernel)) (hts (.code objectInit ⟨#[0xb1]⟩ 1 none) (by decide +kernel)) rfl (by rw [hml]; exact hl.1) rfl dX1_init_1 (Nat.le_of_ble_eq_true rfl) (Nat.le_of_ble_eq_true rfl) ?_
  refine W.eq (g2 := F0 m 4 ls []) rfl ?_
  refine lv_aload_n hx hb dX1_init_4 rfl (lv_at hl 0 rfl) ?_
  refine lv_bipush (v := 7) hx hb dX1_init_5 (by decide) ?_
  refine va_newa (atype := .int) (a0 := (7, .inl (fun _ => 0))) hx hb (hts (.arrayClass .int) (by decide +kernel)) rfl hK hP hD hS hA (fun cA => rfl) (by decide) (by decide) (by decide) (Nat.le_of_ble_eq_true rfl) (Nat.le_of_ble_eq_true rfl) dX1_init_7 (fun q7 c7 H hK9 hP hD hS => ?_)
  have e7 : c7 = K 0 := va_K_uniq hK9 (i := 4) (j := 0) rfl rfl
  subst e7
  have hP : va_P D vwCl [(q, .inr (1, [.null, .null, .int 0, .int 0, .int 0, .int 0])), (q7, .inl (K 0, 7, .inl (fun _ => 0)))] H := hP
  have hD : va_D A [(q, .inr (1, [.null, .null, .int 0, .int 0, .int 0, .int 0])), (q7, .inl (K 0, 7, .inl (fun _ => 0)))] := hD
  refine va_putF (D := D) (ci := 1) (v := .ref q7) (ty := .array .int) (C := RX1) (T := TX1) (N := 6) hx hb hts hin1 tyX1 tyX1_ok nmX1 hown hK hP hD hS 0 rfl rfl 0 (by decide) (hts (.fieldLink RX1 9 "CartelWatch$Tender" "sums" "[I") (by decide +kernel)) (fun _ h9 => h9) rfl hini rfl (by decide +kernel) rfl rfl (Nat.le_of_ble_eq_true rfl) dX1_init_9 (fun H locs hP hD hS => ?_)
  have hP : va_P D vwCl [(q, .inr (1, [.ref q7, .null, .int 0, .int 0, .int 0, .int 0])), (q7, .inl (K 0, 7, .inl (fun _ => 0)))] H := hP
  have hD : va_D A [(q, .inr (1, [.ref q7, .null, .int 0, .int 0, .int 0, .int 0])), (q7, .inl (K 0, 7, .inl (fun _ => 0)))] := hD
  refine lv_aload_n hx hb dX1_init_12 rfl (lv_at hl 0 rfl) ?_
  refine lv_bipush (v := 7) hx hb dX1_init_13 (by decide) ?_
  refine W.eq (g2 := F0 m 15 ls [.int 7, .ref q]) rfl ?_
  refine va_newa (atype := .boolean) (a0 := (7, .inl (fun _ => 0))) hx hb (hts (.arrayClass .boolean) (by decide +kernel)) rfl hK hP hD hS hA (fun cA => rfl) (by decide) (by decide) (by decide) (Nat.le_of_ble_eq_true rfl) (Nat.le_of_ble_eq_true rfl) dX1_init_15 (fun q15 c15 H hK9 hP hD hS => ?_)
  have e15 : c15 = K 1 := va_K_uniq hK9 (i := 4) (j := 1) rfl rfl
  subst e15
  have hP : va_P D vwCl [(q, .inr (1, [.ref q7, .null, .int 0, .int 0, .int 0, .int 0])), (q7, .inl (K 0, 7, .inl (fun _ => 0))), (q15, .inl (K 1, 7, .inl (fun _ => 0)))] H := hP
  have hD : va_D A [(q, .inr (1, [.ref q7, .null, .int 0, .int 0, .int 0, .int 0])), (q7, .inl (K 0, 7, .inl (fun _ => 0))), (q15, .inl (K 1, 7, .inl (fun _ => 0)))] := hD
  refine va_putF (D := D) (ci := 1) (v := .ref q15) (ty := .array .boolean) (C := RX1) (T := TX1) (N := 6) hx hb hts hin1 tyX1 tyX1_ok nmX1 hown hK hP hD hS 0 rfl rfl 1 (by decide) (hts (.fieldLink RX1 15 "CartelWatch$Tender" "withdrawn" "[Z") (by decide +kernel)) (fun _ h9 => h9) rfl hini rfl (by decide +kernel) rfl rfl (Nat.le_of_ble_eq_true rfl) dX1_init_17 (fun H locs hP hD hS => ?_)
  have hP : va_P D vwCl [(q, .inr (1, [.ref q7, .ref q15, .int 0, .int 0, .int 0, .int 0])), (q7, .inl (K 0, 7, .inl (fun _ => 0))), (q15, .inl (K 1, 7, .inl (fun _ => 0)))] H := hP
  have hD : va_D A [(q, .inr (1, [.ref q7, .ref q15, .int 0, .int 0, .int 0, .int 0])), (q7, .inl (K 0, 7, .inl (fun _ => 0))), (q15, .inl (K 1, 7, .inl (fun _ => 0)))] := hD
  refine lv_aload_n hx hb dX1_init_20 rfl (lv_at hl 0 rfl) ?_
  refine lv_iconst (v := 0) hx hb dX1_init_21 (by decide) ?_
  refine va_put (D := D) (ci := 1) (v := .int 0) (ty := .boolean) (C := RX1) (T := TX1) (N := 6) hx hb hts hin1 tyX1 tyX1_ok nmX1 hown hK hP hD hS 0 rfl rfl 2 (by decide) (hts (.fieldLink RX1 19 "CartelWatch$Tender" "decided" "Z") (by decide +kernel)) (fun _ h9 => h9) rfl (by decide +kernel) rfl rfl (Nat.le_of_ble_eq_true rfl) dX1_init_22 (fun H locs hP hD hS => ?_)
  have hP : va_P D vwCl [(q, .inr (1, [.ref q7, .ref q15, .int 0, .int 0, .int 0, .int 0])), (q7, .inl (K 0, 7, .inl (fun _ => 0))), (q15, .inl (K 1, 7, .inl (fun _ => 0)))] H := hP
  have hD : va_D A [(q, .inr (1, [.ref q7, .ref q15, .int 0, .int 0, .int 0, .int 0])), (q7, .inl (K 0, 7, .inl (fun _ => 0))), (q15, .inl (K 1, 7, .inl (fun _ => 0)))] := hD
  refine lv_aload_n hx hb dX1_init_25 rfl (lv_at hl 0 rfl) ?_
  refine lv_iconst (v := -1) hx hb dX1_init_26 (by decide) ?_
  refine va_put (D := D) (ci := 1) (v := .int (-1)) (ty := .int) (C := RX1) (T := TX1) (N := 6) hx hb hts hin1 tyX1 tyX1_ok nmX1 hown hK hP hD hS 0 rfl rfl 3 (by decide) (hts (.fieldLink RX1 23 "CartelWatch$Tender" "winner" "I") (by decide +kernel)) (fun _ h9 => h9) rfl (by decide +kernel) rfl rfl (Nat.le_of_ble_eq_true rfl) dX1_init_27 (fun H locs hP hD hS => ?_)
  have hP : va_P D vwCl [(q, .inr (1, [.ref q7, .ref q15, .int 0, .int (-1), .int 0, .int 0])), (q7, .inl (K 0, 7, .inl (fun _ => 0))), (q15, .inl (K 1, 7, .inl (fun _ => 0)))] H := hP
  have hD : va_D A [(q, .inr (1, [.ref q7, .ref q15, .int 0, .int (-1), .int 0, .int 0])), (q7, .inl (K 0, 7, .inl (fun _ => 0))), (q15, .inl (K 1, 7, .inl (fun _ => 0)))] := hD
  refine W.eq (g2 := F0 m 30 ls []) rfl ?_
  refine lv_aload_n hx hb dX1_init_30 rfl (lv_at hl 0 rfl) ?_
  refine lv_iconst (v := -1) hx hb dX1_init_31 (by decide) ?_
  refine va_put (D := D) (ci := 1) (v := .int (-1)) (ty := .int) (C := RX1) (T := TX1) (N := 6) hx hb hts hin1 tyX1 tyX1_ok nmX1 hown hK hP hD hS 0 rfl rfl 4 (by decide) (hts (.fieldLink RX1 27 "CartelWatch$Tender" "partner" "I") (by decide +kernel)) (fun _ h9 => h9) rfl (by decide +kernel) rfl rfl (Nat.le_of_ble_eq_true rfl) dX1_init_32 (fun H locs hP hD hS => ?_)
  have hP : va_P D vwCl [(q, .inr (1, [.ref q7, .ref q15, .int 0, .int (-1), .int (-1), .int 0])), (q7, .inl (K 0, 7, .inl (fun _ => 0))), (q15, .inl (K 1, 7, .inl (fun _ => 0)))] H := hP
  have hD : va_D A [(q, .inr (1, [.ref q7, .ref q15, .int 0, .int (-1), .int (-1), .int 0])), (q7, .inl (K 0, 7, .inl (fun _ => 0))), (q15, .inl (K 1, 7, .inl (fun _ => 0)))] := hD
  refine lv_aload_n hx hb dX1_init_35 rfl (lv_at hl 0 rfl) ?_
  refine lv_iconst (v := 0) hx hb dX1_init_36 (by decide) ?_
  refine va_put (D := D) (ci := 1) (v := .int 0) (ty := .int) (C := RX1) (T := TX1) (N := 6) hx hb hts hin1 tyX1 tyX1_ok nmX1 hown hK hP hD hS 0 rfl rfl 5 (by decide) (hts (.fieldLink RX1 30 "CartelWatch$Tender" "partnersPart" "I") (by decide +kernel)) (fun _ h9 => h9) rfl (by decide +kernel) rfl rfl (Nat.le_of_ble_eq_true rfl) dX1_init_37 (fun H locs hP hD hS => ?_)
  have hP : va_P D vwCl [(q, .inr (1, [.ref q7, .ref q15, .int 0, .int (-1), .int (-1), .int 0])), (q7, .inl (K 0, 7, .inl (fun _ => 0))), (q15, .inl (K 1, 7, .inl (fun _ => 0)))] H := hP
  have hD : va_D A [(q, .inr (1, [.ref q7, .ref q15, .int 0, .int (-1), .int (-1), .int 0])), (q7, .inl (K 0, 7, .inl (fun _ => 0))), (q15, .inl (K 1, 7, .inl (fun _ => 0)))] := hD
  have hPe : va_P D vwCl [(q, .inr (1, [.ref q7, .ref q15, .int 0, .int (-1), .int (-1), .int 0])), (q7, .inl (K 0, 7, .inl (fun _ => 0))), (q15, .inl (K 1, 7, .inl (fun _ => 0)))] H := hP
  have hDe : va_D A [(q, .inr (1, [.ref q7, .ref q15, .int 0, .int (-1), .int (-1), .int 0])), (q7, .inl (K 0, 7, .inl (fun _ => 0))), (q15, .inl (K 1, 7, .inl (fun _ => 0)))] := hD
  refine W.widen (k := 2) (n := 14) (Nat.le_of_ble_eq_true rfl) (Nat.le_of_ble_eq_true rfl) ?_
  exact W.vret hx hb hr (fun t ht hW => ⟨⟨(), rfl, trivial, by dsimp only; rw [ht]; exact ⟨q7, q15, hPe, hDe⟩⟩, hS.F ht⟩) hS.2.2 dX1_init_40

set_option maxHeartbeats 4000000 in
set_option maxRecDepth 100000 in
theorem c_X0_init (l : Launch) (D : va_G) (K : Nat → ClassId) (sz : Nat) (q : Nat) (p0 p1 : Int32) : EFn l yX0_init wsX0_init 1 40 3 44 D K [.ref q, .int p0, .int p1] sz ([(q, .inr (0, [.int 0, .int 0, .null, .null, .null, .int 0, .int 0, .int 0]))]) (fun H => ∃ q7 q15 q23 : Nat, va_P D vwCl (dW K q q7 q15 q23 p0 p1 (fun _ => 0) (fun _ => 0) (fun _ => 0) 0 (-1) 0) H ∧ va_D (va_A ([(q, .inr (0, [.int 0, .int 0, .null, .null, .null, .int 0, .int 0, .int 0]))]) sz) (dW K q q7 q15 q23 p0 p1 (fun _ => 0) (fun _ => 0) (fun _ => 0) 0 (-1) 0)) := by
  refine Met.ofW (cc := cX0_init) (maxL := 3) (ret := none) (by decide) rfl ?_
  intro p e s m args below meth c s₁ B hml hv
  obtain ⟨rfl, hsz, hD0, hP, hK, hE⟩ := hv
  have hx := B.exec
  have hb := B.bytes
  have hr := B.returns
  have hts := atoms_spec (ws := wsX0_init) B.pre
  have hown : s.vm.findClass RX0 = some m.cls := findClass_of_methodNamed B.named
  have hlocks := B.notSynchronized
  have hini : meth.name = "<init>" := (name_of_methodNamed B.named B.method).1
  subst hsz
  have hD := hD0.self (sz := s.heap.size)
  generalize hAe : va_A ([(q, .inr (0, [.int 0, .int 0, .null, .null, .null, .int 0, .int 0, .int 0]))]) s.heap.size = A at hD ⊢
  have hA : ∀ q : Nat, s.heap.size ≤ q → A q := fun q h => by rw [← hAe]; exact Or.inr h
  have hS : va_S A s.heap s.heap [] := va_S.rf
  have hP : va_P D vwCl ([(q, .inr (0, [.int 0, .int 0, .null, .null, .null, .int 0, .int 0, .int 0]))]) s.heap := hP
  have hin0 : ∀ w ∈ u_ws RX0 TX0 8, w ∈ wsX0_init := by decide +kernel
  have hl := lv_entry ([.ref q, .int p0, .int p1]) (n := 3) (Nat.le_of_ble_eq_true rfl)
  rw [lg_entry_eq]
  generalize (lg_sl ([.ref q, .int p0, .int p1]) ++ List.replicate (3 - (lg_sl ([.ref q, .int p0, .int p1])).length) Slot.unset).toArray = ls at hl ⊢
  have hl : lv_has ls 3 [(0, .ref q), (1, .int p0), (2, .int p1)] := hl
  refine lv_aload_n hx hb dX0_init_0 rfl (lv_at hl 0 rfl) ?_
  refine W.objInit hx hb hown (hts (.methodLink RX0 3 objectInit) (by decide +kernel)) (hts (.instanceMethod objectInit) (by decide +kernel)) (hts (.code objectInit ⟨#[0xb1]⟩ 1 none) (by decide +kernel)) rfl (by rw [hml]; exact hl.1) rfl dX0_init_1 (Nat.le_of_ble_eq_true rfl) (Nat.le_of_ble_eq_true rfl) ?_
  refine W.eq (g2 := F0 m 4 ls []) rfl ?_
  refine lv_aload_n hx hb dX0_init_4 rfl (lv_at hl 0 rfl) ?_
  refine lv_bipush (v := 30) hx hb dX0_init_5 (by decide) ?_
  refine va_newa (atype := .boolean) (a0 := (30, .inl (fun _ => 0))) hx hb (hts (.arrayClass .boolean) (by decide +kernel)) rfl hK hP hD hS hA (fun cA => rfl) (by decide) (by decide) (by decide) (Nat.le_of_ble_eq_true rfl) (Nat.le_of_ble_eq_true rfl) dX0_init_7 (fun q7 c7 H hK9 hP hD hS => ?_)
  have e7 : c7 = K 1 := va_K_uniq hK9 (i := 4) (j := 1) rfl rfl
  subst e7
  have hP : va_P D vwCl [(q, .inr (0, [.int 0, .int 0, .null, .null, .null, .int 0, .int 0, .int 0])), (q7, .inl (K 1, 30, .inl (fun _ => 0)))] H := hP
  have hD : va_D A [(q, .inr (0, [.int 0, .int 0, .null, .null, .null, .int 0, .int 0, .int 0])), (q7, .inl (K 1, 30, .inl (fun _ => 0)))] := hD
  refine va_putF (D := D) (ci := 0) (v := .ref q7) (ty := .array .boolean) (C := RX0) (T := TX0) (N := 8) hx hb hts hin0 tyX0 tyX0_ok nmX0 hown hK hP hD hS 0 rfl rfl 2 (by decide) (hts (.fieldLink RX0 9 "CartelWatch$Dossier" "untold" "[Z") (by decide +kernel)) (fun _ h9 => h9) rfl hini rfl (by decide +kernel) rfl rfl (Nat.le_of_ble_eq_true rfl) dX0_init_9 (fun H locs hP hD hS => ?_)
  have hP : va_P D vwCl [(q, .inr (0, [.int 0, .int 0, .ref q7, .null, .null, .int 0, .int 0, .int 0])), (q7, .inl (K 1, 30, .inl (fun _ => 0)))] H := hP
  have hD : va_D A [(q, .inr (0, [.int 0, .int 0, .ref q7, .null, .null, .int 0, .int 0, .int 0])), (q7, .inl (K 1, 30, .inl (fun _ => 0)))] := hD
  refine lv_aload_n hx hb dX0_init_12 rfl (lv_at hl 0 rfl) ?_
  refine lv_bipush (v := 7) hx hb dX0_init_13 (by decide) ?_
  refine W.eq (g2 := F0 m 15 ls [.int 7, .ref q]) rfl ?_
  refine va_newa (atype := .int) (a0 := (7, .inl (fun _ => 0))) hx hb (hts (.arrayClass .int) (by decide +kernel)) rfl hK hP hD hS hA (fun cA => rfl) (by decide) (by decide) (by decide) (Nat.le_of_ble_eq_true rfl) (Nat.le_of_ble_eq_true rfl) dX0_init_15 (fun q15 c15 H hK9 hP hD hS => ?_)
  have e15 : c15 = K 0 := va_K_uniq hK9 (i := 4) (j := 0) rfl rfl
  subst e15
  have hP : va_P D vwCl [(q, .inr (0, [.int 0, .int 0, .ref q7, .null, .null, .int 0, .int 0, .int 0])), (q7, .inl (K 1, 30, .inl (fun _ => 0))), (q15, .inl (K 0, 7, .inl (fun _ => 0)))] H := hP
  have hD : va_D A [(q, .inr (0, [.int 0, .int 0, .ref q7, .null, .null, .int 0, .int 0, .int 0])), (q7, .inl (K 1, 30, .inl (fun _ => 0))), (q15, .inl (K 0, 7, .inl (fun _ => 0)))] := hD
  refine va_putF (D := D) (ci := 0) (v := .ref q15) (ty := .array .int) (C := RX0) (T := TX0) (N := 8) hx hb hts hin0 tyX0 tyX0_ok nmX0 hown hK hP hD hS 0 rfl rfl 3 (by decide) (hts (.fieldLink RX0 15 "CartelWatch$Dossier" "newTellings" "[I") (by decide +kernel)) (fun _ h9 => h9) rfl hini rfl (by decide +kernel) rfl rfl (Nat.le_of_ble_eq_true rfl) dX0_init_17 (fun H locs hP hD hS => ?_)
  have hP : va_P D vwCl [(q, .inr (0, [.int 0, .int 0, .ref q7, .ref q15, .null, .int 0, .int 0, .int 0])), (q7, .inl (K 1, 30, .inl (fun _ => 0))), (q15, .inl (K 0, 7, .inl (fun _ => 0)))] H := hP
  have hD : va_D A [(q, .inr (0, [.int 0, .int 0, .ref q7, .ref q15, .null, .int 0, .int 0, .int 0])), (q7, .inl (K 1, 30, .inl (fun _ => 0))), (q15, .inl (K 0, 7, .inl (fun _ => 0)))] := hD
  refine lv_aload_n hx hb dX0_init_20 rfl (lv_at hl 0 rfl) ?_
  refine lv_bipush (v := 7) hx hb dX0_init_21 (by decide) ?_
  refine va_newa (atype := .int) (a0 := (7, .inl (fun _ => 0))) hx hb (hts (.arrayClass .int) (by decide +kernel)) rfl hK hP hD hS hA (fun cA => rfl) (by decide) (by decide) (by decide) (Nat.le_of_ble_eq_true rfl) (Nat.le_of_ble_eq_true rfl) dX0_init_23 (fun q23 c23 H hK9 hP hD hS => ?_)
  have e23 : c23 = K 0 := va_K_uniq hK9 (i := 4) (j := 0) rfl rfl
  subst e23
  have hP : va_P D vwCl [(q, .inr (0, [.int 0, .int 0, .ref q7, .ref q15, .null, .int 0, .int 0, .int 0])), (q7, .inl (K 1, 30, .inl (fun _ => 0))), (q15, .inl (K 0, 7, .inl (fun _ => 0))), (q23, .inl (K 0, 7, .inl (fun _ => 0)))] H := hP
  have hD : va_D A [(q, .inr (0, [.int 0, .int 0, .ref q7, .ref q15, .null, .int 0, .int 0, .int 0])), (q7, .inl (K 1, 30, .inl (fun _ => 0))), (q15, .inl (K 0, 7, .inl (fun _ => 0))), (q23, .inl (K 0, 7, .inl (fun _ => 0)))] := hD
  refine va_putF (D := D) (ci := 0) (v := .ref q23) (ty := .array .int) (C := RX0) (T := TX0) (N := 8) hx hb hts hin0 tyX0 tyX0_ok nmX0 hown hK hP hD hS 0 rfl rfl 4 (by decide) (hts (.fieldLink RX0 19 "CartelWatch$Dossier" "fines" "[I") (by decide +kernel)) (fun _ h9 => h9) rfl hini rfl (by decide +kernel) rfl rfl (Nat.le_of_ble_eq_true rfl) dX0_init_25 (fun H locs hP hD hS => ?_)
  have hP : va_P D vwCl [(q, .inr (0, [.int 0, .int 0, .ref q7, .ref q15, .ref q23, .int 0, .int 0, .int 0])), (q7, .inl (K 1, 30, .inl (fun _ => 0))), (q15, .inl (K 0, 7, .inl (fun _ => 0))), (q23, .inl (K 0, 7, .inl (fun _ => 0)))] H := hP
  have hD : va_D A [(q, .inr (0, [.int 0, .int 0, .ref q7, .ref q15, .ref q23, .int 0, .int 0, .int 0])), (q7, .inl (K 1, 30, .inl (fun _ => 0))), (q15, .inl (K 0, 7, .inl (fun _ => 0))), (q23, .inl (K 0, 7, .inl (fun _ => 0)))] := hD
  refine lv_aload_n hx hb dX0_init_28 rfl (lv_at hl 0 rfl) ?_
  refine lv_iconst (v := 0) hx hb dX0_init_29 (by decide) ?_
  refine W.eq (g2 := F0 m 30 ls [.int 0, .ref q]) rfl ?_
  refine va_put (D := D) (ci := 0) (v := .int 0) (ty := .int) (C := RX0) (T := TX0) (N := 8) hx hb hts hin0 tyX0 tyX0_ok nmX0 hown hK hP hD hS 0 rfl rfl 5 (by decide) (hts (.fieldLink RX0 22 "CartelWatch$Dossier" "matterCount" "I") (by decide +kernel)) (fun _ h9 => h9) rfl (by decide +kernel) rfl rfl (Nat.le_of_ble_eq_true rfl) dX0_init_30 (fun H locs hP hD hS => ?_)
  have hP : va_P D vwCl [(q, .inr (0, [.int 0, .int 0, .ref q7, .ref q15, .ref q23, .int 0, .int 0, .int 0])), (q7, .inl (K 1, 30, .inl (fun _ => 0))), (q15, .inl (K 0, 7, .inl (fun _ => 0))), (q23, .inl (K 0, 7, .inl (fun _ => 0)))] H := hP
  have hD : va_D A [(q, .inr (0, [.int 0, .int 0, .ref q7, .ref q15, .ref q23, .int 0, .int 0, .int 0])), (q7, .inl (K 1, 30, .inl (fun _ => 0))), (q15, .inl (K 0, 7, .inl (fun _ => 0))), (q23, .inl (K 0, 7, .inl (fun _ => 0)))] := hD
  refine lv_aload_n hx hb dX0_init_33 rfl (lv_at hl 0 rfl) ?_
  refine lv_iconst (v := -1) hx hb dX0_init_34 (by decide) ?_
  refine va_put (D := D) (ci := 0) (v := .int (-1)) (ty := .int) (C := RX0) (T := TX0) (N := 8) hx hb hts hin0 tyX0 tyX0_ok nmX0 hown hK hP hD hS 0 rfl rfl 6 (by decide) (hts (.fieldLink RX0 26 "CartelWatch$Dossier" "first" "I") (by decide +kernel)) (fun _ h9 => h9) rfl (by decide +kernel) rfl rfl (Nat.le_of_ble_eq_true rfl) dX0_init_35 (fun H locs hP hD hS => ?_)
  have hP : va_P D vwCl [(q, .inr (0, [.int 0, .int 0, .ref q7, .ref q15, .ref q23, .int 0, .int (-1), .int 0])), (q7, .inl (K 1, 30, .inl (fun _ => 0))), (q15, .inl (K 0, 7, .inl (fun _ => 0))), (q23, .inl (K 0, 7, .inl (fun _ => 0)))] H := hP
  have hD : va_D A [(q, .inr (0, [.int 0, .int 0, .ref q7, .ref q15, .ref q23, .int 0, .int (-1), .int 0])), (q7, .inl (K 1, 30, .inl (fun _ => 0))), (q15, .inl (K 0, 7, .inl (fun _ => 0))), (q23, .inl (K 0, 7, .inl (fun _ => 0)))] := hD
  refine lv_aload_n hx hb dX0_init_38 rfl (lv_at hl 0 rfl) ?_
  refine lv_iconst (v := 0) hx hb dX0_init_39 (by decide) ?_
  refine va_put (D := D) (ci := 0) (v := .int 0) (ty := .boolean) (C := RX0) (T := TX0) (N := 8) hx hb hts hin0 tyX0 tyX0_ok nmX0 hown hK hP hD hS 0 rfl rfl 7 (by decide) (hts (.fieldLink RX0 29 "CartelWatch$Dossier" "closed" "Z") (by decide +kernel)) (fun _ h9 => h9) rfl (by decide +kernel) rfl rfl (Nat.le_of_ble_eq_true rfl) dX0_init_40 (fun H locs hP hD hS => ?_)
  have hP : va_P D vwCl [(q, .inr (0, [.int 0, .int 0, .ref q7, .ref q15, .ref q23, .int 0, .int (-1), .int 0])), (q7, .inl (K 1, 30, .inl (fun _ => 0))), (q15, .inl (K 0, 7, .inl (fun _ => 0))), (q23, .inl (K 0, 7, .inl (fun _ => 0)))] H := hP
  have hD : va_D A [(q, .inr (0, [.int 0, .int 0, .ref q7, .ref q15, .ref q23, .int 0, .int (-1), .int 0])), (q7, .inl (K 1, 30, .inl (fun _ => 0))), (q15, .inl (K 0, 7, .inl (fun _ => 0))), (q23, .inl (K 0, 7, .inl (fun _ => 0)))] := hD
  refine lv_aload_n hx hb dX0_init_43 rfl (lv_at hl 0 rfl) ?_
  refine W.eq (g2 := F0 m 44 ls [.ref q]) rfl ?_
  refine lv_iload_n hx hb dX0_init_44 rfl (lv_at hl 1 rfl) ?_
  refine va_putF (D := D) (ci := 0) (v := .int p0) (ty := .int) (C := RX0) (T := TX0) (N := 8) hx hb hts hin0 tyX0 tyX0_ok nmX0 hown hK hP hD hS 0 rfl rfl 0 (by decide) (hts (.fieldLink RX0 33 "CartelWatch$Dossier" "one" "I") (by decide +kernel)) (fun _ h9 => h9) rfl hini rfl (by decide +kernel) rfl rfl (Nat.le_of_ble_eq_true rfl) dX0_init_45 (fun H locs hP hD hS => ?_)
  have hP : va_P D vwCl [(q, .inr (0, [.int p0, .int 0, .ref q7, .ref q15, .ref q23, .int 0, .int (-1), .int 0])), (q7, .inl (K 1, 30, .inl (fun _ => 0))), (q15, .inl (K 0, 7, .inl (fun _ => 0))), (q23, .inl (K 0, 7, .inl (fun _ => 0)))] H := hP
  have hD : va_D A [(q, .inr (0, [.int p0, .int 0, .ref q7, .ref q15, .ref q23, .int 0, .int (-1), .int 0])), (q7, .inl (K 1, 30, .inl (fun _ => 0))), (q15, .inl (K 0, 7, .inl (fun _ => 0))), (q23, .inl (K 0, 7, .inl (fun _ => 0)))] := hD
  refine lv_aload_n hx hb dX0_init_48 rfl (lv_at hl 0 rfl) ?_
  refine lv_iload_n hx hb dX0_init_49 rfl (lv_at hl 2 rfl) ?_
  refine va_putF (D := D) (ci := 0) (v := .int p1) (ty := .int) (C := RX0) (T := TX0) (N := 8) hx hb hts hin0 tyX0 tyX0_ok nmX0 hown hK hP hD hS 0 rfl rfl 1 (by decide) (hts (.fieldLink RX0 36 "CartelWatch$Dossier" "other" "I") (by decide +kernel)) (fun _ h9 => h9) rfl hini rfl (by decide +kernel) rfl rfl (Nat.le_of_ble_eq_true rfl) dX0_init_50 (fun H locs hP hD hS => ?_)
  have hP : va_P D vwCl [(q, .inr (0, [.int p0, .int p1, .ref q7, .ref q15, .ref q23, .int 0, .int (-1), .int 0])), (q7, .inl (K 1, 30, .inl (fun _ => 0))), (q15, .inl (K 0, 7, .inl (fun _ => 0))), (q23, .inl (K 0, 7, .inl (fun _ => 0)))] H := hP
  have hD : va_D A [(q, .inr (0, [.int p0, .int p1, .ref q7, .ref q15, .ref q23, .int 0, .int (-1), .int 0])), (q7, .inl (K 1, 30, .inl (fun _ => 0))), (q15, .inl (K 0, 7, .inl (fun _ => 0))), (q23, .inl (K 0, 7, .inl (fun _ => 0)))] := hD
  have hPe : va_P D vwCl [(q, .inr (0, [.int p0, .int p1, .ref q7, .ref q15, .ref q23, .int 0, .int (-1), .int 0])), (q7, .inl (K 1, 30, .inl (fun _ => 0))), (q15, .inl (K 0, 7, .inl (fun _ => 0))), (q23, .inl (K 0, 7, .inl (fun _ => 0)))] H := hP
  have hDe : va_D A [(q, .inr (0, [.int p0, .int p1, .ref q7, .ref q15, .ref q23, .int 0, .int (-1), .int 0])), (q7, .inl (K 1, 30, .inl (fun _ => 0))), (q15, .inl (K 0, 7, .inl (fun _ => 0))), (q23, .inl (K 0, 7, .inl (fun _ => 0)))] := hD
  refine W.widen (k := 3) (n := 44) (Nat.le_of_ble_eq_true rfl) (Nat.le_of_ble_eq_true rfl) ?_
  exact W.vret hx hb hr (fun t ht hW => ⟨⟨(), rfl, trivial, by dsimp only; rw [ht]; exact ⟨q7, q15, q23, hPe, hDe⟩⟩, hS.F ht⟩) hS.2.2 dX0_init_53
