def um (M : Nat → Nat → Int32) (k : Nat) (f : Nat → Int32) : Nat → Nat → Int32 := fun j => if j = k then f else M j
theorem vin_eq {x : Int32} {N : Nat} (h : vp_in x N) (hN : N < 2 ^ 31 := by decide) : x = nI x.toNatClampNeg := by
  obtain ⟨k, hk, rfl⟩ := vp_in_of h hN
  rw [nI_clamp (by omega)]
theorem vin_lt {x : Int32} {N : Nat} (h : vp_in x N) (hN : N < 2 ^ 31 := by decide) : x.toNatClampNeg < N := by
  obtain ⟨k, hk, rfl⟩ := vp_in_of h hN
  rw [nI_clamp (by omega)]; exact hk
theorem cnt_in {x y : Int32} {n N : Nat} (hx : x = nI n) (hn : n ≤ N) (hy : y = nI N) (c : ¬ x = y) (hN : N < 2 ^ 31 := by decide) : vp_in x N := by
  rcases Nat.lt_or_eq_of_le hn with h | h
  · rw [hx]; exact vp_in_nI h hN
  · exact absurd (by rw [hx, hy, h]) c
theorem tIn_in {n N : Nat} {x : Int32} (h : tIn n x = true) (hn : n ≤ N) (hN : N < 2 ^ 31) : vp_in x N := by
  obtain ⟨k, hk, rfl⟩ := tIn_ex h (Nat.lt_of_le_of_lt hn hN)
  exact vp_in_nI (by omega) hN

theorem upd_upd (f : Nat → Int32) (k : Nat) (x y : Int32) : upd (upd f k x) k y = upd f k y := by
  funext j
  unfold upd
  by_cases h : j = k
  · rw [if_pos h, if_pos h]
  · rw [if_neg h, if_neg h, if_neg h]
theorem upd_self (f : Nat → Int32) (k : Nat) : upd f k (f k) = f := by
  funext j
  unfold upd
  by_cases h : j = k
  · rw [if_pos h, h]
  · rw [if_neg h]
set_option maxHeartbeats 4000000 in
set_option maxRecDepth 100000 in
theorem c_X2_init (l : Launch) (D : va_G) (K : Nat → ClassId) (sz : Nat) (q : Nat) : EFn l yX2_init wsX2_init 1 40 3 57 D K [.ref q] sz ([(q, .inr (2, [.null, .int 0, .null, .int 0, .null, .int 0]))]) (fun H => ∃ q7 q21 q35 : Nat, va_P D vwCl ([(q, .inr (2, [.ref q7, .int 0, .ref q21, .int 0, .ref q35, .int 10])), (q7, .inl (K 3, 30, .inr (.inr (.inr (.inr (fun _ => none)))))), (q21, .inl (K 2, 20, .inr (.inr (.inr (.inr (fun _ => none)))))), (q35, .inl (K 0, 7, .inl (fun _ => 0)))]) H ∧ va_D (va_A ([(q, .inr (2, [.null, .int 0, .null, .int 0, .null, .int 0]))]) sz) ([(q, .inr (2, [.ref q7, .int 0, .ref q21, .int 0, .ref q35, .int 10])), (q7, .inl (K 3, 30, .inr (.inr (.inr (.inr (fun _ => none)))))), (q21, .inl (K 2, 20, .inr (.inr (.inr (.inr (fun _ => none)))))), (q35, .inl (K 0, 7, .inl (fun _ => 0)))])) := by
  refine Met.ofW (cc := cX2_init) (maxL := 1) (ret := none) (by decide) rfl ?_
  intro p e s m args below meth c s₁ B hml hv
  obtain ⟨rfl, hsz, hD0, hP, hK, hE⟩ := hv
  have hx := B.exec
  have hb := B.bytes
  have hr := B.returns
  have hts := atoms_spec (ws := wsX2_init) B.pre
  have hown : s.vm.findClass RX2 = some m.cls := findClass_of_methodNamed B.named
  have hlocks := B.notSynchronized
  have hini : meth.name = "<init>" := (name_of_methodNamed B.named B.method).1
  subst hsz
  have hD := hD0.self (sz := s.heap.size)
  generalize hAe : va_A ([(q, .inr (2, [.null, .int 0, .null, .int 0, .null, .int 0]))]) s.heap.size = A at hD ⊢
  have hA : ∀ q : Nat, s.heap.size ≤ q → A q := fun q h => by rw [← hAe]; exact Or.inr h
  have hS : va_S A s.heap s.heap [] := va_S.rf
  have hP : va_P D vwCl ([(q, .inr (2, [.null, .int 0, .null, .int 0, .null, .int 0]))]) s.heap := hP
  have hin2 : ∀ w ∈ u_ws RX2 TX2 6, w ∈ wsX2_init := by decide +kernel
  have hl := lv_entry ([.ref q]) (n := 1) (Nat.le_of_ble_eq_true rfl)
  rw [lg_entry_eq]
  generalize (lg_sl ([.ref q]) ++ List.replicate (1 - (lg_sl ([.ref q])).length) Slot.unset).toArray = ls at hl ⊢
  have hl : lv_has ls 1 [(0, .ref q)] := hl
  refine lv_aload_n hx hb dX2_init_0 rfl (lv_at hl 0 rfl) ?_
  refine W.objInit hx hb hown (hts (.methodLink RX2 1 objectInit) (by decide +kernel)) (hts (.instanceMethod objectInit) (by decide +kernel)) (hts (.code objectInit ⟨#[0xb1]⟩ 1 none) (by decide +kernel)) rfl (by rw [hml]; exact hl.1) rfl dX2_init_1 (Nat.le_of_ble_eq_true rfl) (Nat.le_of_ble_eq_true rfl) ?_
  refine W.eq (g2 := F0 m 4 ls []) rfl ?_
  refine lv_aload_n hx hb dX2_init_4 rfl (lv_at hl 0 rfl) ?_
  refine lv_bipush (v := 30) hx hb dX2_init_5 (by decide) ?_
  refine va_newq (N' := 30) hx hb hown (hts (.classLink RX2 9 RX1) (by decide +kernel)) hE.2.2.2.2 hK hP hD hS hA (by decide) (by decide) (by decide) (Nat.le_of_ble_eq_true rfl) (Nat.le_of_ble_eq_true rfl) dX2_init_7 (fun q7 c7 H hK9 hP hD hS => ?_)
  have e7 : c7 = K 3 := va_K_uniq hK9 (i := 4) (j := 3) rfl rfl
  subst e7
  have hP : va_P D vwCl [(q, .inr (2, [.null, .int 0, .null, .int 0, .null, .int 0])), (q7, .inl (K 3, 30, .inr (.inr (.inr (.inr (fun _ => none))))))] H := hP
  have hD : va_D A [(q, .inr (2, [.null, .int 0, .null, .int 0, .null, .int 0])), (q7, .inl (K 3, 30, .inr (.inr (.inr (.inr (fun _ => none))))))] := hD
  refine va_putF (D := D) (ci := 2) (v := .ref q7) (ty := .array (.object "CartelWatch$Tender")) (C := RX2) (T := TX2) (N := 6) hx hb hts hin2 tyX2 tyX2_ok nmX2 hown hK hP hD hS 0 rfl rfl 0 (by decide) (hts (.fieldLink RX2 11 "CartelWatch" "tenders" "[LCartelWatch$Tender;") (by decide +kernel)) (fun _ h9 => h9) rfl hini rfl (by decide +kernel) rfl rfl (Nat.le_of_ble_eq_true rfl) dX2_init_10 (fun H locs hP hD hS => ?_)
  have hP : va_P D vwCl [(q, .inr (2, [.ref q7, .int 0, .null, .int 0, .null, .int 0])), (q7, .inl (K 3, 30, .inr (.inr (.inr (.inr (fun _ => none))))))] H := hP
  have hD : va_D A [(q, .inr (2, [.ref q7, .int 0, .null, .int 0, .null, .int 0])), (q7, .inl (K 3, 30, .inr (.inr (.inr (.inr (fun _ => none))))))] := hD
  refine lv_aload_n hx hb dX2_init_13 rfl (lv_at hl 0 rfl) ?_
  refine lv_iconst (v := 0) hx hb dX2_init_14 (by decide) ?_
  refine W.eq (g2 := F0 m 15 ls [.int 0, .ref q]) rfl ?_
  refine va_put (D := D) (ci := 2) (v := .int 0) (ty := .int) (C := RX2) (T := TX2) (N := 6) hx hb hts hin2 tyX2 tyX2_ok nmX2 hown hK hP hD hS 0 rfl rfl 1 (by decide) (hts (.fieldLink RX2 15 "CartelWatch" "tenderCount" "I") (by decide +kernel)) (fun _ h9 => h9) rfl (by decide +kernel) rfl rfl (Nat.le_of_ble_eq_true rfl) dX2_init_15 (fun H locs hP hD hS => ?_)
  have hP : va_P D vwCl [(q, .inr (2, [.ref q7, .int 0, .null, .int 0, .null, .int 0])), (q7, .inl (K 3, 30, .inr (.inr (.inr (.inr (fun _ => none))))))] H := hP
  have hD : va_D A [(q, .inr (2, [.ref q7, .int 0, .null, .int 0, .null, .int 0])), (q7, .inl (K 3, 30, .inr (.inr (.inr (.inr (fun _ => none))))))] := hD
  refine lv_aload_n hx hb dX2_init_18 rfl (lv_at hl 0 rfl) ?_
  refine lv_bipush (v := 20) hx hb dX2_init_19 (by decide) ?_
  refine va_newq (N' := 20) hx hb hown (hts (.classLink RX2 19 RX0) (by decide +kernel)) hE.2.2.2.1 hK hP hD hS hA (by decide) (by decide) (by decide) (Nat.le_of_ble_eq_true rfl) (Nat.le_of_ble_eq_true rfl) dX2_init_21 (fun q21 c21 H hK9 hP hD hS => ?_)
  have e21 : c21 = K 2 := va_K_uniq hK9 (i := 4) (j := 2) rfl rfl
  subst e21
  have hP : va_P D vwCl [(q, .inr (2, [.ref q7, .int 0, .null, .int 0, .null, .int 0])), (q7, .inl (K 3, 30, .inr (.inr (.inr (.inr (fun _ => none)))))), (q21, .inl (K 2, 20, .inr (.inr (.inr (.inr (fun _ => none))))))] H := hP
  have hD : va_D A [(q, .inr (2, [.ref q7, .int 0, .null, .int 0, .null, .int 0])), (q7, .inl (K 3, 30, .inr (.inr (.inr (.inr (fun _ => none)))))), (q21, .inl (K 2, 20, .inr (.inr (.inr (.inr (fun _ => none))))))] := hD
  refine va_putF (D := D) (ci := 2) (v := .ref q21) (ty := .array (.object "CartelWatch$Dossier")) (C := RX2) (T := TX2) (N := 6) hx hb hts hin2 tyX2 tyX2_ok nmX2 hown hK hP hD hS 0 rfl rfl 2 (by decide) (hts (.fieldLink RX2 21 "CartelWatch" "dossiers" "[LCartelWatch$Dossier;") (by decide +kernel)) (fun _ h9 => h9) rfl hini rfl (by decide +kernel) rfl rfl (Nat.le_of_ble_eq_true rfl) dX2_init_24 (fun H locs hP hD hS => ?_)
  have hP : va_P D vwCl [(q, .inr (2, [.ref q7, .int 0, .ref q21, .int 0, .null, .int 0])), (q7, .inl (K 3, 30, .inr (.inr (.inr (.inr (fun _ => none)))))), (q21, .inl (K 2, 20, .inr (.inr (.inr (.inr (fun _ => none))))))] H := hP
  have hD : va_D A [(q, .inr (2, [.ref q7, .int 0, .ref q21, .int 0, .null, .int 0])), (q7, .inl (K 3, 30, .inr (.inr (.inr (.inr (fun _ => none)))))), (q21, .inl (K 2, 20, .inr (.inr (.inr (.inr (fun _ => none))))))] := hD
  refine lv_aload_n hx hb dX2_init_27 rfl (lv_at hl 0 rfl) ?_
  refine lv_iconst (v := 0) hx hb dX2_init_28 (by decide) ?_
  refine va_put (D := D) (ci := 2) (v := .int 0) (ty := .int) (C := RX2) (T := TX2) (N := 6) hx hb hts hin2 tyX2 tyX2_ok nmX2 hown hK hP hD hS 0 rfl rfl 3 (by decide) (hts (.fieldLink RX2 25 "CartelWatch" "dossierCount" "I") (by decide +kernel)) (fun _ h9 => h9) rfl (by decide +kernel) rfl rfl (Nat.le_of_ble_eq_true rfl) dX2_init_29 (fun H locs hP hD hS => ?_)
  have hP : va_P D vwCl [(q, .inr (2, [.ref q7, .int 0, .ref q21, .int 0, .null, .int 0])), (q7, .inl (K 3, 30, .inr (.inr (.inr (.inr (fun _ => none)))))), (q21, .inl (K 2, 20, .inr (.inr (.inr (.inr (fun _ => none))))))] H := hP
  have hD : va_D A [(q, .inr (2, [.ref q7, .int 0, .ref q21, .int 0, .null, .int 0])), (q7, .inl (K 3, 30, .inr (.inr (.inr (.inr (fun _ => none)))))), (q21, .inl (K 2, 20, .inr (.inr (.inr (.inr (fun _ => none))))))] := hD
  refine W.eq (g2 := F0 m 32 ls []) rfl ?_
  refine lv_aload_n hx hb dX2_init_32 rfl (lv_at hl 0 rfl) ?_
  refine lv_bipush (v := 7) hx hb dX2_init_33 (by decide) ?_
  refine va_newa (atype := .int) (a0 := (7, .inl (fun _ => 0))) hx hb (hts (.arrayClass .int) (by decide +kernel)) rfl hK hP hD hS hA (fun cA => rfl) (by decide) (by decide) (by decide) (Nat.le_of_ble_eq_true rfl) (Nat.le_of_ble_eq_true rfl) dX2_init_35 (fun q35 c35 H hK9 hP hD hS => ?_)
  have e35 : c35 = K 0 := va_K_uniq hK9 (i := 4) (j := 0) rfl rfl
  subst e35
  have hP : va_P D vwCl [(q, .inr (2, [.ref q7, .int 0, .ref q21, .int 0, .null, .int 0])), (q7, .inl (K 3, 30, .inr (.inr (.inr (.inr (fun _ => none)))))), (q21, .inl (K 2, 20, .inr (.inr (.inr (.inr (fun _ => none)))))), (q35, .inl (K 0, 7, .inl (fun _ => 0)))] H := hP
  have hD : va_D A [(q, .inr (2, [.ref q7, .int 0, .ref q21, .int 0, .null, .int 0])), (q7, .inl (K 3, 30, .inr (.inr (.inr (.inr (fun _ => none)))))), (q21, .inl (K 2, 20, .inr (.inr (.inr (.inr (fun _ => none)))))), (q35, .inl (K 0, 7, .inl (fun _ => 0)))] := hD
  refine va_putF (D := D) (ci := 2) (v := .ref q35) (ty := .array .int) (C := RX2) (T := TX2) (N := 6) hx hb hts hin2 tyX2 tyX2_ok nmX2 hown hK hP hD hS 0 rfl rfl 4 (by decide) (hts (.fieldLink RX2 28 "CartelWatch" "paidToHarmed" "[I") (by decide +kernel)) (fun _ h9 => h9) rfl hini rfl (by decide +kernel) rfl rfl (Nat.le_of_ble_eq_true rfl) dX2_init_37 (fun H locs hP hD hS => ?_)
  have hP : va_P D vwCl [(q, .inr (2, [.ref q7, .int 0, .ref q21, .int 0, .ref q35, .int 0])), (q7, .inl (K 3, 30, .inr (.inr (.inr (.inr (fun _ => none)))))), (q21, .inl (K 2, 20, .inr (.inr (.inr (.inr (fun _ => none)))))), (q35, .inl (K 0, 7, .inl (fun _ => 0)))] H := hP
  have hD : va_D A [(q, .inr (2, [.ref q7, .int 0, .ref q21, .int 0, .ref q35, .int 0])), (q7, .inl (K 3, 30, .inr (.inr (.inr (.inr (fun _ => none)))))), (q21, .inl (K 2, 20, .inr (.inr (.inr (.inr (fun _ => none)))))), (q35, .inl (K 0, 7, .inl (fun _ => 0)))] := hD
  refine lv_aload_n hx hb dX2_init_40 rfl (lv_at hl 0 rfl) ?_
  refine lv_bipush (v := 10) hx hb dX2_init_41 (by decide) ?_
  refine va_put (D := D) (ci := 2) (v := .int 10) (ty := .int) (C := RX2) (T := TX2) (N := 6) hx hb hts hin2 tyX2 tyX2_ok nmX2 hown hK hP hD hS 0 rfl rfl 5 (by decide) (hts (.fieldLink RX2 32 "CartelWatch" "leastSuspicionForFile" "I") (by decide +kernel)) (fun _ h9 => h9) rfl (by decide +kernel) rfl rfl (Nat.le_of_ble_eq_true rfl) dX2_init_43 (fun H locs hP hD hS => ?_)
  have hP : va_P D vwCl [(q, .inr (2, [.ref q7, .int 0, .ref q21, .int 0, .ref q35, .int 10])), (q7, .inl (K 3, 30, .inr (.inr (.inr (.inr (fun _ => none)))))), (q21, .inl (K 2, 20, .inr (.inr (.inr (.inr (fun _ => none)))))), (q35, .inl (K 0, 7, .inl (fun _ => 0)))] H := hP
  have hD : va_D A [(q, .inr (2, [.ref q7, .int 0, .ref q21, .int 0, .ref q35, .int 10])), (q7, .inl (K 3, 30, .inr (.inr (.inr (.inr (fun _ => none)))))), (q21, .inl (K 2, 20, .inr (.inr (.inr (.inr (fun _ => none)))))), (q35, .inl (K 0, 7, .inl (fun _ => 0)))] := hD
  have hPe : va_P D vwCl [(q, .inr (2, [.ref q7, .int 0, .ref q21, .int 0, .ref q35, .int 10])), (q7, .inl (K 3, 30, .inr (.inr (.inr (.inr (fun _ => none)))))), (q21, .inl (K 2, 20, .inr (.inr (.inr (.inr (fun _ => none)))))), (q35, .inl (K 0, 7, .inl (fun _ => 0)))] H := hP
  have hDe : va_D A [(q, .inr (2, [.ref q7, .int 0, .ref q21, .int 0, .ref q35, .int 10])), (q7, .inl (K 3, 30, .inr (.inr (.inr (.inr (fun _ => none)))))), (q21, .inl (K 2, 20, .inr (.inr (.inr (.inr (fun _ => none)))))), (q35, .inl (K 0, 7, .inl (fun _ => 0)))] := hD
  refine W.widen (k := 3) (n := 57) (Nat.le_of_ble_eq_true rfl) (Nat.le_of_ble_eq_true rfl) ?_
  exact W.vret hx hb hr (fun t ht hW => ⟨⟨(), rfl, trivial, by dsimp only; rw [ht]; exact ⟨q7, q21, q35, hPe, hDe⟩⟩, hS.F ht⟩) hS.2.2 dX2_init_46
