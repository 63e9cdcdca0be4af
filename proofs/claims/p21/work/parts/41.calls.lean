theorem XP_over {D : va_G} {K : Nat → ClassId} {ad : Nat → Nat → Nat} {n d : Nat} {S : Nat → Nat → Nat → Int32} {H0 H : Heap} (hDJ : DJ ad n d) (h : XP D K ad n d S H0) (hfr : ∀ a, a < H0.size → ¬ va_A (xW K ad n d S) H0.size a → H[a]? = H0[a]?) (hP : va_P D vwCl (xW K ad n d S) H) : XP D K ad n d S H :=
  ⟨h.1, h.2.1, hP, fun k hk => X_kept hDJ (ids := xTi k) (idc := xWi) rfl rfl (xTl hk) xWl (xne (by simp)) (h.2.2.2.1 k hk) hfr, fun k hk => X_kept hDJ (ids := xDi k) (idc := xWi) rfl rfl (xDl hk) xWl (xne (by simp)) (h.2.2.2.2 k hk) hfr⟩

def sp_X2_open (n : Nat) (S : Nat → Nat → Nat → Int32) : Int32 × Int32 × (Nat → Nat → Nat → Int32) := if (nI n) < 30 then ((0, nI n, setT S n (fun _ => 0) (fun _ => 0) 0 (-1) (-1) 0)) else ((1, 0, S))
set_option maxHeartbeats 4000000 in
set_option maxRecDepth 100000 in
theorem c_X2_open (l : Launch) (hl0 : l.stackTraces = false) (D : va_G) (K : Nat → ClassId) (sz : Nat) (ad : Nat → Nat → Nat) (n d : Nat) (S : Nat → Nat → Nat → Int32) (hDJ : DJ ad n d) : XMet l yX2_open wsX2_open 6 100 D K [.ref (ad 0 0)] sz (XA ad sz) (fun H => XP D K ad n d S H) ((sp_X2_open n S).2.1) ((sp_X2_open n S).1) (fun H => ∃ ad2, XP D K ad2 (n + 1) d ((sp_X2_open n S).2.2) H ∧ DJ ad2 (n + 1) d ∧ ∀ k i, ad2 k i = ad k i ∨ 4 ≤ k ∧ sz ≤ ad2 k i) "java/lang/IllegalStateException" "" "" := by
  refine vx_ofW (cc := cX2_open) (maxL := 2) (ret := (some .int)) (by decide) rfl ?_
  intro p e s m args below meth c s₁ B hml hnox hv
  obtain ⟨rfl, hsz, hZ, hX, hP, hK, hE⟩ := hv
  have hx := B.exec
  have hb := B.bytes
  have hr := B.returns
  have hts := atoms_spec (ws := wsX2_open) B.pre
  have hown : s.vm.findClass RX2 = some m.cls := findClass_of_methodNamed B.named
  have hlocks := B.notSynchronized
  have hc : CallFix p m c cX2_open 2 s ([.ref (ad 0 0)] : List Value).toArray wsX2_open RX2 := ⟨hx, hb, hml, hown, hts⟩
  subst hsz
  have hXP := hP
  obtain ⟨hn, hd, hP, hT, hF⟩ := hP
  have hP : va_P D vwCl (xW K ad n d S) s.heap := hP
  have hS0 : va_S (XA ad s.heap.size) s.heap s.heap [] := va_S.rf
  have hin1 : ∀ w ∈ u_ws RX1 TX1 6, w ∈ wsX2_open := by decide +kernel
  have hin2 : ∀ w ∈ u_ws RX2 TX2 6, w ∈ wsX2_open := by decide +kernel
  have hD := (X_apart hDJ (ids := xWi) (ws := xW K ad n d S) rfl xWl xWn).self (sz := s.heap.size)
  generalize hAe : va_A (xW K ad n d S) s.heap.size = A at hD
  have hS : va_S A s.heap s.heap [] := va_S.rf
  have hA : ∀ q : Nat, s.heap.size ≤ q → A q := fun q h => by rw [← hAe]; exact Or.inr h
  have hl := lv_entry ([.ref (ad 0 0)]) (n := 2) (Nat.le_of_ble_eq_true rfl)
  rw [lg_entry_eq]
  generalize (lg_sl ([.ref (ad 0 0)]) ++ List.replicate (2 - (lg_sl ([.ref (ad 0 0)])).length) Slot.unset).toArray = ls at hl ⊢
  have hl : lv_has ls 2 [(0, .ref (ad 0 0))] := hl
  refine lv_aload_n hx hb dX2_open_0 rfl (lv_at hl 0 rfl) ?_
  refine va_get (D := D) (ci := 2) (v := .int (nI n)) (C := RX2) (T := TX2) (N := 6) hx hb hts hin2 hown hK hP 0 rfl rfl 1 (by decide) (hts (.fieldLink RX2 15 "CartelWatch" "tenderCount" "I") (by decide +kernel)) (fun _ h9 => h9) rfl dX2_open_1 ?_
  refine lv_istore_n (lv' := [(1, .int (nI n)), (0, .ref (ad 0 0))]) hx hb dX2_open_4 rfl hl (by decide) rfl (fun ls hl => ?_)
  refine lv_iload_n hx hb dX2_open_5 rfl (lv_at hl 0 rfl) ?_
  refine lv_if_lt (tgt := 18) hx hb dX2_open_6 (by decide) (fun c_6 => ?_) (fun c_6 => ?_)
  · skip
    exact absurd c_6 (nI_pos (by omega))
  · skip
    refine lv_iload_n hx hb dX2_open_9 rfl (lv_at hl 0 rfl) ?_
    refine lv_aload_n hx hb dX2_open_10 rfl (lv_at hl 1 rfl) ?_
    refine va_get (D := D) (ci := 2) (v := .ref (ad 1 0)) (C := RX2) (T := TX2) (N := 6) hx hb hts hin2 hown hK hP 0 rfl rfl 0 (by decide) (hts (.fieldLink RX2 11 "CartelWatch" "tenders" "[LCartelWatch$Tender;") (by decide +kernel)) (fun _ h9 => h9) rfl dX2_open_11 ?_
    refine W.eq (g2 := F0 m 14 ls [.ref (ad 1 0), .int (nI n)]) rfl ?_
    refine va_alen (v := 30) hx hb hK hP 1 3 rfl rfl rfl dX2_open_14 ?_
    refine lv_icmp_lt (tgt := 28) hx hb dX2_open_15 (by decide) (fun c_15 => ?_) (fun c_15 => ?_)
    · skip
      have hlt_15 : n < 30 := (nI_ltI (by omega) (by decide)).mp (show nI n < nI 30 from c_15)
      refine lv_aload_n hx hb dX2_open_28 rfl (lv_at hl 1 rfl) ?_
      refine va_get (D := D) (ci := 2) (v := .ref (ad 1 0)) (C := RX2) (T := TX2) (N := 6) hx hb hts hin2 hown hK hP 0 rfl rfl 0 (by decide) (hts (.fieldLink RX2 11 "CartelWatch" "tenders" "[LCartelWatch$Tender;") (by decide +kernel)) (fun _ h9 => h9) rfl dX2_open_29 ?_
      refine lv_iload_n hx hb dX2_open_32 rfl (lv_at hl 0 rfl) ?_
      refine va_new (ci := 1) (fs := [.null, .null, .int 0, .int 0, .int 0, .int 0]) (C := RX1) (T := TX1) (N := 6) hx hb hts hin1 tyX1 tyX1_ok hown (hts (.classLink RX2 9 RX1) (by decide +kernel)) (hts (.instantiable RX1 6) (by decide +kernel)) (hts (.initialized RX1) (by decide +kernel)) hK hP hD hS hA rfl (fun j hj => by rcases (show j = 0 ∨ j = 1 ∨ j = 2 ∨ j = 3 ∨ j = 4 ∨ j = 5 by omega) with rfl | rfl | rfl | rfl | rfl | rfl <;> rfl) (Nat.le_of_ble_eq_true rfl) (Nat.le_of_ble_eq_true rfl) dX2_open_33 (fun q33 H hP hD hS => ?_)
      have hP : va_P D vwCl [(ad 0 0, .inr (2, [.ref (ad 1 0), .int (nI n), .ref (ad 2 0), .int (nI d), .ref (ad 3 0), .int (S 16 0 0)])), (ad 1 0, .inl (K 3, 30, .inr (.inr (.inr (.inr (tArr ad n)))))), (ad 2 0, .inl (K 2, 20, .inr (.inr (.inr (.inr (dArr ad d)))))), (ad 3 0, .inl (K 0, 7, .inl (S 15 0))), (q33, .inr (1, [.null, .null, .int 0, .int 0, .int 0, .int 0]))] H := hP
      have hD : va_D A [(ad 0 0, .inr (2, [.ref (ad 1 0), .int (nI n), .ref (ad 2 0), .int (nI d), .ref (ad 3 0), .int (S 16 0 0)])), (ad 1 0, .inl (K 3, 30, .inr (.inr (.inr (.inr (tArr ad n)))))), (ad 2 0, .inl (K 2, 20, .inr (.inr (.inr (.inr (dArr ad d)))))), (ad 3 0, .inl (K 0, 7, .inl (S 15 0))), (q33, .inr (1, [.null, .null, .int 0, .int 0, .int 0, .int 0]))] := hD
      refine lv_dup hx hb dX2_open_36 rfl ?_
      have hPc := hP.sub (ws' := [(q33, .inr (1, [.null, .null, .int 0, .int 0, .int 0, .int 0]))]) [4] rfl
      have hDc := hD.sub (ws' := [(q33, .inr (1, [.null, .null, .int 0, .int 0, .int 0, .int 0]))]) [4] (by decide) rfl
      have hFc := va_free (wc := [(q33, .inr (1, [.null, .null, .int 0, .int 0, .int 0, .int 0]))]) hD hS hA [4] rfl
      refine va_callv (va_runIN (As := []) (rest := [.ref q33, .int (nI n), .ref (ad 1 0)]) hc (c_X1_init l D K H.size q33) ⟨va_cnB (own := RX2) (index := 42) (host := RX2) 0 hts gX2_open_X1_init_n42 rfl rfl rfl hE.2.2.1 (hts (.initialized RX1) (by decide +kernel)) (by decide +kernel) ⟨Nat.le_of_ble_eq_true rfl, Nat.le_of_ble_eq_true rfl⟩, rfl, hts (.instanceMethod yX1_init) (by decide +kernel)⟩ ⟨EF_blind, EF_at hPc (hDc.weaken (fun _ _ _ _ => trivial)) hK hE⟩ rfl rfl hl.1 rfl (lv_room (Nat.le_of_ble_eq_true rfl)) dX2_open_37 ⟨(Nat.le_of_ble_eq_true rfl), (Nat.le_of_ble_eq_true rfl)⟩) hS (fun q _ h => hFc q h) hFc (fun u t H1 locs ht hvm hw hB hz1 hk1 hS => ?_)
      obtain ⟨q7, q15, hP1, hD1⟩ := hB
      rw [ht] at hP1
      obtain ⟨hP, hD⟩ := va_join (wr := [(ad 0 0, .inr (2, [.ref (ad 1 0), .int (nI n), .ref (ad 2 0), .int (nI d), .ref (ad 3 0), .int (S 16 0 0)])), (ad 1 0, .inl (K 3, 30, .inr (.inr (.inr (.inr (tArr ad n)))))), (ad 2 0, .inl (K 2, 20, .inr (.inr (.inr (.inr (dArr ad d)))))), (ad 3 0, .inl (K 0, 7, .inl (S 15 0)))]) (w1 := [(q33, .inr (1, [.ref q7, .ref q15, .int 0, .int (-1), .int (-1), .int 0])), (q7, .inl (K 0, 7, .inl (fun _ => 0))), (q15, .inl (K 1, 7, .inl (fun _ => 0)))]) hP hD [4] [0, 1, 2, 3] rfl rfl (by decide) (by decide) hk1 hFc hP1 hD1
      generalize H1 = H at hP hS ⊢
      have hP : va_P D vwCl [(ad 0 0, .inr (2, [.ref (ad 1 0), .int (nI n), .ref (ad 2 0), .int (nI d), .ref (ad 3 0), .int (S 16 0 0)])), (ad 1 0, .inl (K 3, 30, .inr (.inr (.inr (.inr (tArr ad n)))))), (ad 2 0, .inl (K 2, 20, .inr (.inr (.inr (.inr (dArr ad d)))))), (ad 3 0, .inl (K 0, 7, .inl (S 15 0))), (q33, .inr (1, [.ref q7, .ref q15, .int 0, .int (-1), .int (-1), .int 0])), (q7, .inl (K 0, 7, .inl (fun _ => 0))), (q15, .inl (K 1, 7, .inl (fun _ => 0)))] H := hP
      have hD : va_D A [(ad 0 0, .inr (2, [.ref (ad 1 0), .int (nI n), .ref (ad 2 0), .int (nI d), .ref (ad 3 0), .int (S 16 0 0)])), (ad 1 0, .inl (K 3, 30, .inr (.inr (.inr (.inr (tArr ad n)))))), (ad 2 0, .inl (K 2, 20, .inr (.inr (.inr (.inr (dArr ad d)))))), (ad 3 0, .inl (K 0, 7, .inl (S 15 0))), (q33, .inr (1, [.ref q7, .ref q15, .int 0, .int (-1), .int (-1), .int 0])), (q7, .inl (K 0, 7, .inl (fun _ => 0))), (q15, .inl (K 1, 7, .inl (fun _ => 0)))] := hD
      refine W.widen (k := 4) (n := 60) (Nat.le_of_ble_eq_true rfl) (Nat.le_of_ble_eq_true rfl) ?_
      refine va_astq hx hb hK hP hD hS 1 3 4 1 (cA := K 3) (r := (RX1, TX1, 6)) rfl rfl rfl rfl (vp_in_nI hlt_15 (by decide)) dX2_open_40 (fun H locs hP hD hS => ?_)
      have hP : va_P D vwCl [(ad 0 0, .inr (2, [.ref (ad 1 0), .int (nI n), .ref (ad 2 0), .int (nI d), .ref (ad 3 0), .int (S 16 0 0)])), (ad 1 0, .inl (K 3, 30, .inr (.inr (.inr (.inr (va_up (tArr ad n) ((nI n).toNatClampNeg) (some q33))))))), (ad 2 0, .inl (K 2, 20, .inr (.inr (.inr (.inr (dArr ad d)))))), (ad 3 0, .inl (K 0, 7, .inl (S 15 0))), (q33, .inr (1, [.ref q7, .ref q15, .int 0, .int (-1), .int (-1), .int 0])), (q7, .inl (K 0, 7, .inl (fun _ => 0))), (q15, .inl (K 1, 7, .inl (fun _ => 0)))] H := hP
      have hD : va_D A [(ad 0 0, .inr (2, [.ref (ad 1 0), .int (nI n), .ref (ad 2 0), .int (nI d), .ref (ad 3 0), .int (S 16 0 0)])), (ad 1 0, .inl (K 3, 30, .inr (.inr (.inr (.inr (va_up (tArr ad n) ((nI n).toNatClampNeg) (some q33))))))), (ad 2 0, .inl (K 2, 20, .inr (.inr (.inr (.inr (dArr ad d)))))), (ad 3 0, .inl (K 0, 7, .inl (S 15 0))), (q33, .inr (1, [.ref q7, .ref q15, .int 0, .int (-1), .int (-1), .int 0])), (q7, .inl (K 0, 7, .inl (fun _ => 0))), (q15, .inl (K 1, 7, .inl (fun _ => 0)))] := hD
      refine lv_aload_n hx hb dX2_open_41 rfl (lv_at hl 1 rfl) ?_
      refine W.eq (g2 := F0 m 42 ls [.ref (ad 0 0)]) rfl ?_
      refine lv_iload_n hx hb dX2_open_42 rfl (lv_at hl 0 rfl) ?_
      refine lv_iconst (v := 1) hx hb dX2_open_43 (by decide) ?_
      refine lv_iadd hx hb dX2_open_44 ?_
      refine va_put (D := D) (ci := 2) (v := .int ((nI n) + 1)) (ty := .int) (C := RX2) (T := TX2) (N := 6) hx hb hts hin2 tyX2 tyX2_ok nmX2 hown hK hP hD hS 0 rfl rfl 1 (by decide) (hts (.fieldLink RX2 15 "CartelWatch" "tenderCount" "I") (by decide +kernel)) (fun _ h9 => h9) rfl (by decide +kernel) rfl rfl (Nat.le_of_ble_eq_true rfl) dX2_open_45 (fun H locs hP hD hS => ?_)
      have hP : va_P D vwCl [(ad 0 0, .inr (2, [.ref (ad 1 0), .int ((nI n) + 1), .ref (ad 2 0), .int (nI d), .ref (ad 3 0), .int (S 16 0 0)])), (ad 1 0, .inl (K 3, 30, .inr (.inr (.inr (.inr (va_up (tArr ad n) ((nI n).toNatClampNeg) (some q33))))))), (ad 2 0, .inl (K 2, 20, .inr (.inr (.inr (.inr (dArr ad d)))))), (ad 3 0, .inl (K 0, 7, .inl (S 15 0))), (q33, .inr (1, [.ref q7, .ref q15, .int 0, .int (-1), .int (-1), .int 0])), (q7, .inl (K 0, 7, .inl (fun _ => 0))), (q15, .inl (K 1, 7, .inl (fun _ => 0)))] H := hP
      have hD : va_D A [(ad 0 0, .inr (2, [.ref (ad 1 0), .int ((nI n) + 1), .ref (ad 2 0), .int (nI d), .ref (ad 3 0), .int (S 16 0 0)])), (ad 1 0, .inl (K 3, 30, .inr (.inr (.inr (.inr (va_up (tArr ad n) ((nI n).toNatClampNeg) (some q33))))))), (ad 2 0, .inl (K 2, 20, .inr (.inr (.inr (.inr (dArr ad d)))))), (ad 3 0, .inl (K 0, 7, .inl (S 15 0))), (q33, .inr (1, [.ref q7, .ref q15, .int 0, .int (-1), .int (-1), .int 0])), (q7, .inl (K 0, 7, .inl (fun _ => 0))), (q15, .inl (K 1, 7, .inl (fun _ => 0)))] := hD
      refine lv_iload_n hx hb dX2_open_48 rfl (lv_at hl 0 rfl) ?_
      have hsp : sp_X2_open n S = ((0, nI n, setT S n (fun _ => 0) (fun _ => 0) 0 (-1) (-1) 0) : Int32 × Int32 × (Nat → Nat → Nat → Int32)) := Eq.trans (if_pos c_15) (rfl)
      have hXe := XP_pushT (sa := q7) (wa := q15) hlt_15 hDJ hXP (fun q h1 h2 => hS.2.1 q h1 (by rw [← hAe]; exact h2)) hP (by rw [hAe]; exact hD)
      have hXe := (⟨_, hXe⟩ : ∃ ad2, XP D K ad2 (n + 1) d (setT S n (fun _ => 0) (fun _ => 0) 0 (-1) (-1) 0) H ∧ DJ ad2 (n + 1) d ∧ ∀ k i, ad2 k i = ad k i ∨ 4 ≤ k ∧ s.heap.size ≤ ad2 k i)
      have hSe : va_S (XA ad s.heap.size) s.heap H locs := hS.mono (fun q h => va_A_XA (ws := xW K ad n d S) (ids := xWi) rfl (Nat.le_refl _) q (by rw [hAe]; exact h))
      refine vx_ret (W.widen (k := 4) (n := 60) (Nat.le_of_ble_eq_true rfl) (Nat.le_of_ble_eq_true rfl) ?_)
      exact W.iret (v := nI n) hx hb hr (fun t ht hW => ⟨⟨_, (), rfl, ⟨by rw [hsp], by rw [hsp]⟩, by dsimp only; rw [ht, hsp]; exact hXe⟩, hSe.F ht⟩) hSe.2.2 dX2_open_49
    · skip
      have hsp : sp_X2_open n S = ((1, 0, S) : Int32 × Int32 × (Nat → Nat → Nat → Int32)) := Eq.trans (if_neg c_15) (rfl)
      obtain ⟨sa_18, hstr_18⟩ := hX.1 (37, "there are as many tenders as there can be") (by decide)
      exact vx_throwS (own := RX2) (cls := "java/lang/IllegalStateException") (text := "there are as many tenders as there can be") (names := ["java/lang/RuntimeException", "java/lang/Exception"]) (ik := 35) (is := 37) (ic := 39) hx hb hl0 hown x_fit39 x_fits (hts (.classLink RX2 35 "java/lang/IllegalStateException") (by decide +kernel)) (hts (.initialized "java/lang/IllegalStateException") (by decide +kernel)) hstr_18 (x_hat39 (fun w h => hts w (List.mem_cons_of_mem _ (List.mem_append_right _ h))) hX) x_good39 hZ.1 hZ.2 hS0 (hl.1.trans hml.symm) dX2_open_18 dX2_open_21 dX2_open_22 dX2_open_24 dX2_open_27 (fun x h => (hnox x h).elim) (Nat.le_of_ble_eq_true rfl) (Nat.le_of_ble_eq_true rfl) (Nat.le_of_ble_eq_true rfl) (Nat.le_of_ble_eq_true rfl) hlocks (fun t hv hz hk => ⟨(), trivial, ⟨by rw [hsp]; exact Or.inl ⟨rfl, rfl⟩, hXP.kept hk⟩, ⟨hz, fun q h1 _ => hk q h1⟩⟩) hS0.2.2 (Nat.le_of_ble_eq_true rfl) (Nat.le_of_ble_eq_true rfl)

def sp_X2_file_U (n : Nat) (S : Nat → Nat → Nat → Int32) (p0 p1 : Int32) : Nat → Nat → Int32
  | 0 => fun _ => 0
  | k + 1 => if (sp_X2_countOf n S (nI k) p0 p1) ≤ 0 then sp_X2_file_U n S p0 p1 k else upd (sp_X2_file_U n S p0 p1 k) (nI k).toNatClampNeg 1
def sp_X2_file_C (n : Nat) (S : Nat → Nat → Nat → Int32) (p0 p1 : Int32) : Nat → Int32
  | 0 => 0
  | k + 1 => if (sp_X2_countOf n S (nI k) p0 p1) ≤ 0 then sp_X2_file_C n S p0 p1 k else (sp_X2_file_C n S p0 p1 k) + 1

def sp_X2_file (n : Nat) (d : Nat) (S : Nat → Nat → Nat → Int32) (p0 : Int32) (p1 : Int32) : Int32 × Int32 × (Nat → Nat → Nat → Int32) := if sp_X2_isPair p0 p1 = true then (if 20 ≤ (nI d) then ((2, 0, S)) else (if sp_X2_hasDossier d S p0 p1 = true then ((2, 0, S)) else (if (S 16 0 0) ≤ (sp_X2_suspicionOf n S p0 p1) then ((0, nI d, setD S d p0 p1 (sp_X2_file_U n S p0 p1 30) (fun _ => 0) (fun _ => 0) (sp_X2_file_C n S p0 p1 30) (-1) 0)) else ((2, 0, S))))) else ((1, 0, S))
set_option maxHeartbeats 4000000 in
set_option maxRecDepth 100000 in
theorem c_X2_file (l : Launch) (hl0 : l.stackTraces = false) (D : va_G) (K : Nat → ClassId) (sz : Nat) (ad : Nat → Nat → Nat) (n d : Nat) (S : Nat → Nat → Nat → Int32) (p0 p1 : Int32) (hDJ : DJ ad n d) : XMet l yX2_file wsX2_file 6 136 D K [.ref (ad 0 0), .int p0, .int p1] sz (XA ad sz) (fun H => XP D K ad n d S H) ((sp_X2_file n d S p0 p1).2.1) ((sp_X2_file n d S p0 p1).1) (fun H => ∃ ad2, XP D K ad2 n (d + 1) ((sp_X2_file n d S p0 p1).2.2) H ∧ DJ ad2 n (d + 1) ∧ ∀ k i, ad2 k i = ad k i ∨ 4 ≤ k ∧ sz ≤ ad2 k i) "java/lang/IllegalArgumentException" "java/lang/IllegalStateException" "" := by
  refine vx_ofW (cc := cX2_file) (maxL := 6) (ret := (some .int)) (by decide) rfl ?_
  intro p e s m args below meth c s₁ B hml hnox hv
  obtain ⟨rfl, hsz, hZ, hX, hP, hK, hE⟩ := hv
  have hx := B.exec
  have hb := B.bytes
  have hr := B.returns
  have hts := atoms_spec (ws := wsX2_file) B.pre
  have hown : s.vm.findClass RX2 = some m.cls := findClass_of_methodNamed B.named
  have hlocks := B.notSynchronized
  have hc : CallFix p m c cX2_file 6 s ([.ref (ad 0 0), .int p0, .int p1] : List Value).toArray wsX2_file RX2 := ⟨hx, hb, hml, hown, hts⟩
  subst hsz
  have hXP := hP
  obtain ⟨hn, hd, hP, hT, hF⟩ := hP
  have hP : va_P D vwCl (xW K ad n d S) s.heap := hP
  have hS0 : va_S (XA ad s.heap.size) s.heap s.heap [] := va_S.rf
  have hin0 : ∀ w ∈ u_ws RX0 TX0 8, w ∈ wsX2_file := by decide +kernel
  have hin2 : ∀ w ∈ u_ws RX2 TX2 6, w ∈ wsX2_file := by decide +kernel
  have hD := (X_apart hDJ (ids := xWi) (ws := xW K ad n d S) rfl xWl xWn).self (sz := s.heap.size)
  generalize hAe : va_A (xW K ad n d S) s.heap.size = A at hD
  have hS : va_S A s.heap s.heap [] := va_S.rf
  have hA : ∀ q : Nat, s.heap.size ≤ q → A q := fun q h => by rw [← hAe]; exact Or.inr h
  have hl := lv_entry ([.ref (ad 0 0), .int p0, .int p1]) (n := 6) (Nat.le_of_ble_eq_true rfl)
  rw [lg_entry_eq]
  generalize (lg_sl ([.ref (ad 0 0), .int p0, .int p1]) ++ List.replicate (6 - (lg_sl ([.ref (ad 0 0), .int p0, .int p1])).length) Slot.unset).toArray = ls at hl ⊢
  have hl : lv_has ls 6 [(0, .ref (ad 0 0)), (1, .int p0), (2, .int p1)] := hl
  refine lv_iload_n hx hb dX2_file_0 rfl (lv_at hl 1 rfl) ?_
  refine lv_iload_n hx hb dX2_file_1 rfl (lv_at hl 2 rfl) ?_
  refine pu_S (As := [.int p0, .int p1]) (rest := []) hc (c_X2_isPair l D K p0 p1) (va_cwS 2 hts gX2_file_X2_isPair rfl rfl rfl (by decide +kernel) ⟨Nat.le_of_ble_eq_true rfl, Nat.le_of_ble_eq_true rfl⟩) trivial hK hE rfl rfl hl.1 (Nat.le_of_ble_eq_true rfl) dX2_file_2 ⟨Nat.le_of_ble_eq_true rfl, Nat.le_of_ble_eq_true rfl⟩ ?_
  refine lb_ne (tgt := 18) hx hb dX2_file_5 (by decide) (fun c_5 => ?_) (fun c_5 => ?_)
  · skip
    refine lv_aload_n hx hb dX2_file_18 rfl (lv_at hl 0 rfl) ?_
    refine va_get (D := D) (ci := 2) (v := .int (nI d)) (C := RX2) (T := TX2) (N := 6) hx hb hts hin2 hown hK hP 0 rfl rfl 3 (by decide) (hts (.fieldLink RX2 25 "CartelWatch" "dossierCount" "I") (by decide +kernel)) (fun _ h9 => h9) rfl dX2_file_19 ?_
    refine lv_istore_n (lv' := [(3, .int (nI d)), (0, .ref (ad 0 0)), (1, .int p0), (2, .int p1)]) hx hb dX2_file_22 rfl hl (by decide) rfl (fun ls hl => ?_)
    refine lv_iload_n hx hb dX2_file_23 rfl (lv_at hl 0 rfl) ?_
    refine lv_if_lt (tgt := 58) hx hb dX2_file_24 (by decide) (fun c_24 => ?_) (fun c_24 => ?_)
    · skip
      exact absurd c_24 (nI_pos (by omega))
    · skip
      refine lv_iload_n hx hb dX2_file_27 rfl (lv_at hl 0 rfl) ?_
      refine lv_aload_n hx hb dX2_file_28 rfl (lv_at hl 1 rfl) ?_
      refine va_get (D := D) (ci := 2) (v := .ref (ad 2 0)) (C := RX2) (T := TX2) (N := 6) hx hb hts hin2 hown hK hP 0 rfl rfl 2 (by decide) (hts (.fieldLink RX2 21 "CartelWatch" "dossiers" "[LCartelWatch$Dossier;") (by decide +kernel)) (fun _ h9 => h9) rfl dX2_file_29 ?_
      refine W.eq (g2 := F0 m 32 ls [.ref (ad 2 0), .int (nI d)]) rfl ?_
      refine va_alen (v := 20) hx hb hK hP 2 2 rfl rfl rfl dX2_file_32 ?_
      refine lv_icmp_ge (tgt := 58) hx hb dX2_file_33 (by decide) (fun c_33 => ?_) (fun c_33 => ?_)
      · skip
        have hsp : sp_X2_file n d S p0 p1 = ((2, 0, S) : Int32 × Int32 × (Nat → Nat → Nat → Int32)) := Eq.trans (if_pos c_5) (Eq.trans (if_pos c_33) (rfl))
        obtain ⟨sa_58, hstr_58⟩ := hX.1 (139, "suspicion is below the mark, or no file is left for the pair") (by decide)
        exact vx_throwS (own := RX2) (cls := "java/lang/IllegalStateException") (text := "suspicion is below the mark, or no file is left for the pair") (names := ["java/lang/RuntimeException", "java/lang/Exception"]) (ik := 35) (is := 139) (ic := 39) hx hb hl0 hown x_fit39 x_fits (hts (.classLink RX2 35 "java/lang/IllegalStateException") (by decide +kernel)) (hts (.initialized "java/lang/IllegalStateException") (by decide +kernel)) hstr_58 (x_hat39 (fun w h => hts w (List.mem_cons_of_mem _ (List.mem_append_right _ h))) hX) x_good39 hZ.1 hZ.2 hS0 (hl.1.trans hml.symm) dX2_file_58 dX2_file_61 dX2_file_62 dX2_file_64 dX2_file_67 (fun x h => (hnox x h).elim) (Nat.le_of_ble_eq_true rfl) (Nat.le_of_ble_eq_true rfl) (Nat.le_of_ble_eq_true rfl) (Nat.le_of_ble_eq_true rfl) hlocks (fun t hv hz hk => ⟨(), trivial, ⟨by rw [hsp]; exact Or.inr (Or.inl ⟨rfl, rfl⟩), hXP.kept hk⟩, ⟨hz, fun q h1 _ => hk q h1⟩⟩) hS0.2.2 (Nat.le_of_ble_eq_true rfl) (Nat.le_of_ble_eq_true rfl)
      · skip
        have hlt_33 : d < 20 := lp_in rfl c_33 hd (by decide)
        refine lv_aload_n hx hb dX2_file_36 rfl (lv_at hl 1 rfl) ?_
        refine lv_iload_n hx hb dX2_file_37 rfl (lv_at hl 2 rfl) ?_
        refine lv_iload_n hx hb dX2_file_38 rfl (lv_at hl 3 rfl) ?_
        refine pu_V (As := [.int p0, .int p1]) (rest := []) hc (c_X2_hasDossier l D K ad n d S p0 p1) (cwV 2 hts gX2_file_X2_hasDossier rfl rfl rfl (by decide +kernel) ⟨Nat.le_of_ble_eq_true rfl, Nat.le_of_ble_eq_true rfl⟩) hXP hK hE (va_recv hK hP (ci := 2) (q0 := 0) rfl rfl) rfl rfl hl.1 (Nat.le_of_ble_eq_true rfl) dX2_file_39 ⟨Nat.le_of_ble_eq_true rfl, Nat.le_of_ble_eq_true rfl⟩ ?_
        refine lb_ne (tgt := 58) hx hb dX2_file_42 (by decide) (fun c_42 => ?_) (fun c_42 => ?_)
        · skip
          have hsp : sp_X2_file n d S p0 p1 = ((2, 0, S) : Int32 × Int32 × (Nat → Nat → Nat → Int32)) := Eq.trans (if_pos c_5) (Eq.trans (if_neg c_33) (Eq.trans (if_pos c_42) (rfl)))
          obtain ⟨sa_58, hstr_58⟩ := hX.1 (139, "suspicion is below the mark, or no file is left for the pair") (by decide)
          exact vx_throwS (own := RX2) (cls := "java/lang/IllegalStateException") (text := "suspicion is below the mark, or no file is left for the pair") (names := ["java/lang/RuntimeException", "java/lang/Exception"]) (ik := 35) (is := 139) (ic := 39) hx hb hl0 hown x_fit39 x_fits (hts (.classLink RX2 35 "java/lang/IllegalStateException") (by decide +kernel)) (hts (.initialized "java/lang/IllegalStateException") (by decide +kernel)) hstr_58 (x_hat39 (fun w h => hts w (List.mem_cons_of_mem _ (List.mem_append_right _ h))) hX) x_good39 hZ.1 hZ.2 hS0 (hl.1.trans hml.symm) dX2_file_58 dX2_file_61 dX2_file_62 dX2_file_64 dX2_file_67 (fun x h => (hnox x h).elim) (Nat.le_of_ble_eq_true rfl) (Nat.le_of_ble_eq_true rfl) (Nat.le_of_ble_eq_true rfl) (Nat.le_of_ble_eq_true rfl) hlocks (fun t hv hz hk => ⟨(), trivial, ⟨by rw [hsp]; exact Or.inr (Or.inl ⟨rfl, rfl⟩), hXP.kept hk⟩, ⟨hz, fun q h1 _ => hk q h1⟩⟩) hS0.2.2 (Nat.le_of_ble_eq_true rfl) (Nat.le_of_ble_eq_true rfl)
        · skip
          refine lv_aload_n hx hb dX2_file_45 rfl (lv_at hl 1 rfl) ?_
          refine W.eq (g2 := F0 m 46 ls [.ref (ad 0 0)]) rfl ?_
          refine lv_iload_n hx hb dX2_file_46 rfl (lv_at hl 2 rfl) ?_
          refine lv_iload_n hx hb dX2_file_47 rfl (lv_at hl 3 rfl) ?_
          refine pu_V (As := [.int p0, .int p1]) (rest := []) hc (c_X2_suspicionOf l D K ad n d S p0 p1) (cwV 2 hts gX2_file_X2_suspicionOf rfl rfl rfl (by decide +kernel) ⟨Nat.le_of_ble_eq_true rfl, Nat.le_of_ble_eq_true rfl⟩) hXP hK hE (va_recv hK hP (ci := 2) (q0 := 0) rfl rfl) rfl rfl hl.1 (Nat.le_of_ble_eq_true rfl) dX2_file_48 ⟨Nat.le_of_ble_eq_true rfl, Nat.le_of_ble_eq_true rfl⟩ ?_
          refine lv_aload_n hx hb dX2_file_51 rfl (lv_at hl 1 rfl) ?_
          refine va_get (D := D) (ci := 2) (v := .int (S 16 0 0)) (C := RX2) (T := TX2) (N := 6) hx hb hts hin2 hown hK hP 0 rfl rfl 5 (by decide) (hts (.fieldLink RX2 32 "CartelWatch" "leastSuspicionForFile" "I") (by decide +kernel)) (fun _ h9 => h9) rfl dX2_file_52 ?_
          refine lv_icmp_ge (tgt := 68) hx hb dX2_file_55 (by decide) (fun c_55 => ?_) (fun c_55 => ?_)
          · skip
            refine va_new (ci := 0) (fs := [.int 0, .int 0, .null, .null, .null, .int 0, .int 0, .int 0]) (C := RX0) (T := TX0) (N := 8) hx hb hts hin0 tyX0 tyX0_ok hown (hts (.classLink RX2 19 RX0) (by decide +kernel)) (hts (.instantiable RX0 8) (by decide +kernel)) (hts (.initialized RX0) (by decide +kernel)) hK hP hD hS hA rfl (fun j hj => by rcases (show j = 0 ∨ j = 1 ∨ j = 2 ∨ j = 3 ∨ j = 4 ∨ j = 5 ∨ j = 6 ∨ j = 7 by omega) with rfl | rfl | rfl | rfl | rfl | rfl | rfl | rfl <;> rfl) (Nat.le_of_ble_eq_true rfl) (Nat.le_of_ble_eq_true rfl) dX2_file_68 (fun q68 H hP hD hS => ?_)
            have hP : va_P D vwCl [(ad 0 0, .inr (2, [.ref (ad 1 0), .int (nI n), .ref (ad 2 0), .int (nI d), .ref (ad 3 0), .int (S 16 0 0)])), (ad 1 0, .inl (K 3, 30, .inr (.inr (.inr (.inr (tArr ad n)))))), (ad 2 0, .inl (K 2, 20, .inr (.inr (.inr (.inr (dArr ad d)))))), (ad 3 0, .inl (K 0, 7, .inl (S 15 0))), (q68, .inr (0, [.int 0, .int 0, .null, .null, .null, .int 0, .int 0, .int 0]))] H := hP
            have hD : va_D A [(ad 0 0, .inr (2, [.ref (ad 1 0), .int (nI n), .ref (ad 2 0), .int (nI d), .ref (ad 3 0), .int (S 16 0 0)])), (ad 1 0, .inl (K 3, 30, .inr (.inr (.inr (.inr (tArr ad n)))))), (ad 2 0, .inl (K 2, 20, .inr (.inr (.inr (.inr (dArr ad d)))))), (ad 3 0, .inl (K 0, 7, .inl (S 15 0))), (q68, .inr (0, [.int 0, .int 0, .null, .null, .null, .int 0, .int 0, .int 0]))] := hD
            refine lv_dup hx hb dX2_file_71 rfl ?_
            refine lv_iload_n hx hb dX2_file_72 rfl (lv_at hl 2 rfl) ?_
            refine lv_iload_n hx hb dX2_file_73 rfl (lv_at hl 3 rfl) ?_
            have hPc := hP.sub (ws' := [(q68, .inr (0, [.int 0, .int 0, .null, .null, .null, .int 0, .int 0, .int 0]))]) [4] rfl
            have hDc := hD.sub (ws' := [(q68, .inr (0, [.int 0, .int 0, .null, .null, .null, .int 0, .int 0, .int 0]))]) [4] (by decide) rfl
            have hFc := va_free (wc := [(q68, .inr (0, [.int 0, .int 0, .null, .null, .null, .int 0, .int 0, .int 0]))]) hD hS hA [4] rfl
            refine va_callv (va_runI (As := [.int p0, .int p1]) (rest := [.ref q68]) hc (c_X0_init l D K H.size q68 p0 p1) (cwI 2 hts gX2_file_X0_init rfl rfl rfl (hts (.initialized RX0) (by decide +kernel)) (hts (.methodLink RX2 141 yX0_init) (by decide +kernel)) (hts (.instanceMethod yX0_init) (by decide +kernel)) rfl (by decide +kernel) ⟨Nat.le_of_ble_eq_true rfl, Nat.le_of_ble_eq_true rfl⟩) ⟨EF_blind, EF_at hPc (hDc.weaken (fun _ _ _ _ => trivial)) hK hE⟩ rfl rfl hl.1 rfl (lv_room (Nat.le_of_ble_eq_true rfl)) dX2_file_74 ⟨(Nat.le_of_ble_eq_true rfl), (Nat.le_of_ble_eq_true rfl)⟩) hS (fun q _ h => hFc q h) hFc (fun u t H1 locs ht hvm hw hB hz1 hk1 hS => ?_)
            obtain ⟨q7, q15, q23, hP1, hD1⟩ := hB
            rw [ht] at hP1
            obtain ⟨hP, hD⟩ := va_join (wr := [(ad 0 0, .inr (2, [.ref (ad 1 0), .int (nI n), .ref (ad 2 0), .int (nI d), .ref (ad 3 0), .int (S 16 0 0)])), (ad 1 0, .inl (K 3, 30, .inr (.inr (.inr (.inr (tArr ad n)))))), (ad 2 0, .inl (K 2, 20, .inr (.inr (.inr (.inr (dArr ad d)))))), (ad 3 0, .inl (K 0, 7, .inl (S 15 0)))]) (w1 := [(q68, .inr (0, [.int p0, .int p1, .ref q7, .ref q15, .ref q23, .int 0, .int (-1), .int 0])), (q7, .inl (K 1, 30, .inl (fun _ => 0))), (q15, .inl (K 0, 7, .inl (fun _ => 0))), (q23, .inl (K 0, 7, .inl (fun _ => 0)))]) hP hD [4] [0, 1, 2, 3] rfl rfl (by decide) (by decide) hk1 hFc hP1 hD1
            generalize H1 = H at hP hS ⊢
            have hP : va_P D vwCl [(ad 0 0, .inr (2, [.ref (ad 1 0), .int (nI n), .ref (ad 2 0), .int (nI d), .ref (ad 3 0), .int (S 16 0 0)])), (ad 1 0, .inl (K 3, 30, .inr (.inr (.inr (.inr (tArr ad n)))))), (ad 2 0, .inl (K 2, 20, .inr (.inr (.inr (.inr (dArr ad d)))))), (ad 3 0, .inl (K 0, 7, .inl (S 15 0))), (q68, .inr (0, [.int p0, .int p1, .ref q7, .ref q15, .ref q23, .int 0, .int (-1), .int 0])), (q7, .inl (K 1, 30, .inl (fun _ => 0))), (q15, .inl (K 0, 7, .inl (fun _ => 0))), (q23, .inl (K 0, 7, .inl (fun _ => 0)))] H := hP
            have hD : va_D A [(ad 0 0, .inr (2, [.ref (ad 1 0), .int (nI n), .ref (ad 2 0), .int (nI d), .ref (ad 3 0), .int (S 16 0 0)])), (ad 1 0, .inl (K 3, 30, .inr (.inr (.inr (.inr (tArr ad n)))))), (ad 2 0, .inl (K 2, 20, .inr (.inr (.inr (.inr (dArr ad d)))))), (ad 3 0, .inl (K 0, 7, .inl (S 15 0))), (q68, .inr (0, [.int p0, .int p1, .ref q7, .ref q15, .ref q23, .int 0, .int (-1), .int 0])), (q7, .inl (K 1, 30, .inl (fun _ => 0))), (q15, .inl (K 0, 7, .inl (fun _ => 0))), (q23, .inl (K 0, 7, .inl (fun _ => 0)))] := hD
            refine W.widen (k := 4) (n := 60) (Nat.le_of_ble_eq_true rfl) (Nat.le_of_ble_eq_true rfl) ?_
            refine lv_astore (lv' := [(4, .ref q68), (3, .int (nI d)), (0, .ref (ad 0 0)), (1, .int p0), (2, .int p1)]) hx hb dX2_file_77 hl (by decide) rfl (fun ls hl => ?_)
            refine lv_iconst (v := 0) hx hb dX2_file_79 (by decide) ?_
            refine lv_istore (lv' := [(5, .int 0), (4, .ref q68), (3, .int (nI d)), (0, .ref (ad 0 0)), (1, .int p0), (2, .int p1)]) hx hb dX2_file_80 hl (by decide) rfl (fun ls hl => ?_)
            have hloop_82 : ∀ (n82 k : Nat), k ≤ 30 → 30 + 1 ≤ k + n82 → ∀ (H : Heap) (locs : List Loc) (un : Nat → Int32) (mc x82 : Int32) (ls : Array Slot), un = sp_X2_file_U n S p0 p1 k → mc = sp_X2_file_C n S p0 p1 k → x82 = nI k → va_P D vwCl [(ad 0 0, .inr (2, [.ref (ad 1 0), .int (nI n), .ref (ad 2 0), .int (nI d), .ref (ad 3 0), .int (S 16 0 0)])), (ad 1 0, .inl (K 3, 30, .inr (.inr (.inr (.inr (tArr ad n)))))), (ad 2 0, .inl (K 2, 20, .inr (.inr (.inr (.inr (dArr ad d)))))), (ad 3 0, .inl (K 0, 7, .inl (S 15 0))), (q68, .inr (0, [.int p0, .int p1, .ref q7, .ref q15, .ref q23, .int mc, .int (-1), .int 0])), (q7, .inl (K 1, 30, .inl un)), (q15, .inl (K 0, 7, .inl (fun _ => 0))), (q23, .inl (K 0, 7, .inl (fun _ => 0)))] H → va_D A [(ad 0 0, .inr (2, [.ref (ad 1 0), .int (nI n), .ref (ad 2 0), .int (nI d), .ref (ad 3 0), .int (S 16 0 0)])), (ad 1 0, .inl (K 3, 30, .inr (.inr (.inr (.inr (tArr ad n)))))), (ad 2 0, .inl (K 2, 20, .inr (.inr (.inr (.inr (dArr ad d)))))), (ad 3 0, .inl (K 0, 7, .inl (S 15 0))), (q68, .inr (0, [.int p0, .int p1, .ref q7, .ref q15, .ref q23, .int mc, .int (-1), .int 0])), (q7, .inl (K 1, 30, .inl un)), (q15, .inl (K 0, 7, .inl (fun _ => 0))), (q23, .inl (K 0, 7, .inl (fun _ => 0)))] → va_S A s.heap H locs → lv_has ls 6 [(0, .ref (ad 0 0)), (1, .int p0), (2, .int p1), (3, .int (nI d)), (4, .ref q68), (5, .int x82)] → W p l e ({ frames := 6, cells := 4, slots := 60, locals := 136 } : Room) s m ([.ref (ad 0 0), .int p0, .int p1] : List Value).toArray below meth c H locs 4 60 (vx_MQ below (XQc ((sp_X2_file n d S p0 p1).2.1) ((sp_X2_file n d S p0 p1).1) (fun H => ∃ ad2, XP D K ad2 n (d + 1) ((sp_X2_file n d S p0 p1).2.2) H ∧ DJ ad2 n (d + 1) ∧ ∀ k i, ad2 k i = ad k i ∨ 4 ≤ k ∧ s.heap.size ≤ ad2 k i) (XA ad s.heap.size)) (XXc "java/lang/IllegalArgumentException" "java/lang/IllegalStateException" "" ((sp_X2_file n d S p0 p1).1) (fun H => XP D K ad n d S H) (XA ad s.heap.size)) ([.ref (ad 0 0), .int p0, .int p1] : List Value).toArray s 4 60 (XA ad s.heap.size)) (F0 m 82 ls []) := by
              intro n82
              induction n82 with
              | zero => intro k h1 h2; exact absurd h2 (by omega)
              | succ n82 ih_82 =>
                intro k hk_82 hn_82 H locs un mc x82 ls eun emc ex82 hP hD hS hl
                subst ex82
                have hXP1 := XP_over hDJ hXP (fun q h1 h2 => hS.2.1 q h1 (by rw [← hAe]; exact h2)) (hP.sub (ws' := xW K ad n d S) [0, 1, 2, 3] rfl)
                refine W.eq (g2 := F0 m 82 ls []) rfl ?_
                refine lv_iload hx hb dX2_file_82 (lv_at hl 5 rfl) ?_
                refine lv_aload_n hx hb dX2_file_84 rfl (lv_at hl 0 rfl) ?_
                refine va_get (D := D) (ci := 2) (v := .ref (ad 1 0)) (C := RX2) (T := TX2) (N := 6) hx hb hts hin2 hown hK hP 0 rfl rfl 0 (by decide) (hts (.fieldLink RX2 11 "CartelWatch" "tenders" "[LCartelWatch$Tender;") (by decide +kernel)) (fun _ h9 => h9) rfl dX2_file_85 ?_
                refine va_alen (v := 30) hx hb hK hP 1 3 rfl rfl rfl dX2_file_88 ?_
                refine lv_icmp_ge (tgt := 116) hx hb dX2_file_89 (by decide) (fun c_89 => ?_) (fun c_89 => ?_)
                · skip
                  have hke_82 : 30 = k := (lp_end rfl c_89 hk_82 (by decide)).symm
                  subst hke_82
                  subst eun
                  subst emc
                  refine lv_aload_n hx hb dX2_file_116 rfl (lv_at hl 0 rfl) ?_
                  refine va_get (D := D) (ci := 2) (v := .ref (ad 2 0)) (C := RX2) (T := TX2) (N := 6) hx hb hts hin2 hown hK hP 0 rfl rfl 2 (by decide) (hts (.fieldLink RX2 21 "CartelWatch" "dossiers" "[LCartelWatch$Dossier;") (by decide +kernel)) (fun _ h9 => h9) rfl dX2_file_117 ?_
                  refine lv_iload_n hx hb dX2_file_120 rfl (lv_at hl 3 rfl) ?_
                  refine lv_aload hx hb dX2_file_121 (lv_at hl 4 rfl) ?_
                  refine va_astq hx hb hK hP hD hS 2 2 4 0 (cA := K 2) (r := (RX0, TX0, 8)) rfl rfl rfl rfl (vp_in_nI hlt_33 (by decide)) dX2_file_123 (fun H locs hP hD hS => ?_)
                  have hP : va_P D vwCl [(ad 0 0, .inr (2, [.ref (ad 1 0), .int (nI n), .ref (ad 2 0), .int (nI d), .ref (ad 3 0), .int (S 16 0 0)])), (ad 1 0, .inl (K 3, 30, .inr (.inr (.inr (.inr (tArr ad n)))))), (ad 2 0, .inl (K 2, 20, .inr (.inr (.inr (.inr (va_up (dArr ad d) ((nI d).toNatClampNeg) (some q68))))))), (ad 3 0, .inl (K 0, 7, .inl (S 15 0))), (q68, .inr (0, [.int p0, .int p1, .ref q7, .ref q15, .ref q23, .int (sp_X2_file_C n S p0 p1 30), .int (-1), .int 0])), (q7, .inl (K 1, 30, .inl (sp_X2_file_U n S p0 p1 30))), (q15, .inl (K 0, 7, .inl (fun _ => 0))), (q23, .inl (K 0, 7, .inl (fun _ => 0)))] H := hP
                  have hD : va_D A [(ad 0 0, .inr (2, [.ref (ad 1 0), .int (nI n), .ref (ad 2 0), .int (nI d), .ref (ad 3 0), .int (S 16 0 0)])), (ad 1 0, .inl (K 3, 30, .inr (.inr (.inr (.inr (tArr ad n)))))), (ad 2 0, .inl (K 2, 20, .inr (.inr (.inr (.inr (va_up (dArr ad d) ((nI d).toNatClampNeg) (some q68))))))), (ad 3 0, .inl (K 0, 7, .inl (S 15 0))), (q68, .inr (0, [.int p0, .int p1, .ref q7, .ref q15, .ref q23, .int (sp_X2_file_C n S p0 p1 30), .int (-1), .int 0])), (q7, .inl (K 1, 30, .inl (sp_X2_file_U n S p0 p1 30))), (q15, .inl (K 0, 7, .inl (fun _ => 0))), (q23, .inl (K 0, 7, .inl (fun _ => 0)))] := hD
                  refine lv_aload_n hx hb dX2_file_124 rfl (lv_at hl 0 rfl) ?_
                  refine lv_iload_n hx hb dX2_file_125 rfl (lv_at hl 3 rfl) ?_
                  refine lv_iconst (v := 1) hx hb dX2_file_126 (by decide) ?_
                  refine W.eq (g2 := F0 m 127 ls [.int 1, .int (nI d), .ref (ad 0 0)]) rfl ?_
                  refine lv_iadd hx hb dX2_file_127 ?_
                  refine va_put (D := D) (ci := 2) (v := .int ((nI d) + 1)) (ty := .int) (C := RX2) (T := TX2) (N := 6) hx hb hts hin2 tyX2 tyX2_ok nmX2 hown hK hP hD hS 0 rfl rfl 3 (by decide) (hts (.fieldLink RX2 25 "CartelWatch" "dossierCount" "I") (by decide +kernel)) (fun _ h9 => h9) rfl (by decide +kernel) rfl rfl (Nat.le_of_ble_eq_true rfl) dX2_file_128 (fun H locs hP hD hS => ?_)
                  have hP : va_P D vwCl [(ad 0 0, .inr (2, [.ref (ad 1 0), .int (nI n), .ref (ad 2 0), .int ((nI d) + 1), .ref (ad 3 0), .int (S 16 0 0)])), (ad 1 0, .inl (K 3, 30, .inr (.inr (.inr (.inr (tArr ad n)))))), (ad 2 0, .inl (K 2, 20, .inr (.inr (.inr (.inr (va_up (dArr ad d) ((nI d).toNatClampNeg) (some q68))))))), (ad 3 0, .inl (K 0, 7, .inl (S 15 0))), (q68, .inr (0, [.int p0, .int p1, .ref q7, .ref q15, .ref q23, .int (sp_X2_file_C n S p0 p1 30), .int (-1), .int 0])), (q7, .inl (K 1, 30, .inl (sp_X2_file_U n S p0 p1 30))), (q15, .inl (K 0, 7, .inl (fun _ => 0))), (q23, .inl (K 0, 7, .inl (fun _ => 0)))] H := hP
                  have hD : va_D A [(ad 0 0, .inr (2, [.ref (ad 1 0), .int (nI n), .ref (ad 2 0), .int ((nI d) + 1), .ref (ad 3 0), .int (S 16 0 0)])), (ad 1 0, .inl (K 3, 30, .inr (.inr (.inr (.inr (tArr ad n)))))), (ad 2 0, .inl (K 2, 20, .inr (.inr (.inr (.inr (va_up (dArr ad d) ((nI d).toNatClampNeg) (some q68))))))), (ad 3 0, .inl (K 0, 7, .inl (S 15 0))), (q68, .inr (0, [.int p0, .int p1, .ref q7, .ref q15, .ref q23, .int (sp_X2_file_C n S p0 p1 30), .int (-1), .int 0])), (q7, .inl (K 1, 30, .inl (sp_X2_file_U n S p0 p1 30))), (q15, .inl (K 0, 7, .inl (fun _ => 0))), (q23, .inl (K 0, 7, .inl (fun _ => 0)))] := hD
                  refine lv_iload_n hx hb dX2_file_131 rfl (lv_at hl 3 rfl) ?_
                  have hsp : sp_X2_file n d S p0 p1 = ((0, nI d, setD S d p0 p1 (sp_X2_file_U n S p0 p1 30) (fun _ => 0) (fun _ => 0) (sp_X2_file_C n S p0 p1 30) (-1) 0) : Int32 × Int32 × (Nat → Nat → Nat → Int32)) := Eq.trans (if_pos c_5) (Eq.trans (if_neg c_33) (Eq.trans (if_neg (ntr c_42)) (Eq.trans (if_pos c_55) (rfl))))
                  have hXe := XP_pushD (one := p0) (oth := p1) hlt_33 hDJ hXP (fun q h1 h2 => hS.2.1 q h1 (by rw [← hAe]; exact h2)) hP (by rw [hAe]; exact hD)
                  have hXe := (⟨_, hXe⟩ : ∃ ad2, XP D K ad2 n (d + 1) (setD S d p0 p1 (sp_X2_file_U n S p0 p1 30) (fun _ => 0) (fun _ => 0) (sp_X2_file_C n S p0 p1 30) (-1) 0) H ∧ DJ ad2 n (d + 1) ∧ ∀ k i, ad2 k i = ad k i ∨ 4 ≤ k ∧ s.heap.size ≤ ad2 k i)
                  have hSe : va_S (XA ad s.heap.size) s.heap H locs := hS.mono (fun q h => va_A_XA (ws := xW K ad n d S) (ids := xWi) rfl (Nat.le_refl _) q (by rw [hAe]; exact h))
                  refine vx_ret (W.widen (k := 4) (n := 60) (Nat.le_of_ble_eq_true rfl) (Nat.le_of_ble_eq_true rfl) ?_)
                  exact W.iret (v := nI d) hx hb hr (fun t ht hW => ⟨⟨_, (), rfl, ⟨by rw [hsp], by rw [hsp]⟩, by dsimp only; rw [ht, hsp]; exact hXe⟩, hSe.F ht⟩) hSe.2.2 dX2_file_132
                · skip
                  have hlt_82 : k < 30 := lp_in rfl c_89 hk_82 (by decide)
                  refine lv_aload_n hx hb dX2_file_92 rfl (lv_at hl 0 rfl) ?_
                  refine lv_iload hx hb dX2_file_93 (lv_at hl 5 rfl) ?_
                  refine lv_iload_n hx hb dX2_file_95 rfl (lv_at hl 1 rfl) ?_
                  refine W.eq (g2 := F0 m 96 ls [.int p0, .int (nI k), .ref (ad 0 0)]) rfl ?_
                  refine lv_iload_n hx hb dX2_file_96 rfl (lv_at hl 2 rfl) ?_
                  refine pu_V (As := [.int (nI k), .int p0, .int p1]) (rest := []) hc (c_X2_countOf l D K ad n d S (nI k) p0 p1) (cwV 3 hts gX2_file_X2_countOf rfl rfl rfl (by decide +kernel) ⟨Nat.le_of_ble_eq_true rfl, Nat.le_of_ble_eq_true rfl⟩) hXP1 hK hE (va_recv hK hP (ci := 2) (q0 := 0) rfl rfl) rfl rfl hl.1 (Nat.le_of_ble_eq_true rfl) dX2_file_97 ⟨Nat.le_of_ble_eq_true rfl, Nat.le_of_ble_eq_true rfl⟩ ?_
                  refine lv_if_le (tgt := 110) hx hb dX2_file_100 (by decide) (fun c_100 => ?_) (fun c_100 => ?_)
                  · skip
                    refine lv_iinc (v := (nI k) + 1) (lv' := [(5, .int ((nI k) + 1)), (0, .ref (ad 0 0)), (1, .int p0), (2, .int p1), (3, .int (nI d)), (4, .ref q68)]) hx hb dX2_file_110 hl (k := 5) rfl (rfl) (by decide) rfl (fun ls hl => ?_)
                    refine lv_goto (tgt := 82) hx hb dX2_file_113 (by decide) ?_
                    exact ih_82 (k + 1) hlt_82 (by omega) _ _ _ _ _ ls (by rw [eun]; exact Eq.symm (Eq.trans (if_pos c_100) (rfl))) (by rw [emc]; exact Eq.symm (Eq.trans (if_pos c_100) (rfl))) (nI_1 k) hP hD hS (lv_sub hl [1, 2, 3, 4, 5, 0] rfl)
                  · skip
                    refine lv_aload hx hb dX2_file_103 (lv_at hl 4 rfl) ?_
                    refine lv_iload hx hb dX2_file_105 (lv_at hl 5 rfl) ?_
                    have hPc := hP.sub (ws' := [(q68, .inr (0, [.int p0, .int p1, .ref q7, .ref q15, .ref q23, .int mc, .int (-1), .int 0])), (q7, .inl (K 1, 30, .inl un)), (q15, .inl (K 0, 7, .inl (fun _ => 0))), (q23, .inl (K 0, 7, .inl (fun _ => 0)))]) [4, 5, 6, 7] rfl
                    have hDc := hD.sub (ws' := [(q68, .inr (0, [.int p0, .int p1, .ref q7, .ref q15, .ref q23, .int mc, .int (-1), .int 0])), (q7, .inl (K 1, 30, .inl un)), (q15, .inl (K 0, 7, .inl (fun _ => 0))), (q23, .inl (K 0, 7, .inl (fun _ => 0)))]) [4, 5, 6, 7] (by decide) rfl
                    have hFc := va_free (wc := [(q68, .inr (0, [.int p0, .int p1, .ref q7, .ref q15, .ref q23, .int mc, .int (-1), .int 0])), (q7, .inl (K 1, 30, .inl un)), (q15, .inl (K 0, 7, .inl (fun _ => 0))), (q23, .inl (K 0, 7, .inl (fun _ => 0)))]) hD hS hA [4, 5, 6, 7] rfl
                    refine ef_Vv (As := [.int (nI k)]) (rest := []) hc (c_X0_addMatter l D K H.size q68 q7 q15 q23 p0 p1 un (fun _ => 0) (fun _ => 0) mc (-1) 0 (nI k) (vp_in_nI hlt_82 (by decide))) (cwV 1 hts gX2_file_X0_addMatter rfl rfl rfl (by decide +kernel) ⟨Nat.le_of_ble_eq_true rfl, Nat.le_of_ble_eq_true rfl⟩) hPc (hDc.weaken (fun _ _ _ _ => trivial)) hK hE (va_recv hK hPc (ci := 0) (q0 := 0) rfl rfl) rfl rfl hl.1 (Nat.le_of_ble_eq_true rfl) dX2_file_107 ⟨Nat.le_of_ble_eq_true rfl, Nat.le_of_ble_eq_true rfl⟩ hS hFc (fun H locs hP1 hD1 hz1 hk1 hS => ?_)
                    obtain ⟨hP, hD⟩ := va_join (wr := [(ad 0 0, .inr (2, [.ref (ad 1 0), .int (nI n), .ref (ad 2 0), .int (nI d), .ref (ad 3 0), .int (S 16 0 0)])), (ad 1 0, .inl (K 3, 30, .inr (.inr (.inr (.inr (tArr ad n)))))), (ad 2 0, .inl (K 2, 20, .inr (.inr (.inr (.inr (dArr ad d)))))), (ad 3 0, .inl (K 0, 7, .inl (S 15 0)))]) (w1 := [(q68, .inr (0, [.int p0, .int p1, .ref q7, .ref q15, .ref q23, .int (mc + 1), .int (-1), .int 0])), (q7, .inl (K 1, 30, .inl (upd un ((nI k).toNatClampNeg) 1))), (q15, .inl (K 0, 7, .inl (fun _ => 0))), (q23, .inl (K 0, 7, .inl (fun _ => 0)))]) hP hD [4, 5, 6, 7] [0, 1, 2, 3] rfl rfl (by decide) (by decide) hk1 hFc hP1 hD1
                    have hP : va_P D vwCl [(ad 0 0, .inr (2, [.ref (ad 1 0), .int (nI n), .ref (ad 2 0), .int (nI d), .ref (ad 3 0), .int (S 16 0 0)])), (ad 1 0, .inl (K 3, 30, .inr (.inr (.inr (.inr (tArr ad n)))))), (ad 2 0, .inl (K 2, 20, .inr (.inr (.inr (.inr (dArr ad d)))))), (ad 3 0, .inl (K 0, 7, .inl (S 15 0))), (q68, .inr (0, [.int p0, .int p1, .ref q7, .ref q15, .ref q23, .int (mc + 1), .int (-1), .int 0])), (q7, .inl (K 1, 30, .inl (upd un ((nI k).toNatClampNeg) 1))), (q15, .inl (K 0, 7, .inl (fun _ => 0))), (q23, .inl (K 0, 7, .inl (fun _ => 0)))] H := hP
                    have hD : va_D A [(ad 0 0, .inr (2, [.ref (ad 1 0), .int (nI n), .ref (ad 2 0), .int (nI d), .ref (ad 3 0), .int (S 16 0 0)])), (ad 1 0, .inl (K 3, 30, .inr (.inr (.inr (.inr (tArr ad n)))))), (ad 2 0, .inl (K 2, 20, .inr (.inr (.inr (.inr (dArr ad d)))))), (ad 3 0, .inl (K 0, 7, .inl (S 15 0))), (q68, .inr (0, [.int p0, .int p1, .ref q7, .ref q15, .ref q23, .int (mc + 1), .int (-1), .int 0])), (q7, .inl (K 1, 30, .inl (upd un ((nI k).toNatClampNeg) 1))), (q15, .inl (K 0, 7, .inl (fun _ => 0))), (q23, .inl (K 0, 7, .inl (fun _ => 0)))] := hD
                    refine lv_iinc (v := (nI k) + 1) (lv' := [(5, .int ((nI k) + 1)), (0, .ref (ad 0 0)), (1, .int p0), (2, .int p1), (3, .int (nI d)), (4, .ref q68)]) hx hb dX2_file_110 hl (k := 5) rfl (rfl) (by decide) rfl (fun ls hl => ?_)
                    refine lv_goto (tgt := 82) hx hb dX2_file_113 (by decide) ?_
                    exact ih_82 (k + 1) hlt_82 (by omega) _ _ _ _ _ ls (by rw [eun]; exact Eq.symm (Eq.trans (if_neg c_100) (rfl))) (by rw [emc]; exact Eq.symm (Eq.trans (if_neg c_100) (rfl))) (nI_1 k) hP hD hS (lv_sub hl [1, 2, 3, 4, 5, 0] rfl)
            exact hloop_82 (30 + 1) 0 (Nat.zero_le _) (by omega) H locs _ _ _ ls rfl rfl nI_0.symm hP hD hS (lv_sub hl [3, 4, 5, 2, 1, 0] rfl)
          · skip
            have hsp : sp_X2_file n d S p0 p1 = ((2, 0, S) : Int32 × Int32 × (Nat → Nat → Nat → Int32)) := Eq.trans (if_pos c_5) (Eq.trans (if_neg c_33) (Eq.trans (if_neg (ntr c_42)) (Eq.trans (if_neg c_55) (rfl))))
            obtain ⟨sa_58, hstr_58⟩ := hX.1 (139, "suspicion is below the mark, or no file is left for the pair") (by decide)
            exact vx_throwS (own := RX2) (cls := "java/lang/IllegalStateException") (text := "suspicion is below the mark, or no file is left for the pair") (names := ["java/lang/RuntimeException", "java/lang/Exception"]) (ik := 35) (is := 139) (ic := 39) hx hb hl0 hown x_fit39 x_fits (hts (.classLink RX2 35 "java/lang/IllegalStateException") (by decide +kernel)) (hts (.initialized "java/lang/IllegalStateException") (by decide +kernel)) hstr_58 (x_hat39 (fun w h => hts w (List.mem_cons_of_mem _ (List.mem_append_right _ h))) hX) x_good39 hZ.1 hZ.2 hS0 (hl.1.trans hml.symm) dX2_file_58 dX2_file_61 dX2_file_62 dX2_file_64 dX2_file_67 (fun x h => (hnox x h).elim) (Nat.le_of_ble_eq_true rfl) (Nat.le_of_ble_eq_true rfl) (Nat.le_of_ble_eq_true rfl) (Nat.le_of_ble_eq_true rfl) hlocks (fun t hv hz hk => ⟨(), trivial, ⟨by rw [hsp]; exact Or.inr (Or.inl ⟨rfl, rfl⟩), hXP.kept hk⟩, ⟨hz, fun q h1 _ => hk q h1⟩⟩) hS0.2.2 (Nat.le_of_ble_eq_true rfl) (Nat.le_of_ble_eq_true rfl)
  · skip
    have hsp : sp_X2_file n d S p0 p1 = ((1, 0, S) : Int32 × Int32 × (Nat → Nat → Nat → Int32)) := Eq.trans (if_neg (ntr c_5)) (rfl)
    obtain ⟨sa_8, hstr_8⟩ := hX.1 (124, "one or other is out of range, or both are the same") (by decide)
    exact vx_throwS (own := RX2) (cls := "java/lang/IllegalArgumentException") (text := "one or other is out of range, or both are the same") (names := ["java/lang/RuntimeException", "java/lang/Exception"]) (ik := 59) (is := 124) (ic := 63) hx hb hl0 hown x_fit63 x_fits (hts (.classLink RX2 59 "java/lang/IllegalArgumentException") (by decide +kernel)) (hts (.initialized "java/lang/IllegalArgumentException") (by decide +kernel)) hstr_8 (x_hat63 (fun w h => hts w (List.mem_cons_of_mem _ (List.mem_append_left _ (List.mem_append_right _ h)))) hX) x_good63 hZ.1 hZ.2 hS0 (hl.1.trans hml.symm) dX2_file_8 dX2_file_11 dX2_file_12 dX2_file_14 dX2_file_17 (fun x h => (hnox x h).elim) (Nat.le_of_ble_eq_true rfl) (Nat.le_of_ble_eq_true rfl) (Nat.le_of_ble_eq_true rfl) (Nat.le_of_ble_eq_true rfl) hlocks (fun t hv hz hk => ⟨(), trivial, ⟨by rw [hsp]; exact Or.inl ⟨rfl, rfl⟩, hXP.kept hk⟩, ⟨hz, fun q h1 _ => hk q h1⟩⟩) hS0.2.2 (Nat.le_of_ble_eq_true rfl) (Nat.le_of_ble_eq_true rfl)
