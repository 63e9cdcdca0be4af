/-! the law's body: a turn -/
abbrev lL (b x : Nat) (oa : Nat → Nat) (c0 : Nat) : List (Nat × Value) := [(0, .ref b), (1, .ref (x)), (2, .ref (oa 0)), (3, .ref (oa 1)), (4, .ref (oa 2)), (5, .ref (oa 3)), (6, .ref (oa 4)), (7, .ref (oa 5)), (8, .int (nI c0))]
def lKK (p : Program) (l : Launch) (e : Env) (s : State) (m : MethodId) (below : List Frame) (meth : Method) (c : Code) (Q : State → Prop) (b : Nat) (D : va_G) (K : Nat → ClassId) (oa : Nat → Nat) (c0 x cells slots : Nat) : Prop :=
  ∀ (H : Heap) (locs : List Loc) (ls : Array Slot) (ad : Nat → Nat → Nat) (n d : Nat) (S : Nat → Nat → Nat → Int32) (M : Nat → Nat → Int32), ad 0 0 = x → lI D K s ad oa n d S M (c0 + 1) H locs → lv_has ls 14 (lL b x oa c0) → W p l e room_1 s m #[Value.ref b] below meth c H locs cells slots Q (F0 m 373 ls [])
set_option maxHeartbeats 8000000 in
set_option maxRecDepth 100000 in
theorem lo_turn {p : Program} {e : Env} {s : State} {m : MethodId} {below : List Frame} {meth : Method} {c : Code} {H : Heap} {locs : List Loc} {cells slots : Nat} {Q : State → Prop} {b L c0 : Nat} {xs : Nat → Int32} {D : va_G} {K : Nat → ClassId} {ls : Array Slot} {ad : Nat → Nat → Nat} {oa : Nat → Nat} {n d : Nat} {S : Nat → Nat → Nat → Int32} {M : Nat → Nat → Int32} (l : Launch) (hl0 : l.stackTraces = false) (hx : p.tables.exec = Jvm.exec) (hb : c.code = cL_law) (hcw : CallFix p m c cL_law 14 s #[Value.ref b] wsL_law RL) (hLE : lE D K s) (hX : va_X b L xs s s.heap) (hbl : b < s.heap.size) (hL : L ≤ 260) (hc0 : c0 < 100) (hcs : cells + 4 ≤ 674069 ∧ slots + 60 ≤ 7079262) (I : lI D K s ad oa n d S M c0 H locs) (hl : lv_has ls 14 (lL b (ad 0 0) oa c0)) (kk : lKK p l e s m below meth c Q b D K oa c0 (ad 0 0) (cells + 4) (slots + 60)) : W p l e room_1 s m #[Value.ref b] below meth c H locs cells slots Q (F0 m 57 ls []) := by
  obtain ⟨⟨a1, a2⟩, ⟨hDJ, hsep, hOA⟩, R, ⟨hXP, hPm⟩, hS⟩ := I
  obtain ⟨hK, hE, -, -, -, -⟩ := id hLE
  have hts := hcw.2.2.2.2
  have hown := hcw.2.2.2.1
  have hcs0 : cells ≤ 674069 ∧ slots ≤ 7079262 := ⟨by omega, by omega⟩
  have hcs4 : cells + 4 ≤ 674069 ∧ slots + 60 ≤ 7079262 := hcs
  have hc := hcw
  have hn := R.n0
  have hd2 := R.d2
  have hP : va_P D vwCl [(oa 0, .inl (K 0, 7, .inl (M 0))), (oa 1, .inl (K 0, 32, .inl (M 1))), (oa 2, .inl (K 0, 32, .inl (M 2))), (oa 3, .inl (K 0, 8, .inl (M 3))), (oa 4, .inl (K 0, 48, .inl (M 4))), (oa 5, .inl (K 0, 12, .inl (M 5)))] H := hPm
  have hD : va_D (fun q => s.heap.size ≤ q) [(oa 0, .inl (K 0, 7, .inl (M 0))), (oa 1, .inl (K 0, 32, .inl (M 1))), (oa 2, .inl (K 0, 32, .inl (M 2))), (oa 3, .inl (K 0, 8, .inl (M 3))), (oa 4, .inl (K 0, 48, .inl (M 4))), (oa 5, .inl (K 0, 12, .inl (M 5)))] := aW_D (K := K) (M := M) hOA (fun j => (a2 j).1)
  have hl : lv_has ls 14 [(0, .ref b), (1, .ref (ad 0 0)), (2, .ref (oa 0)), (3, .ref (oa 1)), (4, .ref (oa 2)), (5, .ref (oa 3)), (6, .ref (oa 4)), (7, .ref (oa 5)), (8, .int (nI c0))] := hl
  refine lv_aload_n hx hb dL_law_57 rfl (lv_at hl 0 rfl) ?_
  refine lv_iload hx hb dL_law_58 (lv_at hl 8 rfl) ?_
  refine lc_cell hcw hX hbl hL hc0 hS hl.1 (va_cwS 2 hts gL_law_L_cell rfl rfl rfl (by decide +kernel) ⟨Nat.le_of_ble_eq_true rfl, Nat.le_of_ble_eq_true rfl⟩) hcs0 (fun v => ?_)
  refine lv_istore (lv' := [(9, .int v), (0, .ref b), (1, .ref (ad 0 0)), (2, .ref (oa 0)), (3, .ref (oa 1)), (4, .ref (oa 2)), (5, .ref (oa 3)), (6, .ref (oa 4)), (7, .ref (oa 5)), (8, .int (nI c0))]) hx hb dL_law_63 hl (by decide) rfl (fun ls hl => ?_)
  refine lv_iload hx hb dL_law_65 (lv_at hl 0 rfl) ?_
  refine lv_bipush (v := 20) hx hb dL_law_67 (by decide) ?_
  refine pu_S (As := [.int v, .int 20]) (rest := []) hc (c_L_low l D K v 20 (by decide)) (va_cwS 2 hts gL_law_L_low rfl rfl rfl (by decide +kernel) ⟨Nat.le_of_ble_eq_true rfl, Nat.le_of_ble_eq_true rfl⟩) trivial hK hE rfl rfl hl.1 (Nat.le_of_ble_eq_true rfl) dL_law_69 hcs0 ?_
  obtain ⟨a, ha20, ea⟩ : ∃ r, r < 20 ∧ sp_L_low v 20 = nI r := low_ex _ 20 (by decide) (by decide)
  refine W.eq (g2 := F0 m 72 ls [.int (nI a)]) (by rw [ea]) ?_
  clear ea
  refine lv_istore (lv' := [(10, .int (nI a)), (9, .int v), (0, .ref b), (1, .ref (ad 0 0)), (2, .ref (oa 0)), (3, .ref (oa 1)), (4, .ref (oa 2)), (5, .ref (oa 3)), (6, .ref (oa 4)), (7, .ref (oa 5)), (8, .int (nI c0))]) hx hb dL_law_72 hl (by decide) rfl (fun ls hl => ?_)
  refine W.eq (g2 := F0 m 74 ls []) rfl ?_
  refine lv_iconst (v := 1) hx hb dL_law_74 (by decide) ?_
  refine lv_istore (lv' := [(11, .int 1), (10, .int (nI a)), (9, .int v), (0, .ref b), (1, .ref (ad 0 0)), (2, .ref (oa 0)), (3, .ref (oa 1)), (4, .ref (oa 2)), (5, .ref (oa 3)), (6, .ref (oa 4)), (7, .ref (oa 5)), (8, .int (nI c0))]) hx hb dL_law_75 hl (by decide) rfl (fun ls hl => ?_)
  refine lv_aload_n hx hb dL_law_77 rfl (lv_at hl 5 rfl) ?_
  refine lv_iconst (v := 0) hx hb dL_law_78 (by decide) ?_
  refine va_iald hx hb hK hP 0 0 (cA := K 0) rfl rfl ((show vp_in 0 7 from vp_in_nI (n := 0) (by decide) (by decide))) dL_law_79 ?_
  refine W.eq (g2 := F0 m 80 ls [.int (M 0 0)]) rfl ?_
  refine lv_if_eq (tgt := 96) hx hb dL_law_80 (by decide) (fun c_80 => ?_) (fun c_80 => ?_)
  · skip
    have hn9 : n < 8 := law_n0 R c_80
    refine lv_aload_n hx hb dL_law_96 rfl (lv_at hl 6 rfl) ?_
    refine lv_iconst (v := 4) hx hb dL_law_97 (by decide) ?_
    refine lv_aload_n hx hb dL_law_98 rfl (lv_at hl 5 rfl) ?_
    refine lv_iconst (v := 0) hx hb dL_law_99 (by decide) ?_
    refine va_iald hx hb hK hP 0 0 (cA := K 0) rfl rfl ((show vp_in 0 7 from vp_in_nI (n := 0) (by decide) (by decide))) dL_law_100 ?_
    refine W.eq (g2 := F0 m 101 ls [.int (M 0 0), .int 4, .ref (oa 1)]) rfl ?_
    refine lv_imul hx hb dL_law_101 ?_
    refine lv_iconst (v := 2) hx hb dL_law_102 (by decide) ?_
    refine lv_iadd hx hb dL_law_103 ?_
    refine W.eq (g2 := F0 m 104 ls [.int ((4 * (M 0 0)) + 2), .ref (oa 1)]) rfl ?_
    refine lv_iconst (v := -1) hx hb dL_law_104 (by decide) ?_
    refine vo_iast hx hb hK hP hD hS 1 (n := 32) (f := (M 1)) rfl (by rw [hn]; exact i4 (vp_in_nI hn9 (by decide)) (vp_in_nI (n := 2) (by decide) (by decide))) dL_law_105 (fun H locs hP hD hS oq => ?_)
    have hP : va_P D vwCl [(oa 0, .inl (K 0, 7, .inl (M 0))), (oa 1, .inl (K 0, 32, .inl (upd (M 1) (((4 * (M 0 0)) + 2).toNatClampNeg) (-1)))), (oa 2, .inl (K 0, 32, .inl (M 2))), (oa 3, .inl (K 0, 8, .inl (M 3))), (oa 4, .inl (K 0, 48, .inl (M 4))), (oa 5, .inl (K 0, 12, .inl (M 5)))] H := hP
    have hD : va_D (fun q => s.heap.size ≤ q) [(oa 0, .inl (K 0, 7, .inl (M 0))), (oa 1, .inl (K 0, 32, .inl (upd (M 1) (((4 * (M 0 0)) + 2).toNatClampNeg) (-1)))), (oa 2, .inl (K 0, 32, .inl (M 2))), (oa 3, .inl (K 0, 8, .inl (M 3))), (oa 4, .inl (K 0, 48, .inl (M 4))), (oa 5, .inl (K 0, 12, .inl (M 5)))] := hD
    have hXP := XP_off (fun k9 i9 => hsep k9 i9 1) hXP oq
    have hPm := (fun (f1 : Nat → Int32) (h : va_P D vwCl [(oa 0, .inl (K 0, 7, .inl (M 0))), (oa 1, .inl (K 0, 32, .inl f1)), (oa 2, .inl (K 0, 32, .inl (M 2))), (oa 3, .inl (K 0, 8, .inl (M 3))), (oa 4, .inl (K 0, 48, .inl (M 4))), (oa 5, .inl (K 0, 12, .inl (M 5)))] H) => (show va_P D vwCl (aW K oa (um M 1 f1)) H from h)) (upd (M 1) (((4 * (M 0 0)) + 2).toNatClampNeg) (-1)) hP
    refine lv_aload_n hx hb dL_law_106 rfl (lv_at hl 5 rfl) ?_
    refine lv_iconst (v := 0) hx hb dL_law_107 (by decide) ?_
    refine lv_dup2_11 hx hb dL_law_108 rfl rfl ?_
    refine va_iald hx hb hK hP 0 0 (cA := K 0) rfl rfl ((show vp_in 0 7 from vp_in_nI (n := 0) (by decide) (by decide))) dL_law_109 ?_
    refine W.eq (g2 := F0 m 110 ls [.int (M 0 0), .int 0, .ref (oa 0)]) rfl ?_
    refine lv_iconst (v := 1) hx hb dL_law_110 (by decide) ?_
    refine lv_iadd hx hb dL_law_111 ?_
    refine W.eq (g2 := F0 m 112 ls [.int ((M 0 0) + 1), .int 0, .ref (oa 0)]) rfl ?_
    refine vo_iast hx hb hK hP hD hS 0 (n := 7) (f := (M 0)) rfl ((show vp_in 0 7 from vp_in_nI (n := 0) (by decide) (by decide))) dL_law_112 (fun H locs hP hD hS oq => ?_)
    have hP : va_P D vwCl [(oa 0, .inl (K 0, 7, .inl (upd (M 0) 0 ((M 0 0) + 1)))), (oa 1, .inl (K 0, 32, .inl (upd (M 1) (((4 * (M 0 0)) + 2).toNatClampNeg) (-1)))), (oa 2, .inl (K 0, 32, .inl (M 2))), (oa 3, .inl (K 0, 8, .inl (M 3))), (oa 4, .inl (K 0, 48, .inl (M 4))), (oa 5, .inl (K 0, 12, .inl (M 5)))] H := hP
    have hD : va_D (fun q => s.heap.size ≤ q) [(oa 0, .inl (K 0, 7, .inl (upd (M 0) 0 ((M 0 0) + 1)))), (oa 1, .inl (K 0, 32, .inl (upd (M 1) (((4 * (M 0 0)) + 2).toNatClampNeg) (-1)))), (oa 2, .inl (K 0, 32, .inl (M 2))), (oa 3, .inl (K 0, 8, .inl (M 3))), (oa 4, .inl (K 0, 48, .inl (M 4))), (oa 5, .inl (K 0, 12, .inl (M 5)))] := hD
    have hXP := XP_off (fun k9 i9 => hsep k9 i9 0) hXP oq
    have hPm := (fun (f0 : Nat → Int32) (f1 : Nat → Int32) (h : va_P D vwCl [(oa 0, .inl (K 0, 7, .inl f0)), (oa 1, .inl (K 0, 32, .inl f1)), (oa 2, .inl (K 0, 32, .inl (M 2))), (oa 3, .inl (K 0, 8, .inl (M 3))), (oa 4, .inl (K 0, 48, .inl (M 4))), (oa 5, .inl (K 0, 12, .inl (M 5)))] H) => (show va_P D vwCl (aW K oa (um (um M 0 f0) 1 f1)) H from h)) (upd (M 0) 0 ((M 0 0) + 1)) (upd (M 1) (((4 * (M 0 0)) + 2).toNatClampNeg) (-1)) hP
    refine lv_aload_n hx hb dL_law_113 rfl (lv_at hl 4 rfl) ?_
    have hst := st_open R hn9
    have hlt9 : ∀ j9, oa j9 < H.size := fun j9 => oa_lt hPm (a2 j9).2
    refine lc_X (M := (um (um M 0 (upd (M 0) 0 ((M 0 0) + 1))) 1 (upd (M 1) (((4 * (M 0 0)) + 2).toNatClampNeg) (-1)))) (oa := oa) (As := []) (rest := []) hcw (c_X2_open l hl0 D K H.size ad n d S hDJ) hst.1 (cwV 0 hts gL_law_X2_open rfl rfl rfl (by decide +kernel) ⟨Nat.le_of_ble_eq_true rfl, Nat.le_of_ble_eq_true rfl⟩) hLE a1 a2 hsep hXP hPm hS rfl rfl hl.1 (Nat.le_of_ble_eq_true rfl) dL_law_114 hcs (fun H1 locs1 hz1 hB hPm hS1 => ?_)
    obtain ⟨ad3, hX3, hD3, h93⟩ := hB
    have hI2 := lI_of a1 a2 hlt9 hsep hOA h93 hS.1 hz1 hst.2.2 hD3 hX3 hPm hS1
    have hP : va_P D vwCl [(oa 0, .inl (K 0, 7, .inl (upd (M 0) 0 ((M 0 0) + 1)))), (oa 1, .inl (K 0, 32, .inl (upd (M 1) (((4 * (M 0 0)) + 2).toNatClampNeg) (-1)))), (oa 2, .inl (K 0, 32, .inl (M 2))), (oa 3, .inl (K 0, 8, .inl (M 3))), (oa 4, .inl (K 0, 48, .inl (M 4))), (oa 5, .inl (K 0, 12, .inl (M 5)))] H1 := hPm
    refine lv_aload_n hx hb dL_law_117 rfl (lv_at hl 5 rfl) ?_
    refine lv_iconst (v := 0) hx hb dL_law_118 (by decide) ?_
    refine va_iald hx hb hK hP 0 0 (cA := K 0) rfl rfl ((show vp_in 0 7 from vp_in_nI (n := 0) (by decide) (by decide))) dL_law_119 ?_
    refine W.eq (g2 := F0 m 120 ls [.int ((upd (M 0) 0 ((M 0 0) + 1)) 0), .int ((sp_X2_open n S).2.1)]) rfl ?_
    refine lv_iconst (v := 1) hx hb dL_law_120 (by decide) ?_
    refine lv_isub hx hb dL_law_121 ?_
    refine W.eq (g2 := F0 m 122 ls [.int (((upd (M 0) 0 ((M 0 0) + 1)) 0) - 1), .int ((sp_X2_open n S).2.1)]) rfl ?_
    refine lv_icmp_ne (tgt := 129) hx hb dL_law_122 (by decide) (fun c_122 => ?_) (fun c_122 => ?_)
    · skip
      exact absurd hst.2.1 c_122
    · skip
      refine lv_iconst (v := 1) hx hb dL_law_125 (by decide) ?_
      refine lv_goto (tgt := 130) hx hb dL_law_126 (by decide) ?_
      refine lv_istore (lv' := [(11, .int 1), (10, .int (nI a)), (9, .int v), (0, .ref b), (1, .ref (ad 0 0)), (2, .ref (oa 0)), (3, .ref (oa 1)), (4, .ref (oa 2)), (5, .ref (oa 3)), (6, .ref (oa 4)), (7, .ref (oa 5)), (8, .int (nI c0))]) hx hb dL_law_130 hl (by decide) rfl (fun ls hl => ?_)
      refine lv_goto (tgt := 349) hx hb dL_law_132 (by decide) ?_
      obtain ⟨ad2, n2, d2, S2, M2, hae, I2⟩ := hI2
      refine lv_iload hx hb dL_law_349 (lv_at hl 0 rfl) ?_
      refine lv_if_eq (tgt := 371) hx hb dL_law_351 (by decide) (fun c_351 => ?_) (fun c_351 => ?_)
      · skip
        exact absurd c_351 (by decide)
      · skip
        refine lv_aload_n hx hb dL_law_354 rfl (lv_at hl 4 rfl) ?_
        refine lv_aload_n hx hb dL_law_355 rfl (lv_at hl 5 rfl) ?_
        refine lv_aload_n hx hb dL_law_356 rfl (lv_at hl 6 rfl) ?_
        refine lv_aload hx hb dL_law_357 (lv_at hl 7 rfl) ?_
        refine lv_aload hx hb dL_law_359 (lv_at hl 8 rfl) ?_
        refine lv_aload hx hb dL_law_361 (lv_at hl 9 rfl) ?_
        refine W.eq (g2 := F0 m 363 ls [.ref (oa 4), .ref (oa 3), .ref (oa 2), .ref (oa 1), .ref (oa 0), .ref (ad 0 0)]) rfl ?_
        refine lv_aload hx hb dL_law_363 (lv_at hl 10 rfl) ?_
        refine W.eq (g2 := F0 m 365 ls [.ref (oa 5), .ref (oa 4), .ref (oa 3), .ref (oa 2), .ref (oa 1), .ref (oa 0), .ref (ad2 0 0)]) (by rw [hae]) ?_
        refine pu_S (As := [.ref (ad2 0 0), .ref (oa 0), .ref (oa 1), .ref (oa 2), .ref (oa 3), .ref (oa 4), .ref (oa 5)]) (rest := []) hcw (c_L_isSo l D K ad2 n2 d2 S2 oa M2 (c0 + 1) I2.2.2.1) (va_cwS 7 hts gL_law_L_isSo rfl rfl rfl (by decide +kernel) ⟨Nat.le_of_ble_eq_true rfl, Nat.le_of_ble_eq_true rfl⟩) I2.2.2.2.1 hK hE rfl rfl hl.1 (Nat.le_of_ble_eq_true rfl) dL_law_365 hcs4 ?_
        refine W.eq (g2 := F0 m 368 ls [.int 1]) rfl ?_
        refine lv_if_ne (tgt := 373) hx hb dL_law_368 (by decide) (fun c_368 => ?_) (fun c_368 => ?_)
        · skip
          exact kk _ _ ls ad2 n2 d2 S2 M2 hae I2 (lv_sub hl [3, 4, 5, 6, 7, 8, 9, 10, 11] rfl)
        · skip
          exact absurd c_368 (by decide)
  · skip
    refine lv_iload hx hb dL_law_83 (lv_at hl 1 rfl) ?_
    refine lv_if_ne (tgt := 135) hx hb dL_law_85 (by decide) (fun c_85 => ?_) (fun c_85 => ?_)
    · skip
      have hn0 : ¬ n = 0 := fun q => c_80 (by rw [hn, q]; rfl)
      refine lv_iload hx hb dL_law_135 (lv_at hl 1 rfl) ?_
      refine lv_bipush (v := 12) hx hb dL_law_137 (by decide) ?_
      refine lv_icmp_ge (tgt := 190) hx hb dL_law_139 (by decide) (fun c_139 => ?_) (fun c_139 => ?_)
      · skip
        refine lv_iload hx hb dL_law_190 (lv_at hl 1 rfl) ?_
        refine lv_bipush (v := 18) hx hb dL_law_192 (by decide) ?_
        refine lv_icmp_ge (tgt := 225) hx hb dL_law_194 (by decide) (fun c_194 => ?_) (fun c_194 => ?_)
        · skip
          refine lv_iload hx hb dL_law_225 (lv_at hl 1 rfl) ?_
          refine lv_bipush (v := 18) hx hb dL_law_227 (by decide) ?_
          refine lv_icmp_ne (tgt := 273) hx hb dL_law_229 (by decide) (fun c_229 => ?_) (fun c_229 => ?_)
          · skip
            refine lv_iload hx hb dL_law_273 (lv_at hl 2 rfl) ?_
            refine lv_iconst (v := 5) hx hb dL_law_275 (by decide) ?_
            refine lv_ishr hx hb dL_law_276 ?_
            refine lv_iconst (v := 4) hx hb dL_law_277 (by decide) ?_
            refine pu_S (As := [.int (v >>> (5 &&& 31)), .int 4]) (rest := []) hc (c_L_low l D K (v >>> (5 &&& 31)) 4 (by decide)) (va_cwS 2 hts gL_law_L_low rfl rfl rfl (by decide +kernel) ⟨Nat.le_of_ble_eq_true rfl, Nat.le_of_ble_eq_true rfl⟩) trivial hK hE rfl rfl hl.1 (Nat.le_of_ble_eq_true rfl) dL_law_278 hcs0 ?_
            obtain ⟨bb, hb4, eb⟩ : ∃ r, r < 4 ∧ sp_L_low (v >>> (5 &&& 31)) 4 = nI r := low_ex _ 4 (by decide) (by decide)
            refine W.eq (g2 := F0 m 281 ls [.int (nI bb)]) (by rw [eb]) ?_
            clear eb
            refine lv_istore (lv' := [(12, .int (nI bb)), (11, .int 1), (10, .int (nI a)), (9, .int v), (0, .ref b), (1, .ref (ad 0 0)), (2, .ref (oa 0)), (3, .ref (oa 1)), (4, .ref (oa 2)), (5, .ref (oa 3)), (6, .ref (oa 4)), (7, .ref (oa 5)), (8, .int (nI c0))]) hx hb dL_law_281 hl (by decide) rfl (fun ls hl => ?_)
            refine lv_iconst (v := 1) hx hb dL_law_283 (by decide) ?_
            refine lv_iload hx hb dL_law_284 (lv_at hl 3 rfl) ?_
            refine W.eq (g2 := F0 m 286 ls [.int v, .int 1]) rfl ?_
            refine lv_bipush (v := 7) hx hb dL_law_286 (by decide) ?_
            refine lv_ishr hx hb dL_law_288 ?_
            refine lv_iload hx hb dL_law_289 (lv_at hl 3 rfl) ?_
            refine lv_bipush (v := 14) hx hb dL_law_291 (by decide) ?_
            refine lv_ishr hx hb dL_law_293 ?_
            refine lv_iconst (v := 3) hx hb dL_law_294 (by decide) ?_
            refine pu_S (As := [.int (v >>> (14 &&& 31)), .int 3]) (rest := [.int (v >>> (7 &&& 31)), .int 1]) hc (c_L_low l D K (v >>> (14 &&& 31)) 3 (by decide)) (va_cwS 2 hts gL_law_L_low rfl rfl rfl (by decide +kernel) ⟨Nat.le_of_ble_eq_true rfl, Nat.le_of_ble_eq_true rfl⟩) trivial hK hE rfl rfl hl.1 (Nat.le_of_ble_eq_true rfl) dL_law_295 hcs0 ?_
            have hj_298 : ∀ (v298_0 : Int32) (ls : Array Slot), v298_0 = sp_L_law_j298s0 v → lv_has ls 14 [(0, .ref b), (1, .ref (ad 0 0)), (2, .ref (oa 0)), (3, .ref (oa 1)), (4, .ref (oa 2)), (5, .ref (oa 3)), (6, .ref (oa 4)), (7, .ref (oa 5)), (8, .int (nI c0)), (9, .int v), (10, .int (nI a)), (11, .int 1), (12, .int (nI bb))] → W p l e room_1 s m #[Value.ref b] below meth c H locs cells slots Q (F0 m 308 ls [.int v298_0, .int (v >>> (7 &&& 31)), .int 1]) := by
              intro v298_0 ls ev298_0 hl
              obtain ⟨N9, hN9, hN10, rfl⟩ : ∃ N, 0 < N ∧ N ≤ 100000 ∧ v298_0 = nI N := by rw [ev298_0]; unfold sp_L_law_j298s0; exact mon_N _
              clear ev298_0
              refine pu_S (As := [.int (v >>> (7 &&& 31)), .int (nI N9)]) (rest := [.int 1]) hc (c_L_low l D K (v >>> (7 &&& 31)) (nI N9) (nI_ne0 hN9 (by omega))) (va_cwS 2 hts gL_law_L_low rfl rfl rfl (by decide +kernel) ⟨Nat.le_of_ble_eq_true rfl, Nat.le_of_ble_eq_true rfl⟩) trivial hK hE rfl rfl hl.1 (Nat.le_of_ble_eq_true rfl) dL_law_308 hcs0 ?_
              obtain ⟨r, hr, er⟩ : ∃ r, r < N9 ∧ sp_L_low (v >>> (7 &&& 31)) (nI N9) = nI r := low_ex _ N9 hN9 (by omega)
              refine W.eq (g2 := F0 m 311 ls [.int (nI r), .int 1]) (by rw [er]) ?_
              clear er
              refine lv_iadd hx hb dL_law_311 ?_
              refine lv_istore (lv' := [(13, .int (1 + (nI r))), (0, .ref b), (1, .ref (ad 0 0)), (2, .ref (oa 0)), (3, .ref (oa 1)), (4, .ref (oa 2)), (5, .ref (oa 3)), (6, .ref (oa 4)), (7, .ref (oa 5)), (8, .int (nI c0)), (9, .int v), (10, .int (nI a)), (11, .int 1), (12, .int (nI bb))]) hx hb dL_law_312 hl (by decide) rfl (fun ls hl => ?_)
              refine lv_aload_n hx hb dL_law_314 rfl (lv_at hl 3 rfl) ?_
              refine lv_iconst (v := 3) hx hb dL_law_315 (by decide) ?_
              refine lv_iload hx hb dL_law_316 (lv_at hl 13 rfl) ?_
              refine lv_iadd hx hb dL_law_318 ?_
              refine lv_dup2_11 hx hb dL_law_319 rfl rfl ?_
              refine W.eq (g2 := F0 m 320 ls [.int (3 + (nI bb)), .ref (oa 0), .int (3 + (nI bb)), .ref (oa 0)]) rfl ?_
              refine va_iald hx hb hK hP 0 0 (cA := K 0) rfl rfl (i3 (vp_in_nI hb4 (by decide))) dL_law_320 ?_
              refine lv_iload hx hb dL_law_321 (lv_at hl 0 rfl) ?_
              refine lv_iadd hx hb dL_law_323 ?_
              refine vo_iast hx hb hK hP hD hS 0 (n := 7) (f := (M 0)) rfl (i3 (vp_in_nI hb4 (by decide))) dL_law_324 (fun H locs hP hD hS oq => ?_)
              have hP : va_P D vwCl [(oa 0, .inl (K 0, 7, .inl (upd (M 0) ((3 + (nI bb)).toNatClampNeg) ((M 0 ((3 + (nI bb)).toNatClampNeg)) + (1 + (nI r)))))), (oa 1, .inl (K 0, 32, .inl (M 1))), (oa 2, .inl (K 0, 32, .inl (M 2))), (oa 3, .inl (K 0, 8, .inl (M 3))), (oa 4, .inl (K 0, 48, .inl (M 4))), (oa 5, .inl (K 0, 12, .inl (M 5)))] H := hP
              have hD : va_D (fun q => s.heap.size ≤ q) [(oa 0, .inl (K 0, 7, .inl (upd (M 0) ((3 + (nI bb)).toNatClampNeg) ((M 0 ((3 + (nI bb)).toNatClampNeg)) + (1 + (nI r)))))), (oa 1, .inl (K 0, 32, .inl (M 1))), (oa 2, .inl (K 0, 32, .inl (M 2))), (oa 3, .inl (K 0, 8, .inl (M 3))), (oa 4, .inl (K 0, 48, .inl (M 4))), (oa 5, .inl (K 0, 12, .inl (M 5)))] := hD
              have hXP := XP_off (fun k9 i9 => hsep k9 i9 0) hXP oq
              have hPm := (fun (f0 : Nat → Int32) (h : va_P D vwCl [(oa 0, .inl (K 0, 7, .inl f0)), (oa 1, .inl (K 0, 32, .inl (M 1))), (oa 2, .inl (K 0, 32, .inl (M 2))), (oa 3, .inl (K 0, 8, .inl (M 3))), (oa 4, .inl (K 0, 48, .inl (M 4))), (oa 5, .inl (K 0, 12, .inl (M 5)))] H) => (show va_P D vwCl (aW K oa (um M 0 f0)) H from h)) (upd (M 0) ((3 + (nI bb)).toNatClampNeg) ((M 0 ((3 + (nI bb)).toNatClampNeg)) + (1 + (nI r)))) hP
              refine lv_aload_n hx hb dL_law_325 rfl (lv_at hl 2 rfl) ?_
              refine lv_iload hx hb dL_law_326 (lv_at hl 13 rfl) ?_
              refine lv_iload hx hb dL_law_328 (lv_at hl 0 rfl) ?_
              have hst := st_comp R hb4 hr hN10
              have hlt9 : ∀ j9, oa j9 < H.size := fun j9 => oa_lt hPm (a2 j9).2
              refine lc_X (M := (um M 0 (upd (M 0) ((3 + (nI bb)).toNatClampNeg) ((M 0 ((3 + (nI bb)).toNatClampNeg)) + (1 + (nI r)))))) (oa := oa) (As := [.int (nI bb), .int (1 + (nI r))]) (rest := []) hcw (c_X2_compensate l hl0 D K H.size ad n d S (nI bb) (1 + (nI r)) hDJ) hst.1 (cwV 2 hts gL_law_X2_compensate rfl rfl rfl (by decide +kernel) ⟨Nat.le_of_ble_eq_true rfl, Nat.le_of_ble_eq_true rfl⟩) hLE a1 a2 hsep hXP hPm hS rfl rfl hl.1 (Nat.le_of_ble_eq_true rfl) dL_law_330 hcs (fun H1 locs1 hz1 hB hPm hS1 => ?_)
              have hI2 := lI_of a1 a2 hlt9 hsep hOA (fun _ _ => Or.inl rfl) hS.1 hz1 hst.2.2 hDJ hB hPm hS1
              have hP : va_P D vwCl [(oa 0, .inl (K 0, 7, .inl (upd (M 0) ((3 + (nI bb)).toNatClampNeg) ((M 0 ((3 + (nI bb)).toNatClampNeg)) + (1 + (nI r)))))), (oa 1, .inl (K 0, 32, .inl (M 1))), (oa 2, .inl (K 0, 32, .inl (M 2))), (oa 3, .inl (K 0, 8, .inl (M 3))), (oa 4, .inl (K 0, 48, .inl (M 4))), (oa 5, .inl (K 0, 12, .inl (M 5)))] H1 := hPm
              refine W.eq (g2 := F0 m 333 ls [.int ((sp_X2_compensate S (nI bb) (1 + (nI r))).2.1)]) rfl ?_
              refine lv_aload_n hx hb dL_law_333 rfl (lv_at hl 3 rfl) ?_
              refine lv_iconst (v := 3) hx hb dL_law_334 (by decide) ?_
              refine lv_iload hx hb dL_law_335 (lv_at hl 13 rfl) ?_
              refine lv_iadd hx hb dL_law_337 ?_
              refine va_iald hx hb hK hP 0 0 (cA := K 0) rfl rfl (i3 (vp_in_nI hb4 (by decide))) dL_law_338 ?_
              refine lv_icmp_ne (tgt := 346) hx hb dL_law_339 (by decide) (fun c_339 => ?_) (fun c_339 => ?_)
              · skip
                exact absurd hst.2.1 c_339
              · skip
                refine lv_iconst (v := 1) hx hb dL_law_342 (by decide) ?_
                refine lv_goto (tgt := 347) hx hb dL_law_343 (by decide) ?_
                refine lv_istore (lv' := [(11, .int 1), (13, .int (1 + (nI r))), (0, .ref b), (1, .ref (ad 0 0)), (2, .ref (oa 0)), (3, .ref (oa 1)), (4, .ref (oa 2)), (5, .ref (oa 3)), (6, .ref (oa 4)), (7, .ref (oa 5)), (8, .int (nI c0)), (9, .int v), (10, .int (nI a)), (12, .int (nI bb))]) hx hb dL_law_347 hl (by decide) rfl (fun ls hl => ?_)
                obtain ⟨ad2, n2, d2, S2, M2, hae, I2⟩ := hI2
                refine lv_iload hx hb dL_law_349 (lv_at hl 0 rfl) ?_
                refine lv_if_eq (tgt := 371) hx hb dL_law_351 (by decide) (fun c_351 => ?_) (fun c_351 => ?_)
                · skip
                  exact absurd c_351 (by decide)
                · skip
                  refine lv_aload_n hx hb dL_law_354 rfl (lv_at hl 3 rfl) ?_
                  refine lv_aload_n hx hb dL_law_355 rfl (lv_at hl 4 rfl) ?_
                  refine lv_aload_n hx hb dL_law_356 rfl (lv_at hl 5 rfl) ?_
                  refine lv_aload hx hb dL_law_357 (lv_at hl 6 rfl) ?_
                  refine lv_aload hx hb dL_law_359 (lv_at hl 7 rfl) ?_
                  refine W.eq (g2 := F0 m 361 ls [.ref (oa 3), .ref (oa 2), .ref (oa 1), .ref (oa 0), .ref (ad 0 0)]) rfl ?_
                  refine lv_aload hx hb dL_law_361 (lv_at hl 8 rfl) ?_
                  refine lv_aload hx hb dL_law_363 (lv_at hl 9 rfl) ?_
                  refine W.eq (g2 := F0 m 365 ls [.ref (oa 5), .ref (oa 4), .ref (oa 3), .ref (oa 2), .ref (oa 1), .ref (oa 0), .ref (ad2 0 0)]) (by rw [hae]) ?_
                  refine pu_S (As := [.ref (ad2 0 0), .ref (oa 0), .ref (oa 1), .ref (oa 2), .ref (oa 3), .ref (oa 4), .ref (oa 5)]) (rest := []) hcw (c_L_isSo l D K ad2 n2 d2 S2 oa M2 (c0 + 1) I2.2.2.1) (va_cwS 7 hts gL_law_L_isSo rfl rfl rfl (by decide +kernel) ⟨Nat.le_of_ble_eq_true rfl, Nat.le_of_ble_eq_true rfl⟩) I2.2.2.2.1 hK hE rfl rfl hl.1 (Nat.le_of_ble_eq_true rfl) dL_law_365 hcs4 ?_
                  refine W.eq (g2 := F0 m 368 ls [.int 1]) rfl ?_
                  refine lv_if_ne (tgt := 373) hx hb dL_law_368 (by decide) (fun c_368 => ?_) (fun c_368 => ?_)
                  · skip
                    exact kk _ _ ls ad2 n2 d2 S2 M2 hae I2 (lv_sub hl [2, 3, 4, 5, 6, 7, 8, 9, 10] rfl)
                  · skip
                    exact absurd c_368 (by decide)
            refine lv_if_ne (tgt := 306) hx hb dL_law_298 (by decide) (fun c_298 => ?_) (fun c_298 => ?_)
            · skip
              refine lv_bipush (v := 90) hx hb dL_law_306 (by decide) ?_
              exact hj_298 _ ls (Eq.symm (Eq.trans (if_neg c_298) (rfl))) (lv_sub hl [4, 5, 6, 7, 8, 9, 10, 11, 12, 3, 2, 1, 0] rfl)
            · skip
              refine lv_ldc hx hb hown (hts (.constant RL 90 (100000)) (by decide +kernel)) dL_law_301 ?_
              refine lv_goto (tgt := 308) hx hb dL_law_303 (by decide) ?_
              exact hj_298 _ ls (Eq.symm (Eq.trans (if_pos c_298) (rfl))) (lv_sub hl [4, 5, 6, 7, 8, 9, 10, 11, 12, 3, 2, 1, 0] rfl)
          · skip
            refine lv_aload_n hx hb dL_law_232 rfl (lv_at hl 5 rfl) ?_
            refine lv_iconst (v := 1) hx hb dL_law_233 (by decide) ?_
            refine va_iald hx hb hK hP 0 0 (cA := K 0) rfl rfl ((show vp_in 1 7 from vp_in_nI (n := 1) (by decide) (by decide))) dL_law_234 ?_
            refine W.eq (g2 := F0 m 235 ls [.int (M 0 1)]) rfl ?_
            refine lv_istore (lv' := [(12, .int (M 0 1)), (11, .int 1), (10, .int (nI a)), (9, .int v), (0, .ref b), (1, .ref (ad 0 0)), (2, .ref (oa 0)), (3, .ref (oa 1)), (4, .ref (oa 2)), (5, .ref (oa 3)), (6, .ref (oa 4)), (7, .ref (oa 5)), (8, .int (nI c0))]) hx hb dL_law_235 hl (by decide) rfl (fun ls hl => ?_)
            refine lv_aload_n hx hb dL_law_237 rfl (lv_at hl 6 rfl) ?_
            refine W.eq (g2 := F0 m 238 ls [.ref (oa 0)]) rfl ?_
            refine lv_iconst (v := 1) hx hb dL_law_238 (by decide) ?_
            refine lv_iconst (v := 1) hx hb dL_law_239 (by decide) ?_
            refine lv_iload hx hb dL_law_240 (lv_at hl 3 rfl) ?_
            refine lv_iconst (v := 5) hx hb dL_law_242 (by decide) ?_
            refine lv_ishr hx hb dL_law_243 ?_
            refine lv_bipush (v := 12) hx hb dL_law_244 (by decide) ?_
            refine pu_S (As := [.int (v >>> (5 &&& 31)), .int 12]) (rest := [.int 1, .int 1, .ref (oa 0)]) hc (c_L_low l D K (v >>> (5 &&& 31)) 12 (by decide)) (va_cwS 2 hts gL_law_L_low rfl rfl rfl (by decide +kernel) ⟨Nat.le_of_ble_eq_true rfl, Nat.le_of_ble_eq_true rfl⟩) trivial hK hE rfl rfl hl.1 (Nat.le_of_ble_eq_true rfl) dL_law_246 hcs0 ?_
            obtain ⟨r, hr12, er⟩ : ∃ r, r < 12 ∧ sp_L_low (v >>> (5 &&& 31)) 12 = nI r := low_ex _ 12 (by decide) (by decide)
            refine W.eq (g2 := F0 m 249 ls [.int (nI r), .int 1, .int 1, .ref (oa 0)]) (by rw [er]) ?_
            clear er
            refine lv_iadd hx hb dL_law_249 ?_
            refine W.eq (g2 := F0 m 250 ls [.int (1 + (nI r)), .int 1, .ref (oa 0)]) rfl ?_
            refine vo_iast hx hb hK hP hD hS 0 (n := 7) (f := (M 0)) rfl ((show vp_in 1 7 from vp_in_nI (n := 1) (by decide) (by decide))) dL_law_250 (fun H locs hP hD hS oq => ?_)
            have hP : va_P D vwCl [(oa 0, .inl (K 0, 7, .inl (upd (M 0) 1 (1 + (nI r))))), (oa 1, .inl (K 0, 32, .inl (M 1))), (oa 2, .inl (K 0, 32, .inl (M 2))), (oa 3, .inl (K 0, 8, .inl (M 3))), (oa 4, .inl (K 0, 48, .inl (M 4))), (oa 5, .inl (K 0, 12, .inl (M 5)))] H := hP
            have hD : va_D (fun q => s.heap.size ≤ q) [(oa 0, .inl (K 0, 7, .inl (upd (M 0) 1 (1 + (nI r))))), (oa 1, .inl (K 0, 32, .inl (M 1))), (oa 2, .inl (K 0, 32, .inl (M 2))), (oa 3, .inl (K 0, 8, .inl (M 3))), (oa 4, .inl (K 0, 48, .inl (M 4))), (oa 5, .inl (K 0, 12, .inl (M 5)))] := hD
            have hXP := XP_off (fun k9 i9 => hsep k9 i9 0) hXP oq
            have hPm := (fun (f0 : Nat → Int32) (h : va_P D vwCl [(oa 0, .inl (K 0, 7, .inl f0)), (oa 1, .inl (K 0, 32, .inl (M 1))), (oa 2, .inl (K 0, 32, .inl (M 2))), (oa 3, .inl (K 0, 8, .inl (M 3))), (oa 4, .inl (K 0, 48, .inl (M 4))), (oa 5, .inl (K 0, 12, .inl (M 5)))] H) => (show va_P D vwCl (aW K oa (um M 0 f0)) H from h)) (upd (M 0) 1 (1 + (nI r))) hP
            refine lv_aload_n hx hb dL_law_251 rfl (lv_at hl 5 rfl) ?_
            refine lv_aload_n hx hb dL_law_252 rfl (lv_at hl 6 rfl) ?_
            refine lv_iconst (v := 1) hx hb dL_law_253 (by decide) ?_
            refine va_iald hx hb hK hP 0 0 (cA := K 0) rfl rfl ((show vp_in 1 7 from vp_in_nI (n := 1) (by decide) (by decide))) dL_law_254 ?_
            refine W.eq (g2 := F0 m 255 ls [.int ((upd (M 0) 1 (1 + (nI r))) 1), .ref (ad 0 0)]) rfl ?_
            refine W.eq (g2 := F0 m 255 ls [.int (1 + (nI r)), .ref (ad 0 0)]) (by rw [upd_at]) ?_
            have hst := st_mark R hr12
            have hlt9 : ∀ j9, oa j9 < H.size := fun j9 => oa_lt hPm (a2 j9).2
            refine lc_X (M := (um M 0 (upd (M 0) 1 (1 + (nI r))))) (oa := oa) (As := [.int (1 + (nI r))]) (rest := []) hcw (c_X2_setMark l hl0 D K H.size ad n d S (1 + (nI r)) hDJ) hst.1 (cwV 1 hts gL_law_X2_setMark rfl rfl rfl (by decide +kernel) ⟨Nat.le_of_ble_eq_true rfl, Nat.le_of_ble_eq_true rfl⟩) hLE a1 a2 hsep hXP hPm hS rfl rfl hl.1 (Nat.le_of_ble_eq_true rfl) dL_law_255 hcs (fun H1 locs1 hz1 hB hPm hS1 => ?_)
            have hI2 := lI_of a1 a2 hlt9 hsep hOA (fun _ _ => Or.inl rfl) hS.1 hz1 hst.2.2 hDJ hB hPm hS1
            have hP : va_P D vwCl [(oa 0, .inl (K 0, 7, .inl (upd (M 0) 1 (1 + (nI r))))), (oa 1, .inl (K 0, 32, .inl (M 1))), (oa 2, .inl (K 0, 32, .inl (M 2))), (oa 3, .inl (K 0, 8, .inl (M 3))), (oa 4, .inl (K 0, 48, .inl (M 4))), (oa 5, .inl (K 0, 12, .inl (M 5)))] H1 := hPm
            refine lv_iload hx hb dL_law_258 (lv_at hl 0 rfl) ?_
            refine lv_icmp_ne (tgt := 267) hx hb dL_law_260 (by decide) (fun c_260 => ?_) (fun c_260 => ?_)
            · skip
              exact absurd hst.2.1 c_260
            · skip
              refine W.eq (g2 := F0 m 263 ls []) rfl ?_
              refine lv_iconst (v := 1) hx hb dL_law_263 (by decide) ?_
              refine lv_goto (tgt := 268) hx hb dL_law_264 (by decide) ?_
              refine lv_istore (lv' := [(11, .int 1), (12, .int (M 0 1)), (10, .int (nI a)), (9, .int v), (0, .ref b), (1, .ref (ad 0 0)), (2, .ref (oa 0)), (3, .ref (oa 1)), (4, .ref (oa 2)), (5, .ref (oa 3)), (6, .ref (oa 4)), (7, .ref (oa 5)), (8, .int (nI c0))]) hx hb dL_law_268 hl (by decide) rfl (fun ls hl => ?_)
              refine lv_goto (tgt := 349) hx hb dL_law_270 (by decide) ?_
              obtain ⟨ad2, n2, d2, S2, M2, hae, I2⟩ := hI2
              refine lv_iload hx hb dL_law_349 (lv_at hl 0 rfl) ?_
              refine lv_if_eq (tgt := 371) hx hb dL_law_351 (by decide) (fun c_351 => ?_) (fun c_351 => ?_)
              · skip
                exact absurd c_351 (by decide)
              · skip
                refine lv_aload_n hx hb dL_law_354 rfl (lv_at hl 5 rfl) ?_
                refine lv_aload_n hx hb dL_law_355 rfl (lv_at hl 6 rfl) ?_
                refine lv_aload_n hx hb dL_law_356 rfl (lv_at hl 7 rfl) ?_
                refine lv_aload hx hb dL_law_357 (lv_at hl 8 rfl) ?_
                refine lv_aload hx hb dL_law_359 (lv_at hl 9 rfl) ?_
                refine lv_aload hx hb dL_law_361 (lv_at hl 10 rfl) ?_
                refine W.eq (g2 := F0 m 363 ls [.ref (oa 4), .ref (oa 3), .ref (oa 2), .ref (oa 1), .ref (oa 0), .ref (ad 0 0)]) rfl ?_
                refine lv_aload hx hb dL_law_363 (lv_at hl 11 rfl) ?_
                refine W.eq (g2 := F0 m 365 ls [.ref (oa 5), .ref (oa 4), .ref (oa 3), .ref (oa 2), .ref (oa 1), .ref (oa 0), .ref (ad2 0 0)]) (by rw [hae]) ?_
                refine pu_S (As := [.ref (ad2 0 0), .ref (oa 0), .ref (oa 1), .ref (oa 2), .ref (oa 3), .ref (oa 4), .ref (oa 5)]) (rest := []) hcw (c_L_isSo l D K ad2 n2 d2 S2 oa M2 (c0 + 1) I2.2.2.1) (va_cwS 7 hts gL_law_L_isSo rfl rfl rfl (by decide +kernel) ⟨Nat.le_of_ble_eq_true rfl, Nat.le_of_ble_eq_true rfl⟩) I2.2.2.2.1 hK hE rfl rfl hl.1 (Nat.le_of_ble_eq_true rfl) dL_law_365 hcs4 ?_
                refine W.eq (g2 := F0 m 368 ls [.int 1]) rfl ?_
                refine lv_if_ne (tgt := 373) hx hb dL_law_368 (by decide) (fun c_368 => ?_) (fun c_368 => ?_)
                · skip
                  exact kk _ _ ls ad2 n2 d2 S2 M2 hae I2 (lv_sub hl [4, 5, 6, 7, 8, 9, 10, 11, 12] rfl)
                · skip
                  exact absurd c_368 (by decide)
        · skip
          refine lv_aload_n hx hb dL_law_197 rfl (lv_at hl 4 rfl) ?_
          refine lv_iload hx hb dL_law_198 (lv_at hl 1 rfl) ?_
          refine lv_bipush (v := 12) hx hb dL_law_200 (by decide) ?_
          refine lv_isub hx hb dL_law_202 ?_
          refine lv_iload hx hb dL_law_203 (lv_at hl 2 rfl) ?_
          refine W.eq (g2 := F0 m 205 ls [.int v, .int ((nI a) - 12), .ref (ad 0 0)]) rfl ?_
          refine lv_iconst (v := 4) hx hb dL_law_205 (by decide) ?_
          refine lv_ishr hx hb dL_law_206 ?_
          refine lv_aload_n hx hb dL_law_207 rfl (lv_at hl 5 rfl) ?_
          refine lv_aload_n hx hb dL_law_208 rfl (lv_at hl 6 rfl) ?_
          refine lv_aload hx hb dL_law_209 (lv_at hl 7 rfl) ?_
          refine lv_aload hx hb dL_law_211 (lv_at hl 8 rfl) ?_
          refine lv_aload hx hb dL_law_213 (lv_at hl 9 rfl) ?_
          refine lv_aload hx hb dL_law_215 (lv_at hl 10 rfl) ?_
          refine W.eq (g2 := F0 m 217 ls [.ref (oa 5), .ref (oa 4), .ref (oa 3), .ref (oa 2), .ref (oa 1), .ref (oa 0), .int (v >>> (4 &&& 31)), .int ((nI a) - 12), .ref (ad 0 0)]) rfl ?_
          have hcn : c0 < 1000 := by omega
          refine lc_G (M := M) (n := n) (d := d) (S := S) (ad := ad) (oa := oa) (As := [.ref (ad 0 0), .int ((nI a) - 12), .int (v >>> (4 &&& 31)), .ref (oa 0), .ref (oa 1), .ref (oa 2), .ref (oa 3), .ref (oa 4), .ref (oa 5)]) (rest := []) hcw (c_L_files l hl0 D K H.size ad n d S oa M c0 ((nI a) - 12) (v >>> (4 &&& 31)) ⟨hDJ, hsep, hOA⟩ R hn0 hcn) (va_cwS 9 hts gL_law_L_files rfl rfl rfl (by decide +kernel) ⟨Nat.le_of_ble_eq_true rfl, Nat.le_of_ble_eq_true rfl⟩) hLE a1 a2 hsep hOA hXP hPm hS rfl rfl hl.1 (Nat.le_of_ble_eq_true rfl) dL_law_217 hcs (fun H locs hI2 => ?_)
          refine lv_istore (lv' := [(11, .int 1), (10, .int (nI a)), (9, .int v), (0, .ref b), (1, .ref (ad 0 0)), (2, .ref (oa 0)), (3, .ref (oa 1)), (4, .ref (oa 2)), (5, .ref (oa 3)), (6, .ref (oa 4)), (7, .ref (oa 5)), (8, .int (nI c0))]) hx hb dL_law_220 hl (by decide) rfl (fun ls hl => ?_)
          refine lv_goto (tgt := 349) hx hb dL_law_222 (by decide) ?_
          obtain ⟨ad2, n2, d2, S2, M2, hae, I2⟩ := hI2
          refine lv_iload hx hb dL_law_349 (lv_at hl 0 rfl) ?_
          refine lv_if_eq (tgt := 371) hx hb dL_law_351 (by decide) (fun c_351 => ?_) (fun c_351 => ?_)
          · skip
            exact absurd c_351 (by decide)
          · skip
            refine lv_aload_n hx hb dL_law_354 rfl (lv_at hl 4 rfl) ?_
            refine lv_aload_n hx hb dL_law_355 rfl (lv_at hl 5 rfl) ?_
            refine lv_aload_n hx hb dL_law_356 rfl (lv_at hl 6 rfl) ?_
            refine lv_aload hx hb dL_law_357 (lv_at hl 7 rfl) ?_
            refine lv_aload hx hb dL_law_359 (lv_at hl 8 rfl) ?_
            refine lv_aload hx hb dL_law_361 (lv_at hl 9 rfl) ?_
            refine W.eq (g2 := F0 m 363 ls [.ref (oa 4), .ref (oa 3), .ref (oa 2), .ref (oa 1), .ref (oa 0), .ref (ad 0 0)]) rfl ?_
            refine lv_aload hx hb dL_law_363 (lv_at hl 10 rfl) ?_
            refine W.eq (g2 := F0 m 365 ls [.ref (oa 5), .ref (oa 4), .ref (oa 3), .ref (oa 2), .ref (oa 1), .ref (oa 0), .ref (ad2 0 0)]) (by rw [hae]) ?_
            refine pu_S (As := [.ref (ad2 0 0), .ref (oa 0), .ref (oa 1), .ref (oa 2), .ref (oa 3), .ref (oa 4), .ref (oa 5)]) (rest := []) hcw (c_L_isSo l D K ad2 n2 d2 S2 oa M2 (c0 + 1) I2.2.2.1) (va_cwS 7 hts gL_law_L_isSo rfl rfl rfl (by decide +kernel) ⟨Nat.le_of_ble_eq_true rfl, Nat.le_of_ble_eq_true rfl⟩) I2.2.2.2.1 hK hE rfl rfl hl.1 (Nat.le_of_ble_eq_true rfl) dL_law_365 hcs4 ?_
            refine W.eq (g2 := F0 m 368 ls [.int 1]) rfl ?_
            refine lv_if_ne (tgt := 373) hx hb dL_law_368 (by decide) (fun c_368 => ?_) (fun c_368 => ?_)
            · skip
              exact kk _ _ ls ad2 n2 d2 S2 M2 hae I2 (lv_sub hl [3, 4, 5, 6, 7, 8, 9, 10, 11] rfl)
            · skip
              exact absurd c_368 (by decide)
      · skip
        refine lv_aload_n hx hb dL_law_142 rfl (lv_at hl 4 rfl) ?_
        refine lv_iload hx hb dL_law_143 (lv_at hl 1 rfl) ?_
        refine lv_iconst (v := 1) hx hb dL_law_145 (by decide) ?_
        refine lv_isub hx hb dL_law_146 ?_
        have hj_147 : ∀ (v147_0 : Int32) (ls : Array Slot), v147_0 = sp_L_law_j147s0 a → lv_has ls 14 [(0, .ref b), (1, .ref (ad 0 0)), (2, .ref (oa 0)), (3, .ref (oa 1)), (4, .ref (oa 2)), (5, .ref (oa 3)), (6, .ref (oa 4)), (7, .ref (oa 5)), (8, .int (nI c0)), (9, .int v), (10, .int (nI a)), (11, .int 1)] → W p l e room_1 s m #[Value.ref b] below meth c H locs cells slots Q (F0 m 172 ls [.int v147_0, .ref (ad 0 0)]) := by
          intro v147_0 ls ev147_0 hl
          subst ev147_0
          refine lv_iload hx hb dL_law_172 (lv_at hl 9 rfl) ?_
          refine lv_iconst (v := 4) hx hb dL_law_174 (by decide) ?_
          refine lv_ishr hx hb dL_law_175 ?_
          refine lv_aload_n hx hb dL_law_176 rfl (lv_at hl 2 rfl) ?_
          refine lv_aload_n hx hb dL_law_177 rfl (lv_at hl 3 rfl) ?_
          refine lv_aload hx hb dL_law_178 (lv_at hl 4 rfl) ?_
          refine lv_aload hx hb dL_law_180 (lv_at hl 5 rfl) ?_
          refine lc_G (M := M) (n := n) (d := d) (S := S) (ad := ad) (oa := oa) (As := [.ref (ad 0 0), .int (sp_L_law_j147s0 a), .int (v >>> (4 &&& 31)), .ref (oa 0), .ref (oa 1), .ref (oa 2), .ref (oa 3)]) (rest := []) hcw (c_L_tenders l hl0 D K H.size ad n d S oa M c0 (sp_L_law_j147s0 a) (v >>> (4 &&& 31)) ⟨hDJ, hsep, hOA⟩ R hn0) (va_cwS 7 hts gL_law_L_tenders rfl rfl rfl (by decide +kernel) ⟨Nat.le_of_ble_eq_true rfl, Nat.le_of_ble_eq_true rfl⟩) hLE a1 a2 hsep hOA hXP hPm hS rfl rfl hl.1 (Nat.le_of_ble_eq_true rfl) dL_law_182 hcs (fun H locs hI2 => ?_)
          refine W.eq (g2 := F0 m 185 ls [.int 1]) rfl ?_
          refine lv_istore (lv' := [(11, .int 1), (0, .ref b), (1, .ref (ad 0 0)), (2, .ref (oa 0)), (3, .ref (oa 1)), (4, .ref (oa 2)), (5, .ref (oa 3)), (6, .ref (oa 4)), (7, .ref (oa 5)), (8, .int (nI c0)), (9, .int v), (10, .int (nI a))]) hx hb dL_law_185 hl (by decide) rfl (fun ls hl => ?_)
          refine lv_goto (tgt := 349) hx hb dL_law_187 (by decide) ?_
          obtain ⟨ad2, n2, d2, S2, M2, hae, I2⟩ := hI2
          refine lv_iload hx hb dL_law_349 (lv_at hl 0 rfl) ?_
          refine lv_if_eq (tgt := 371) hx hb dL_law_351 (by decide) (fun c_351 => ?_) (fun c_351 => ?_)
          · skip
            exact absurd c_351 (by decide)
          · skip
            refine lv_aload_n hx hb dL_law_354 rfl (lv_at hl 2 rfl) ?_
            refine lv_aload_n hx hb dL_law_355 rfl (lv_at hl 3 rfl) ?_
            refine lv_aload_n hx hb dL_law_356 rfl (lv_at hl 4 rfl) ?_
            refine lv_aload hx hb dL_law_357 (lv_at hl 5 rfl) ?_
            refine lv_aload hx hb dL_law_359 (lv_at hl 6 rfl) ?_
            refine lv_aload hx hb dL_law_361 (lv_at hl 7 rfl) ?_
            refine W.eq (g2 := F0 m 363 ls [.ref (oa 4), .ref (oa 3), .ref (oa 2), .ref (oa 1), .ref (oa 0), .ref (ad 0 0)]) rfl ?_
            refine lv_aload hx hb dL_law_363 (lv_at hl 8 rfl) ?_
            refine W.eq (g2 := F0 m 365 ls [.ref (oa 5), .ref (oa 4), .ref (oa 3), .ref (oa 2), .ref (oa 1), .ref (oa 0), .ref (ad2 0 0)]) (by rw [hae]) ?_
            refine pu_S (As := [.ref (ad2 0 0), .ref (oa 0), .ref (oa 1), .ref (oa 2), .ref (oa 3), .ref (oa 4), .ref (oa 5)]) (rest := []) hcw (c_L_isSo l D K ad2 n2 d2 S2 oa M2 (c0 + 1) I2.2.2.1) (va_cwS 7 hts gL_law_L_isSo rfl rfl rfl (by decide +kernel) ⟨Nat.le_of_ble_eq_true rfl, Nat.le_of_ble_eq_true rfl⟩) I2.2.2.2.1 hK hE rfl rfl hl.1 (Nat.le_of_ble_eq_true rfl) dL_law_365 hcs4 ?_
            refine W.eq (g2 := F0 m 368 ls [.int 1]) rfl ?_
            refine lv_if_ne (tgt := 373) hx hb dL_law_368 (by decide) (fun c_368 => ?_) (fun c_368 => ?_)
            · skip
              exact kk _ _ ls ad2 n2 d2 S2 M2 hae I2 (lv_sub hl [1, 2, 3, 4, 5, 6, 7, 8, 9] rfl)
            · skip
              exact absurd c_368 (by decide)
        refine lv_if_ge (tgt := 154) hx hb dL_law_147 (by decide) (fun c_147 => ?_) (fun c_147 => ?_)
        · skip
          refine lv_iload hx hb dL_law_154 (lv_at hl 1 rfl) ?_
          refine lv_iconst (v := 1) hx hb dL_law_156 (by decide) ?_
          refine lv_isub hx hb dL_law_157 ?_
          refine lv_bipush (v := 8) hx hb dL_law_158 (by decide) ?_
          refine lv_icmp_le (tgt := 168) hx hb dL_law_160 (by decide) (fun c_160 => ?_) (fun c_160 => ?_)
          · skip
            refine lv_iload hx hb dL_law_168 (lv_at hl 1 rfl) ?_
            refine lv_iconst (v := 1) hx hb dL_law_170 (by decide) ?_
            refine lv_isub hx hb dL_law_171 ?_
            exact hj_147 _ ls (Eq.symm (Eq.trans (if_pos c_147) (Eq.trans (if_pos c_160) (rfl)))) (lv_sub hl [3, 4, 5, 6, 7, 8, 9, 10, 11, 2, 1, 0] rfl)
          · skip
            refine lv_bipush (v := 6) hx hb dL_law_163 (by decide) ?_
            refine lv_goto (tgt := 172) hx hb dL_law_165 (by decide) ?_
            exact hj_147 _ ls (Eq.symm (Eq.trans (if_pos c_147) (Eq.trans (if_neg c_160) (rfl)))) (lv_sub hl [3, 4, 5, 6, 7, 8, 9, 10, 11, 2, 1, 0] rfl)
        · skip
          refine lv_iconst (v := 0) hx hb dL_law_150 (by decide) ?_
          refine lv_goto (tgt := 172) hx hb dL_law_151 (by decide) ?_
          exact hj_147 _ ls (Eq.symm (Eq.trans (if_neg c_147) (rfl))) (lv_sub hl [3, 4, 5, 6, 7, 8, 9, 10, 11, 2, 1, 0] rfl)
    · skip
      refine W.eq (g2 := F0 m 88 ls []) rfl ?_
      refine lv_aload_n hx hb dL_law_88 rfl (lv_at hl 5 rfl) ?_
      refine lv_iconst (v := 0) hx hb dL_law_89 (by decide) ?_
      refine va_iald hx hb hK hP 0 0 (cA := K 0) rfl rfl ((show vp_in 0 7 from vp_in_nI (n := 0) (by decide) (by decide))) dL_law_90 ?_
      refine W.eq (g2 := F0 m 91 ls [.int (M 0 0)]) rfl ?_
      refine lv_bipush (v := 8) hx hb dL_law_91 (by decide) ?_
      refine lv_icmp_ge (tgt := 135) hx hb dL_law_93 (by decide) (fun c_93 => ?_) (fun c_93 => ?_)
      · skip
        have hn0 : ¬ n = 0 := fun q => c_80 (by rw [hn, q]; rfl)
        refine lv_iload hx hb dL_law_135 (lv_at hl 1 rfl) ?_
        refine lv_bipush (v := 12) hx hb dL_law_137 (by decide) ?_
        refine lv_icmp_ge (tgt := 190) hx hb dL_law_139 (by decide) (fun c_139 => ?_) (fun c_139 => ?_)
        · skip
          refine lv_iload hx hb dL_law_190 (lv_at hl 1 rfl) ?_
          refine lv_bipush (v := 18) hx hb dL_law_192 (by decide) ?_
          refine lv_icmp_ge (tgt := 225) hx hb dL_law_194 (by decide) (fun c_194 => ?_) (fun c_194 => ?_)
          · skip
            refine lv_iload hx hb dL_law_225 (lv_at hl 1 rfl) ?_
            refine lv_bipush (v := 18) hx hb dL_law_227 (by decide) ?_
            refine lv_icmp_ne (tgt := 273) hx hb dL_law_229 (by decide) (fun c_229 => ?_) (fun c_229 => ?_)
            · skip
              refine lv_iload hx hb dL_law_273 (lv_at hl 2 rfl) ?_
              refine lv_iconst (v := 5) hx hb dL_law_275 (by decide) ?_
              refine lv_ishr hx hb dL_law_276 ?_
              refine lv_iconst (v := 4) hx hb dL_law_277 (by decide) ?_
              refine pu_S (As := [.int (v >>> (5 &&& 31)), .int 4]) (rest := []) hc (c_L_low l D K (v >>> (5 &&& 31)) 4 (by decide)) (va_cwS 2 hts gL_law_L_low rfl rfl rfl (by decide +kernel) ⟨Nat.le_of_ble_eq_true rfl, Nat.le_of_ble_eq_true rfl⟩) trivial hK hE rfl rfl hl.1 (Nat.le_of_ble_eq_true rfl) dL_law_278 hcs0 ?_
              obtain ⟨bb, hb4, eb⟩ : ∃ r, r < 4 ∧ sp_L_low (v >>> (5 &&& 31)) 4 = nI r := low_ex _ 4 (by decide) (by decide)
              refine W.eq (g2 := F0 m 281 ls [.int (nI bb)]) (by rw [eb]) ?_
              clear eb
              refine lv_istore (lv' := [(12, .int (nI bb)), (11, .int 1), (10, .int (nI a)), (9, .int v), (0, .ref b), (1, .ref (ad 0 0)), (2, .ref (oa 0)), (3, .ref (oa 1)), (4, .ref (oa 2)), (5, .ref (oa 3)), (6, .ref (oa 4)), (7, .ref (oa 5)), (8, .int (nI c0))]) hx hb dL_law_281 hl (by decide) rfl (fun ls hl => ?_)
              refine lv_iconst (v := 1) hx hb dL_law_283 (by decide) ?_
              refine lv_iload hx hb dL_law_284 (lv_at hl 3 rfl) ?_
              refine W.eq (g2 := F0 m 286 ls [.int v, .int 1]) rfl ?_
              refine lv_bipush (v := 7) hx hb dL_law_286 (by decide) ?_
              refine lv_ishr hx hb dL_law_288 ?_
              refine lv_iload hx hb dL_law_289 (lv_at hl 3 rfl) ?_
              refine lv_bipush (v := 14) hx hb dL_law_291 (by decide) ?_
              refine lv_ishr hx hb dL_law_293 ?_
              refine lv_iconst (v := 3) hx hb dL_law_294 (by decide) ?_
              refine pu_S (As := [.int (v >>> (14 &&& 31)), .int 3]) (rest := [.int (v >>> (7 &&& 31)), .int 1]) hc (c_L_low l D K (v >>> (14 &&& 31)) 3 (by decide)) (va_cwS 2 hts gL_law_L_low rfl rfl rfl (by decide +kernel) ⟨Nat.le_of_ble_eq_true rfl, Nat.le_of_ble_eq_true rfl⟩) trivial hK hE rfl rfl hl.1 (Nat.le_of_ble_eq_true rfl) dL_law_295 hcs0 ?_
              have hj_298 : ∀ (v298_0 : Int32) (ls : Array Slot), v298_0 = sp_L_law_j298s0 v → lv_has ls 14 [(0, .ref b), (1, .ref (ad 0 0)), (2, .ref (oa 0)), (3, .ref (oa 1)), (4, .ref (oa 2)), (5, .ref (oa 3)), (6, .ref (oa 4)), (7, .ref (oa 5)), (8, .int (nI c0)), (9, .int v), (10, .int (nI a)), (11, .int 1), (12, .int (nI bb))] → W p l e room_1 s m #[Value.ref b] below meth c H locs cells slots Q (F0 m 308 ls [.int v298_0, .int (v >>> (7 &&& 31)), .int 1]) := by
                intro v298_0 ls ev298_0 hl
                obtain ⟨N9, hN9, hN10, rfl⟩ : ∃ N, 0 < N ∧ N ≤ 100000 ∧ v298_0 = nI N := by rw [ev298_0]; unfold sp_L_law_j298s0; exact mon_N _
                clear ev298_0
                refine pu_S (As := [.int (v >>> (7 &&& 31)), .int (nI N9)]) (rest := [.int 1]) hc (c_L_low l D K (v >>> (7 &&& 31)) (nI N9) (nI_ne0 hN9 (by omega))) (va_cwS 2 hts gL_law_L_low rfl rfl rfl (by decide +kernel) ⟨Nat.le_of_ble_eq_true rfl, Nat.le_of_ble_eq_true rfl⟩) trivial hK hE rfl rfl hl.1 (Nat.le_of_ble_eq_true rfl) dL_law_308 hcs0 ?_
                obtain ⟨r, hr, er⟩ : ∃ r, r < N9 ∧ sp_L_low (v >>> (7 &&& 31)) (nI N9) = nI r := low_ex _ N9 hN9 (by omega)
                refine W.eq (g2 := F0 m 311 ls [.int (nI r), .int 1]) (by rw [er]) ?_
                clear er
                refine lv_iadd hx hb dL_law_311 ?_
                refine lv_istore (lv' := [(13, .int (1 + (nI r))), (0, .ref b), (1, .ref (ad 0 0)), (2, .ref (oa 0)), (3, .ref (oa 1)), (4, .ref (oa 2)), (5, .ref (oa 3)), (6, .ref (oa 4)), (7, .ref (oa 5)), (8, .int (nI c0)), (9, .int v), (10, .int (nI a)), (11, .int 1), (12, .int (nI bb))]) hx hb dL_law_312 hl (by decide) rfl (fun ls hl => ?_)
                refine lv_aload_n hx hb dL_law_314 rfl (lv_at hl 3 rfl) ?_
                refine lv_iconst (v := 3) hx hb dL_law_315 (by decide) ?_
                refine lv_iload hx hb dL_law_316 (lv_at hl 13 rfl) ?_
                refine lv_iadd hx hb dL_law_318 ?_
                refine lv_dup2_11 hx hb dL_law_319 rfl rfl ?_
                refine W.eq (g2 := F0 m 320 ls [.int (3 + (nI bb)), .ref (oa 0), .int (3 + (nI bb)), .ref (oa 0)]) rfl ?_
                refine va_iald hx hb hK hP 0 0 (cA := K 0) rfl rfl (i3 (vp_in_nI hb4 (by decide))) dL_law_320 ?_
                refine lv_iload hx hb dL_law_321 (lv_at hl 0 rfl) ?_
                refine lv_iadd hx hb dL_law_323 ?_
                refine vo_iast hx hb hK hP hD hS 0 (n := 7) (f := (M 0)) rfl (i3 (vp_in_nI hb4 (by decide))) dL_law_324 (fun H locs hP hD hS oq => ?_)
                have hP : va_P D vwCl [(oa 0, .inl (K 0, 7, .inl (upd (M 0) ((3 + (nI bb)).toNatClampNeg) ((M 0 ((3 + (nI bb)).toNatClampNeg)) + (1 + (nI r)))))), (oa 1, .inl (K 0, 32, .inl (M 1))), (oa 2, .inl (K 0, 32, .inl (M 2))), (oa 3, .inl (K 0, 8, .inl (M 3))), (oa 4, .inl (K 0, 48, .inl (M 4))), (oa 5, .inl (K 0, 12, .inl (M 5)))] H := hP
                have hD : va_D (fun q => s.heap.size ≤ q) [(oa 0, .inl (K 0, 7, .inl (upd (M 0) ((3 + (nI bb)).toNatClampNeg) ((M 0 ((3 + (nI bb)).toNatClampNeg)) + (1 + (nI r)))))), (oa 1, .inl (K 0, 32, .inl (M 1))), (oa 2, .inl (K 0, 32, .inl (M 2))), (oa 3, .inl (K 0, 8, .inl (M 3))), (oa 4, .inl (K 0, 48, .inl (M 4))), (oa 5, .inl (K 0, 12, .inl (M 5)))] := hD
                have hXP := XP_off (fun k9 i9 => hsep k9 i9 0) hXP oq
                have hPm := (fun (f0 : Nat → Int32) (h : va_P D vwCl [(oa 0, .inl (K 0, 7, .inl f0)), (oa 1, .inl (K 0, 32, .inl (M 1))), (oa 2, .inl (K 0, 32, .inl (M 2))), (oa 3, .inl (K 0, 8, .inl (M 3))), (oa 4, .inl (K 0, 48, .inl (M 4))), (oa 5, .inl (K 0, 12, .inl (M 5)))] H) => (show va_P D vwCl (aW K oa (um M 0 f0)) H from h)) (upd (M 0) ((3 + (nI bb)).toNatClampNeg) ((M 0 ((3 + (nI bb)).toNatClampNeg)) + (1 + (nI r)))) hP
                refine lv_aload_n hx hb dL_law_325 rfl (lv_at hl 2 rfl) ?_
                refine lv_iload hx hb dL_law_326 (lv_at hl 13 rfl) ?_
                refine lv_iload hx hb dL_law_328 (lv_at hl 0 rfl) ?_
                have hst := st_comp R hb4 hr hN10
                have hlt9 : ∀ j9, oa j9 < H.size := fun j9 => oa_lt hPm (a2 j9).2
                refine lc_X (M := (um M 0 (upd (M 0) ((3 + (nI bb)).toNatClampNeg) ((M 0 ((3 + (nI bb)).toNatClampNeg)) + (1 + (nI r)))))) (oa := oa) (As := [.int (nI bb), .int (1 + (nI r))]) (rest := []) hcw (c_X2_compensate l hl0 D K H.size ad n d S (nI bb) (1 + (nI r)) hDJ) hst.1 (cwV 2 hts gL_law_X2_compensate rfl rfl rfl (by decide +kernel) ⟨Nat.le_of_ble_eq_true rfl, Nat.le_of_ble_eq_true rfl⟩) hLE a1 a2 hsep hXP hPm hS rfl rfl hl.1 (Nat.le_of_ble_eq_true rfl) dL_law_330 hcs (fun H1 locs1 hz1 hB hPm hS1 => ?_)
                have hI2 := lI_of a1 a2 hlt9 hsep hOA (fun _ _ => Or.inl rfl) hS.1 hz1 hst.2.2 hDJ hB hPm hS1
                have hP : va_P D vwCl [(oa 0, .inl (K 0, 7, .inl (upd (M 0) ((3 + (nI bb)).toNatClampNeg) ((M 0 ((3 + (nI bb)).toNatClampNeg)) + (1 + (nI r)))))), (oa 1, .inl (K 0, 32, .inl (M 1))), (oa 2, .inl (K 0, 32, .inl (M 2))), (oa 3, .inl (K 0, 8, .inl (M 3))), (oa 4, .inl (K 0, 48, .inl (M 4))), (oa 5, .inl (K 0, 12, .inl (M 5)))] H1 := hPm
                refine W.eq (g2 := F0 m 333 ls [.int ((sp_X2_compensate S (nI bb) (1 + (nI r))).2.1)]) rfl ?_
                refine lv_aload_n hx hb dL_law_333 rfl (lv_at hl 3 rfl) ?_
                refine lv_iconst (v := 3) hx hb dL_law_334 (by decide) ?_
                refine lv_iload hx hb dL_law_335 (lv_at hl 13 rfl) ?_
                refine lv_iadd hx hb dL_law_337 ?_
                refine va_iald hx hb hK hP 0 0 (cA := K 0) rfl rfl (i3 (vp_in_nI hb4 (by decide))) dL_law_338 ?_
                refine lv_icmp_ne (tgt := 346) hx hb dL_law_339 (by decide) (fun c_339 => ?_) (fun c_339 => ?_)
                · skip
                  exact absurd hst.2.1 c_339
                · skip
                  refine lv_iconst (v := 1) hx hb dL_law_342 (by decide) ?_
                  refine lv_goto (tgt := 347) hx hb dL_law_343 (by decide) ?_
                  refine lv_istore (lv' := [(11, .int 1), (13, .int (1 + (nI r))), (0, .ref b), (1, .ref (ad 0 0)), (2, .ref (oa 0)), (3, .ref (oa 1)), (4, .ref (oa 2)), (5, .ref (oa 3)), (6, .ref (oa 4)), (7, .ref (oa 5)), (8, .int (nI c0)), (9, .int v), (10, .int (nI a)), (12, .int (nI bb))]) hx hb dL_law_347 hl (by decide) rfl (fun ls hl => ?_)
                  obtain ⟨ad2, n2, d2, S2, M2, hae, I2⟩ := hI2
                  refine lv_iload hx hb dL_law_349 (lv_at hl 0 rfl) ?_
                  refine lv_if_eq (tgt := 371) hx hb dL_law_351 (by decide) (fun c_351 => ?_) (fun c_351 => ?_)
                  · skip
                    exact absurd c_351 (by decide)
                  · skip
                    refine lv_aload_n hx hb dL_law_354 rfl (lv_at hl 3 rfl) ?_
                    refine lv_aload_n hx hb dL_law_355 rfl (lv_at hl 4 rfl) ?_
                    refine lv_aload_n hx hb dL_law_356 rfl (lv_at hl 5 rfl) ?_
                    refine lv_aload hx hb dL_law_357 (lv_at hl 6 rfl) ?_
                    refine lv_aload hx hb dL_law_359 (lv_at hl 7 rfl) ?_
                    refine W.eq (g2 := F0 m 361 ls [.ref (oa 3), .ref (oa 2), .ref (oa 1), .ref (oa 0), .ref (ad 0 0)]) rfl ?_
                    refine lv_aload hx hb dL_law_361 (lv_at hl 8 rfl) ?_
                    refine lv_aload hx hb dL_law_363 (lv_at hl 9 rfl) ?_
                    refine W.eq (g2 := F0 m 365 ls [.ref (oa 5), .ref (oa 4), .ref (oa 3), .ref (oa 2), .ref (oa 1), .ref (oa 0), .ref (ad2 0 0)]) (by rw [hae]) ?_
                    refine pu_S (As := [.ref (ad2 0 0), .ref (oa 0), .ref (oa 1), .ref (oa 2), .ref (oa 3), .ref (oa 4), .ref (oa 5)]) (rest := []) hcw (c_L_isSo l D K ad2 n2 d2 S2 oa M2 (c0 + 1) I2.2.2.1) (va_cwS 7 hts gL_law_L_isSo rfl rfl rfl (by decide +kernel) ⟨Nat.le_of_ble_eq_true rfl, Nat.le_of_ble_eq_true rfl⟩) I2.2.2.2.1 hK hE rfl rfl hl.1 (Nat.le_of_ble_eq_true rfl) dL_law_365 hcs4 ?_
                    refine W.eq (g2 := F0 m 368 ls [.int 1]) rfl ?_
                    refine lv_if_ne (tgt := 373) hx hb dL_law_368 (by decide) (fun c_368 => ?_) (fun c_368 => ?_)
                    · skip
                      exact kk _ _ ls ad2 n2 d2 S2 M2 hae I2 (lv_sub hl [2, 3, 4, 5, 6, 7, 8, 9, 10] rfl)
                    · skip
                      exact absurd c_368 (by decide)
              refine lv_if_ne (tgt := 306) hx hb dL_law_298 (by decide) (fun c_298 => ?_) (fun c_298 => ?_)
              · skip
                refine lv_bipush (v := 90) hx hb dL_law_306 (by decide) ?_
                exact hj_298 _ ls (Eq.symm (Eq.trans (if_neg c_298) (rfl))) (lv_sub hl [4, 5, 6, 7, 8, 9, 10, 11, 12, 3, 2, 1, 0] rfl)
              · skip
                refine lv_ldc hx hb hown (hts (.constant RL 90 (100000)) (by decide +kernel)) dL_law_301 ?_
                refine lv_goto (tgt := 308) hx hb dL_law_303 (by decide) ?_
                exact hj_298 _ ls (Eq.symm (Eq.trans (if_pos c_298) (rfl))) (lv_sub hl [4, 5, 6, 7, 8, 9, 10, 11, 12, 3, 2, 1, 0] rfl)
            · skip
              refine lv_aload_n hx hb dL_law_232 rfl (lv_at hl 5 rfl) ?_
              refine lv_iconst (v := 1) hx hb dL_law_233 (by decide) ?_
              refine va_iald hx hb hK hP 0 0 (cA := K 0) rfl rfl ((show vp_in 1 7 from vp_in_nI (n := 1) (by decide) (by decide))) dL_law_234 ?_
              refine W.eq (g2 := F0 m 235 ls [.int (M 0 1)]) rfl ?_
              refine lv_istore (lv' := [(12, .int (M 0 1)), (11, .int 1), (10, .int (nI a)), (9, .int v), (0, .ref b), (1, .ref (ad 0 0)), (2, .ref (oa 0)), (3, .ref (oa 1)), (4, .ref (oa 2)), (5, .ref (oa 3)), (6, .ref (oa 4)), (7, .ref (oa 5)), (8, .int (nI c0))]) hx hb dL_law_235 hl (by decide) rfl (fun ls hl => ?_)
              refine lv_aload_n hx hb dL_law_237 rfl (lv_at hl 6 rfl) ?_
              refine W.eq (g2 := F0 m 238 ls [.ref (oa 0)]) rfl ?_
              refine lv_iconst (v := 1) hx hb dL_law_238 (by decide) ?_
              refine lv_iconst (v := 1) hx hb dL_law_239 (by decide) ?_
              refine lv_iload hx hb dL_law_240 (lv_at hl 3 rfl) ?_
              refine lv_iconst (v := 5) hx hb dL_law_242 (by decide) ?_
              refine lv_ishr hx hb dL_law_243 ?_
              refine lv_bipush (v := 12) hx hb dL_law_244 (by decide) ?_
              refine pu_S (As := [.int (v >>> (5 &&& 31)), .int 12]) (rest := [.int 1, .int 1, .ref (oa 0)]) hc (c_L_low l D K (v >>> (5 &&& 31)) 12 (by decide)) (va_cwS 2 hts gL_law_L_low rfl rfl rfl (by decide +kernel) ⟨Nat.le_of_ble_eq_true rfl, Nat.le_of_ble_eq_true rfl⟩) trivial hK hE rfl rfl hl.1 (Nat.le_of_ble_eq_true rfl) dL_law_246 hcs0 ?_
              obtain ⟨r, hr12, er⟩ : ∃ r, r < 12 ∧ sp_L_low (v >>> (5 &&& 31)) 12 = nI r := low_ex _ 12 (by decide) (by decide)
              refine W.eq (g2 := F0 m 249 ls [.int (nI r), .int 1, .int 1, .ref (oa 0)]) (by rw [er]) ?_
              clear er
              refine lv_iadd hx hb dL_law_249 ?_
              refine W.eq (g2 := F0 m 250 ls [.int (1 + (nI r)), .int 1, .ref (oa 0)]) rfl ?_
              refine vo_iast hx hb hK hP hD hS 0 (n := 7) (f := (M 0)) rfl ((show vp_in 1 7 from vp_in_nI (n := 1) (by decide) (by decide))) dL_law_250 (fun H locs hP hD hS oq => ?_)
              have hP : va_P D vwCl [(oa 0, .inl (K 0, 7, .inl (upd (M 0) 1 (1 + (nI r))))), (oa 1, .inl (K 0, 32, .inl (M 1))), (oa 2, .inl (K 0, 32, .inl (M 2))), (oa 3, .inl (K 0, 8, .inl (M 3))), (oa 4, .inl (K 0, 48, .inl (M 4))), (oa 5, .inl (K 0, 12, .inl (M 5)))] H := hP
              have hD : va_D (fun q => s.heap.size ≤ q) [(oa 0, .inl (K 0, 7, .inl (upd (M 0) 1 (1 + (nI r))))), (oa 1, .inl (K 0, 32, .inl (M 1))), (oa 2, .inl (K 0, 32, .inl (M 2))), (oa 3, .inl (K 0, 8, .inl (M 3))), (oa 4, .inl (K 0, 48, .inl (M 4))), (oa 5, .inl (K 0, 12, .inl (M 5)))] := hD
              have hXP := XP_off (fun k9 i9 => hsep k9 i9 0) hXP oq
              have hPm := (fun (f0 : Nat → Int32) (h : va_P D vwCl [(oa 0, .inl (K 0, 7, .inl f0)), (oa 1, .inl (K 0, 32, .inl (M 1))), (oa 2, .inl (K 0, 32, .inl (M 2))), (oa 3, .inl (K 0, 8, .inl (M 3))), (oa 4, .inl (K 0, 48, .inl (M 4))), (oa 5, .inl (K 0, 12, .inl (M 5)))] H) => (show va_P D vwCl (aW K oa (um M 0 f0)) H from h)) (upd (M 0) 1 (1 + (nI r))) hP
              refine lv_aload_n hx hb dL_law_251 rfl (lv_at hl 5 rfl) ?_
              refine lv_aload_n hx hb dL_law_252 rfl (lv_at hl 6 rfl) ?_
              refine lv_iconst (v := 1) hx hb dL_law_253 (by decide) ?_
              refine va_iald hx hb hK hP 0 0 (cA := K 0) rfl rfl ((show vp_in 1 7 from vp_in_nI (n := 1) (by decide) (by decide))) dL_law_254 ?_
              refine W.eq (g2 := F0 m 255 ls [.int ((upd (M 0) 1 (1 + (nI r))) 1), .ref (ad 0 0)]) rfl ?_
              refine W.eq (g2 := F0 m 255 ls [.int (1 + (nI r)), .ref (ad 0 0)]) (by rw [upd_at]) ?_
              have hst := st_mark R hr12
              have hlt9 : ∀ j9, oa j9 < H.size := fun j9 => oa_lt hPm (a2 j9).2
              refine lc_X (M := (um M 0 (upd (M 0) 1 (1 + (nI r))))) (oa := oa) (As := [.int (1 + (nI r))]) (rest := []) hcw (c_X2_setMark l hl0 D K H.size ad n d S (1 + (nI r)) hDJ) hst.1 (cwV 1 hts gL_law_X2_setMark rfl rfl rfl (by decide +kernel) ⟨Nat.le_of_ble_eq_true rfl, Nat.le_of_ble_eq_true rfl⟩) hLE a1 a2 hsep hXP hPm hS rfl rfl hl.1 (Nat.le_of_ble_eq_true rfl) dL_law_255 hcs (fun H1 locs1 hz1 hB hPm hS1 => ?_)
              have hI2 := lI_of a1 a2 hlt9 hsep hOA (fun _ _ => Or.inl rfl) hS.1 hz1 hst.2.2 hDJ hB hPm hS1
              have hP : va_P D vwCl [(oa 0, .inl (K 0, 7, .inl (upd (M 0) 1 (1 + (nI r))))), (oa 1, .inl (K 0, 32, .inl (M 1))), (oa 2, .inl (K 0, 32, .inl (M 2))), (oa 3, .inl (K 0, 8, .inl (M 3))), (oa 4, .inl (K 0, 48, .inl (M 4))), (oa 5, .inl (K 0, 12, .inl (M 5)))] H1 := hPm
              refine lv_iload hx hb dL_law_258 (lv_at hl 0 rfl) ?_
              refine lv_icmp_ne (tgt := 267) hx hb dL_law_260 (by decide) (fun c_260 => ?_) (fun c_260 => ?_)
              · skip
                exact absurd hst.2.1 c_260
              · skip
                refine W.eq (g2 := F0 m 263 ls []) rfl ?_
                refine lv_iconst (v := 1) hx hb dL_law_263 (by decide) ?_
                refine lv_goto (tgt := 268) hx hb dL_law_264 (by decide) ?_
                refine lv_istore (lv' := [(11, .int 1), (12, .int (M 0 1)), (10, .int (nI a)), (9, .int v), (0, .ref b), (1, .ref (ad 0 0)), (2, .ref (oa 0)), (3, .ref (oa 1)), (4, .ref (oa 2)), (5, .ref (oa 3)), (6, .ref (oa 4)), (7, .ref (oa 5)), (8, .int (nI c0))]) hx hb dL_law_268 hl (by decide) rfl (fun ls hl => ?_)
                refine lv_goto (tgt := 349) hx hb dL_law_270 (by decide) ?_
                obtain ⟨ad2, n2, d2, S2, M2, hae, I2⟩ := hI2
                refine lv_iload hx hb dL_law_349 (lv_at hl 0 rfl) ?_
                refine lv_if_eq (tgt := 371) hx hb dL_law_351 (by decide) (fun c_351 => ?_) (fun c_351 => ?_)
                · skip
                  exact absurd c_351 (by decide)
                · skip
                  refine lv_aload_n hx hb dL_law_354 rfl (lv_at hl 5 rfl) ?_
                  refine lv_aload_n hx hb dL_law_355 rfl (lv_at hl 6 rfl) ?_
                  refine lv_aload_n hx hb dL_law_356 rfl (lv_at hl 7 rfl) ?_
                  refine lv_aload hx hb dL_law_357 (lv_at hl 8 rfl) ?_
                  refine lv_aload hx hb dL_law_359 (lv_at hl 9 rfl) ?_
                  refine lv_aload hx hb dL_law_361 (lv_at hl 10 rfl) ?_
                  refine W.eq (g2 := F0 m 363 ls [.ref (oa 4), .ref (oa 3), .ref (oa 2), .ref (oa 1), .ref (oa 0), .ref (ad 0 0)]) rfl ?_
                  refine lv_aload hx hb dL_law_363 (lv_at hl 11 rfl) ?_
                  refine W.eq (g2 := F0 m 365 ls [.ref (oa 5), .ref (oa 4), .ref (oa 3), .ref (oa 2), .ref (oa 1), .ref (oa 0), .ref (ad2 0 0)]) (by rw [hae]) ?_
                  refine pu_S (As := [.ref (ad2 0 0), .ref (oa 0), .ref (oa 1), .ref (oa 2), .ref (oa 3), .ref (oa 4), .ref (oa 5)]) (rest := []) hcw (c_L_isSo l D K ad2 n2 d2 S2 oa M2 (c0 + 1) I2.2.2.1) (va_cwS 7 hts gL_law_L_isSo rfl rfl rfl (by decide +kernel) ⟨Nat.le_of_ble_eq_true rfl, Nat.le_of_ble_eq_true rfl⟩) I2.2.2.2.1 hK hE rfl rfl hl.1 (Nat.le_of_ble_eq_true rfl) dL_law_365 hcs4 ?_
                  refine W.eq (g2 := F0 m 368 ls [.int 1]) rfl ?_
                  refine lv_if_ne (tgt := 373) hx hb dL_law_368 (by decide) (fun c_368 => ?_) (fun c_368 => ?_)
                  · skip
                    exact kk _ _ ls ad2 n2 d2 S2 M2 hae I2 (lv_sub hl [4, 5, 6, 7, 8, 9, 10, 11, 12] rfl)
                  · skip
                    exact absurd c_368 (by decide)
          · skip
            refine lv_aload_n hx hb dL_law_197 rfl (lv_at hl 4 rfl) ?_
            refine lv_iload hx hb dL_law_198 (lv_at hl 1 rfl) ?_
            refine lv_bipush (v := 12) hx hb dL_law_200 (by decide) ?_
            refine lv_isub hx hb dL_law_202 ?_
            refine lv_iload hx hb dL_law_203 (lv_at hl 2 rfl) ?_
            refine W.eq (g2 := F0 m 205 ls [.int v, .int ((nI a) - 12), .ref (ad 0 0)]) rfl ?_
            refine lv_iconst (v := 4) hx hb dL_law_205 (by decide) ?_
            refine lv_ishr hx hb dL_law_206 ?_
            refine lv_aload_n hx hb dL_law_207 rfl (lv_at hl 5 rfl) ?_
            refine lv_aload_n hx hb dL_law_208 rfl (lv_at hl 6 rfl) ?_
            refine lv_aload hx hb dL_law_209 (lv_at hl 7 rfl) ?_
            refine lv_aload hx hb dL_law_211 (lv_at hl 8 rfl) ?_
            refine lv_aload hx hb dL_law_213 (lv_at hl 9 rfl) ?_
            refine lv_aload hx hb dL_law_215 (lv_at hl 10 rfl) ?_
            refine W.eq (g2 := F0 m 217 ls [.ref (oa 5), .ref (oa 4), .ref (oa 3), .ref (oa 2), .ref (oa 1), .ref (oa 0), .int (v >>> (4 &&& 31)), .int ((nI a) - 12), .ref (ad 0 0)]) rfl ?_
            have hcn : c0 < 1000 := by omega
            refine lc_G (M := M) (n := n) (d := d) (S := S) (ad := ad) (oa := oa) (As := [.ref (ad 0 0), .int ((nI a) - 12), .int (v >>> (4 &&& 31)), .ref (oa 0), .ref (oa 1), .ref (oa 2), .ref (oa 3), .ref (oa 4), .ref (oa 5)]) (rest := []) hcw (c_L_files l hl0 D K H.size ad n d S oa M c0 ((nI a) - 12) (v >>> (4 &&& 31)) ⟨hDJ, hsep, hOA⟩ R hn0 hcn) (va_cwS 9 hts gL_law_L_files rfl rfl rfl (by decide +kernel) ⟨Nat.le_of_ble_eq_true rfl, Nat.le_of_ble_eq_true rfl⟩) hLE a1 a2 hsep hOA hXP hPm hS rfl rfl hl.1 (Nat.le_of_ble_eq_true rfl) dL_law_217 hcs (fun H locs hI2 => ?_)
            refine lv_istore (lv' := [(11, .int 1), (10, .int (nI a)), (9, .int v), (0, .ref b), (1, .ref (ad 0 0)), (2, .ref (oa 0)), (3, .ref (oa 1)), (4, .ref (oa 2)), (5, .ref (oa 3)), (6, .ref (oa 4)), (7, .ref (oa 5)), (8, .int (nI c0))]) hx hb dL_law_220 hl (by decide) rfl (fun ls hl => ?_)
            refine lv_goto (tgt := 349) hx hb dL_law_222 (by decide) ?_
            obtain ⟨ad2, n2, d2, S2, M2, hae, I2⟩ := hI2
            refine lv_iload hx hb dL_law_349 (lv_at hl 0 rfl) ?_
            refine lv_if_eq (tgt := 371) hx hb dL_law_351 (by decide) (fun c_351 => ?_) (fun c_351 => ?_)
            · skip
              exact absurd c_351 (by decide)
            · skip
              refine lv_aload_n hx hb dL_law_354 rfl (lv_at hl 4 rfl) ?_
              refine lv_aload_n hx hb dL_law_355 rfl (lv_at hl 5 rfl) ?_
              refine lv_aload_n hx hb dL_law_356 rfl (lv_at hl 6 rfl) ?_
              refine lv_aload hx hb dL_law_357 (lv_at hl 7 rfl) ?_
              refine lv_aload hx hb dL_law_359 (lv_at hl 8 rfl) ?_
              refine lv_aload hx hb dL_law_361 (lv_at hl 9 rfl) ?_
              refine W.eq (g2 := F0 m 363 ls [.ref (oa 4), .ref (oa 3), .ref (oa 2), .ref (oa 1), .ref (oa 0), .ref (ad 0 0)]) rfl ?_
              refine lv_aload hx hb dL_law_363 (lv_at hl 10 rfl) ?_
              refine W.eq (g2 := F0 m 365 ls [.ref (oa 5), .ref (oa 4), .ref (oa 3), .ref (oa 2), .ref (oa 1), .ref (oa 0), .ref (ad2 0 0)]) (by rw [hae]) ?_
              refine pu_S (As := [.ref (ad2 0 0), .ref (oa 0), .ref (oa 1), .ref (oa 2), .ref (oa 3), .ref (oa 4), .ref (oa 5)]) (rest := []) hcw (c_L_isSo l D K ad2 n2 d2 S2 oa M2 (c0 + 1) I2.2.2.1) (va_cwS 7 hts gL_law_L_isSo rfl rfl rfl (by decide +kernel) ⟨Nat.le_of_ble_eq_true rfl, Nat.le_of_ble_eq_true rfl⟩) I2.2.2.2.1 hK hE rfl rfl hl.1 (Nat.le_of_ble_eq_true rfl) dL_law_365 hcs4 ?_
              refine W.eq (g2 := F0 m 368 ls [.int 1]) rfl ?_
              refine lv_if_ne (tgt := 373) hx hb dL_law_368 (by decide) (fun c_368 => ?_) (fun c_368 => ?_)
              · skip
                exact kk _ _ ls ad2 n2 d2 S2 M2 hae I2 (lv_sub hl [3, 4, 5, 6, 7, 8, 9, 10, 11] rfl)
              · skip
                exact absurd c_368 (by decide)
        · skip
          refine lv_aload_n hx hb dL_law_142 rfl (lv_at hl 4 rfl) ?_
          refine lv_iload hx hb dL_law_143 (lv_at hl 1 rfl) ?_
          refine lv_iconst (v := 1) hx hb dL_law_145 (by decide) ?_
          refine lv_isub hx hb dL_law_146 ?_
          have hj_147 : ∀ (v147_0 : Int32) (ls : Array Slot), v147_0 = sp_L_law_j147s0 a → lv_has ls 14 [(0, .ref b), (1, .ref (ad 0 0)), (2, .ref (oa 0)), (3, .ref (oa 1)), (4, .ref (oa 2)), (5, .ref (oa 3)), (6, .ref (oa 4)), (7, .ref (oa 5)), (8, .int (nI c0)), (9, .int v), (10, .int (nI a)), (11, .int 1)] → W p l e room_1 s m #[Value.ref b] below meth c H locs cells slots Q (F0 m 172 ls [.int v147_0, .ref (ad 0 0)]) := by
            intro v147_0 ls ev147_0 hl
            subst ev147_0
            refine lv_iload hx hb dL_law_172 (lv_at hl 9 rfl) ?_
            refine lv_iconst (v := 4) hx hb dL_law_174 (by decide) ?_
            refine lv_ishr hx hb dL_law_175 ?_
            refine lv_aload_n hx hb dL_law_176 rfl (lv_at hl 2 rfl) ?_
            refine lv_aload_n hx hb dL_law_177 rfl (lv_at hl 3 rfl) ?_
            refine lv_aload hx hb dL_law_178 (lv_at hl 4 rfl) ?_
            refine lv_aload hx hb dL_law_180 (lv_at hl 5 rfl) ?_
            refine lc_G (M := M) (n := n) (d := d) (S := S) (ad := ad) (oa := oa) (As := [.ref (ad 0 0), .int (sp_L_law_j147s0 a), .int (v >>> (4 &&& 31)), .ref (oa 0), .ref (oa 1), .ref (oa 2), .ref (oa 3)]) (rest := []) hcw (c_L_tenders l hl0 D K H.size ad n d S oa M c0 (sp_L_law_j147s0 a) (v >>> (4 &&& 31)) ⟨hDJ, hsep, hOA⟩ R hn0) (va_cwS 7 hts gL_law_L_tenders rfl rfl rfl (by decide +kernel) ⟨Nat.le_of_ble_eq_true rfl, Nat.le_of_ble_eq_true rfl⟩) hLE a1 a2 hsep hOA hXP hPm hS rfl rfl hl.1 (Nat.le_of_ble_eq_true rfl) dL_law_182 hcs (fun H locs hI2 => ?_)
            refine W.eq (g2 := F0 m 185 ls [.int 1]) rfl ?_
            refine lv_istore (lv' := [(11, .int 1), (0, .ref b), (1, .ref (ad 0 0)), (2, .ref (oa 0)), (3, .ref (oa 1)), (4, .ref (oa 2)), (5, .ref (oa 3)), (6, .ref (oa 4)), (7, .ref (oa 5)), (8, .int (nI c0)), (9, .int v), (10, .int (nI a))]) hx hb dL_law_185 hl (by decide) rfl (fun ls hl => ?_)
            refine lv_goto (tgt := 349) hx hb dL_law_187 (by decide) ?_
            obtain ⟨ad2, n2, d2, S2, M2, hae, I2⟩ := hI2
            refine lv_iload hx hb dL_law_349 (lv_at hl 0 rfl) ?_
            refine lv_if_eq (tgt := 371) hx hb dL_law_351 (by decide) (fun c_351 => ?_) (fun c_351 => ?_)
            · skip
              exact absurd c_351 (by decide)
            · skip
              refine lv_aload_n hx hb dL_law_354 rfl (lv_at hl 2 rfl) ?_
              refine lv_aload_n hx hb dL_law_355 rfl (lv_at hl 3 rfl) ?_
              refine lv_aload_n hx hb dL_law_356 rfl (lv_at hl 4 rfl) ?_
              refine lv_aload hx hb dL_law_357 (lv_at hl 5 rfl) ?_
              refine lv_aload hx hb dL_law_359 (lv_at hl 6 rfl) ?_
              refine lv_aload hx hb dL_law_361 (lv_at hl 7 rfl) ?_
              refine W.eq (g2 := F0 m 363 ls [.ref (oa 4), .ref (oa 3), .ref (oa 2), .ref (oa 1), .ref (oa 0), .ref (ad 0 0)]) rfl ?_
              refine lv_aload hx hb dL_law_363 (lv_at hl 8 rfl) ?_
              refine W.eq (g2 := F0 m 365 ls [.ref (oa 5), .ref (oa 4), .ref (oa 3), .ref (oa 2), .ref (oa 1), .ref (oa 0), .ref (ad2 0 0)]) (by rw [hae]) ?_
              refine pu_S (As := [.ref (ad2 0 0), .ref (oa 0), .ref (oa 1), .ref (oa 2), .ref (oa 3), .ref (oa 4), .ref (oa 5)]) (rest := []) hcw (c_L_isSo l D K ad2 n2 d2 S2 oa M2 (c0 + 1) I2.2.2.1) (va_cwS 7 hts gL_law_L_isSo rfl rfl rfl (by decide +kernel) ⟨Nat.le_of_ble_eq_true rfl, Nat.le_of_ble_eq_true rfl⟩) I2.2.2.2.1 hK hE rfl rfl hl.1 (Nat.le_of_ble_eq_true rfl) dL_law_365 hcs4 ?_
              refine W.eq (g2 := F0 m 368 ls [.int 1]) rfl ?_
              refine lv_if_ne (tgt := 373) hx hb dL_law_368 (by decide) (fun c_368 => ?_) (fun c_368 => ?_)
              · skip
                exact kk _ _ ls ad2 n2 d2 S2 M2 hae I2 (lv_sub hl [1, 2, 3, 4, 5, 6, 7, 8, 9] rfl)
              · skip
                exact absurd c_368 (by decide)
          refine lv_if_ge (tgt := 154) hx hb dL_law_147 (by decide) (fun c_147 => ?_) (fun c_147 => ?_)
          · skip
            refine lv_iload hx hb dL_law_154 (lv_at hl 1 rfl) ?_
            refine lv_iconst (v := 1) hx hb dL_law_156 (by decide) ?_
            refine lv_isub hx hb dL_law_157 ?_
            refine lv_bipush (v := 8) hx hb dL_law_158 (by decide) ?_
            refine lv_icmp_le (tgt := 168) hx hb dL_law_160 (by decide) (fun c_160 => ?_) (fun c_160 => ?_)
            · skip
              refine lv_iload hx hb dL_law_168 (lv_at hl 1 rfl) ?_
              refine lv_iconst (v := 1) hx hb dL_law_170 (by decide) ?_
              refine lv_isub hx hb dL_law_171 ?_
              exact hj_147 _ ls (Eq.symm (Eq.trans (if_pos c_147) (Eq.trans (if_pos c_160) (rfl)))) (lv_sub hl [3, 4, 5, 6, 7, 8, 9, 10, 11, 2, 1, 0] rfl)
            · skip
              refine lv_bipush (v := 6) hx hb dL_law_163 (by decide) ?_
              refine lv_goto (tgt := 172) hx hb dL_law_165 (by decide) ?_
              exact hj_147 _ ls (Eq.symm (Eq.trans (if_pos c_147) (Eq.trans (if_neg c_160) (rfl)))) (lv_sub hl [3, 4, 5, 6, 7, 8, 9, 10, 11, 2, 1, 0] rfl)
          · skip
            refine lv_iconst (v := 0) hx hb dL_law_150 (by decide) ?_
            refine lv_goto (tgt := 172) hx hb dL_law_151 (by decide) ?_
            exact hj_147 _ ls (Eq.symm (Eq.trans (if_neg c_147) (rfl))) (lv_sub hl [3, 4, 5, 6, 7, 8, 9, 10, 11, 2, 1, 0] rfl)
      · skip
        have hn9 : n < 8 := law_n8 R c_93
        refine lv_aload_n hx hb dL_law_96 rfl (lv_at hl 6 rfl) ?_
        refine lv_iconst (v := 4) hx hb dL_law_97 (by decide) ?_
        refine lv_aload_n hx hb dL_law_98 rfl (lv_at hl 5 rfl) ?_
        refine W.eq (g2 := F0 m 99 ls [.ref (oa 0), .int 4, .ref (oa 1)]) rfl ?_
        refine lv_iconst (v := 0) hx hb dL_law_99 (by decide) ?_
        refine va_iald hx hb hK hP 0 0 (cA := K 0) rfl rfl ((show vp_in 0 7 from vp_in_nI (n := 0) (by decide) (by decide))) dL_law_100 ?_
        refine W.eq (g2 := F0 m 101 ls [.int (M 0 0), .int 4, .ref (oa 1)]) rfl ?_
        refine lv_imul hx hb dL_law_101 ?_
        refine lv_iconst (v := 2) hx hb dL_law_102 (by decide) ?_
        refine lv_iadd hx hb dL_law_103 ?_
        refine lv_iconst (v := -1) hx hb dL_law_104 (by decide) ?_
        refine vo_iast hx hb hK hP hD hS 1 (n := 32) (f := (M 1)) rfl (by rw [hn]; exact i4 (vp_in_nI hn9 (by decide)) (vp_in_nI (n := 2) (by decide) (by decide))) dL_law_105 (fun H locs hP hD hS oq => ?_)
        have hP : va_P D vwCl [(oa 0, .inl (K 0, 7, .inl (M 0))), (oa 1, .inl (K 0, 32, .inl (upd (M 1) (((4 * (M 0 0)) + 2).toNatClampNeg) (-1)))), (oa 2, .inl (K 0, 32, .inl (M 2))), (oa 3, .inl (K 0, 8, .inl (M 3))), (oa 4, .inl (K 0, 48, .inl (M 4))), (oa 5, .inl (K 0, 12, .inl (M 5)))] H := hP
        have hD : va_D (fun q => s.heap.size ≤ q) [(oa 0, .inl (K 0, 7, .inl (M 0))), (oa 1, .inl (K 0, 32, .inl (upd (M 1) (((4 * (M 0 0)) + 2).toNatClampNeg) (-1)))), (oa 2, .inl (K 0, 32, .inl (M 2))), (oa 3, .inl (K 0, 8, .inl (M 3))), (oa 4, .inl (K 0, 48, .inl (M 4))), (oa 5, .inl (K 0, 12, .inl (M 5)))] := hD
        have hXP := XP_off (fun k9 i9 => hsep k9 i9 1) hXP oq
        have hPm := (fun (f1 : Nat → Int32) (h : va_P D vwCl [(oa 0, .inl (K 0, 7, .inl (M 0))), (oa 1, .inl (K 0, 32, .inl f1)), (oa 2, .inl (K 0, 32, .inl (M 2))), (oa 3, .inl (K 0, 8, .inl (M 3))), (oa 4, .inl (K 0, 48, .inl (M 4))), (oa 5, .inl (K 0, 12, .inl (M 5)))] H) => (show va_P D vwCl (aW K oa (um M 1 f1)) H from h)) (upd (M 1) (((4 * (M 0 0)) + 2).toNatClampNeg) (-1)) hP
        refine lv_aload_n hx hb dL_law_106 rfl (lv_at hl 5 rfl) ?_
        refine W.eq (g2 := F0 m 107 ls [.ref (oa 0)]) rfl ?_
        refine lv_iconst (v := 0) hx hb dL_law_107 (by decide) ?_
        refine lv_dup2_11 hx hb dL_law_108 rfl rfl ?_
        refine va_iald hx hb hK hP 0 0 (cA := K 0) rfl rfl ((show vp_in 0 7 from vp_in_nI (n := 0) (by decide) (by decide))) dL_law_109 ?_
        refine W.eq (g2 := F0 m 110 ls [.int (M 0 0), .int 0, .ref (oa 0)]) rfl ?_
        refine lv_iconst (v := 1) hx hb dL_law_110 (by decide) ?_
        refine lv_iadd hx hb dL_law_111 ?_
        refine vo_iast hx hb hK hP hD hS 0 (n := 7) (f := (M 0)) rfl ((show vp_in 0 7 from vp_in_nI (n := 0) (by decide) (by decide))) dL_law_112 (fun H locs hP hD hS oq => ?_)
        have hP : va_P D vwCl [(oa 0, .inl (K 0, 7, .inl (upd (M 0) 0 ((M 0 0) + 1)))), (oa 1, .inl (K 0, 32, .inl (upd (M 1) (((4 * (M 0 0)) + 2).toNatClampNeg) (-1)))), (oa 2, .inl (K 0, 32, .inl (M 2))), (oa 3, .inl (K 0, 8, .inl (M 3))), (oa 4, .inl (K 0, 48, .inl (M 4))), (oa 5, .inl (K 0, 12, .inl (M 5)))] H := hP
        have hD : va_D (fun q => s.heap.size ≤ q) [(oa 0, .inl (K 0, 7, .inl (upd (M 0) 0 ((M 0 0) + 1)))), (oa 1, .inl (K 0, 32, .inl (upd (M 1) (((4 * (M 0 0)) + 2).toNatClampNeg) (-1)))), (oa 2, .inl (K 0, 32, .inl (M 2))), (oa 3, .inl (K 0, 8, .inl (M 3))), (oa 4, .inl (K 0, 48, .inl (M 4))), (oa 5, .inl (K 0, 12, .inl (M 5)))] := hD
        have hXP := XP_off (fun k9 i9 => hsep k9 i9 0) hXP oq
        have hPm := (fun (f0 : Nat → Int32) (f1 : Nat → Int32) (h : va_P D vwCl [(oa 0, .inl (K 0, 7, .inl f0)), (oa 1, .inl (K 0, 32, .inl f1)), (oa 2, .inl (K 0, 32, .inl (M 2))), (oa 3, .inl (K 0, 8, .inl (M 3))), (oa 4, .inl (K 0, 48, .inl (M 4))), (oa 5, .inl (K 0, 12, .inl (M 5)))] H) => (show va_P D vwCl (aW K oa (um (um M 0 f0) 1 f1)) H from h)) (upd (M 0) 0 ((M 0 0) + 1)) (upd (M 1) (((4 * (M 0 0)) + 2).toNatClampNeg) (-1)) hP
        refine lv_aload_n hx hb dL_law_113 rfl (lv_at hl 4 rfl) ?_
        have hst := st_open R hn9
        have hlt9 : ∀ j9, oa j9 < H.size := fun j9 => oa_lt hPm (a2 j9).2
        refine lc_X (M := (um (um M 0 (upd (M 0) 0 ((M 0 0) + 1))) 1 (upd (M 1) (((4 * (M 0 0)) + 2).toNatClampNeg) (-1)))) (oa := oa) (As := []) (rest := []) hcw (c_X2_open l hl0 D K H.size ad n d S hDJ) hst.1 (cwV 0 hts gL_law_X2_open rfl rfl rfl (by decide +kernel) ⟨Nat.le_of_ble_eq_true rfl, Nat.le_of_ble_eq_true rfl⟩) hLE a1 a2 hsep hXP hPm hS rfl rfl hl.1 (Nat.le_of_ble_eq_true rfl) dL_law_114 hcs (fun H1 locs1 hz1 hB hPm hS1 => ?_)
        obtain ⟨ad3, hX3, hD3, h93⟩ := hB
        have hI2 := lI_of a1 a2 hlt9 hsep hOA h93 hS.1 hz1 hst.2.2 hD3 hX3 hPm hS1
        have hP : va_P D vwCl [(oa 0, .inl (K 0, 7, .inl (upd (M 0) 0 ((M 0 0) + 1)))), (oa 1, .inl (K 0, 32, .inl (upd (M 1) (((4 * (M 0 0)) + 2).toNatClampNeg) (-1)))), (oa 2, .inl (K 0, 32, .inl (M 2))), (oa 3, .inl (K 0, 8, .inl (M 3))), (oa 4, .inl (K 0, 48, .inl (M 4))), (oa 5, .inl (K 0, 12, .inl (M 5)))] H1 := hPm
        refine W.eq (g2 := F0 m 117 ls [.int ((sp_X2_open n S).2.1)]) rfl ?_
        refine lv_aload_n hx hb dL_law_117 rfl (lv_at hl 5 rfl) ?_
        refine lv_iconst (v := 0) hx hb dL_law_118 (by decide) ?_
        refine va_iald hx hb hK hP 0 0 (cA := K 0) rfl rfl ((show vp_in 0 7 from vp_in_nI (n := 0) (by decide) (by decide))) dL_law_119 ?_
        refine W.eq (g2 := F0 m 120 ls [.int ((upd (M 0) 0 ((M 0 0) + 1)) 0), .int ((sp_X2_open n S).2.1)]) rfl ?_
        refine lv_iconst (v := 1) hx hb dL_law_120 (by decide) ?_
        refine lv_isub hx hb dL_law_121 ?_
        refine lv_icmp_ne (tgt := 129) hx hb dL_law_122 (by decide) (fun c_122 => ?_) (fun c_122 => ?_)
        · skip
          exact absurd hst.2.1 c_122
        · skip
          refine lv_iconst (v := 1) hx hb dL_law_125 (by decide) ?_
          refine lv_goto (tgt := 130) hx hb dL_law_126 (by decide) ?_
          refine lv_istore (lv' := [(11, .int 1), (10, .int (nI a)), (9, .int v), (0, .ref b), (1, .ref (ad 0 0)), (2, .ref (oa 0)), (3, .ref (oa 1)), (4, .ref (oa 2)), (5, .ref (oa 3)), (6, .ref (oa 4)), (7, .ref (oa 5)), (8, .int (nI c0))]) hx hb dL_law_130 hl (by decide) rfl (fun ls hl => ?_)
          refine lv_goto (tgt := 349) hx hb dL_law_132 (by decide) ?_
          obtain ⟨ad2, n2, d2, S2, M2, hae, I2⟩ := hI2
          refine lv_iload hx hb dL_law_349 (lv_at hl 0 rfl) ?_
          refine lv_if_eq (tgt := 371) hx hb dL_law_351 (by decide) (fun c_351 => ?_) (fun c_351 => ?_)
          · skip
            exact absurd c_351 (by decide)
          · skip
            refine lv_aload_n hx hb dL_law_354 rfl (lv_at hl 4 rfl) ?_
            refine lv_aload_n hx hb dL_law_355 rfl (lv_at hl 5 rfl) ?_
            refine lv_aload_n hx hb dL_law_356 rfl (lv_at hl 6 rfl) ?_
            refine lv_aload hx hb dL_law_357 (lv_at hl 7 rfl) ?_
            refine lv_aload hx hb dL_law_359 (lv_at hl 8 rfl) ?_
            refine lv_aload hx hb dL_law_361 (lv_at hl 9 rfl) ?_
            refine W.eq (g2 := F0 m 363 ls [.ref (oa 4), .ref (oa 3), .ref (oa 2), .ref (oa 1), .ref (oa 0), .ref (ad 0 0)]) rfl ?_
            refine lv_aload hx hb dL_law_363 (lv_at hl 10 rfl) ?_
            refine W.eq (g2 := F0 m 365 ls [.ref (oa 5), .ref (oa 4), .ref (oa 3), .ref (oa 2), .ref (oa 1), .ref (oa 0), .ref (ad2 0 0)]) (by rw [hae]) ?_
            refine pu_S (As := [.ref (ad2 0 0), .ref (oa 0), .ref (oa 1), .ref (oa 2), .ref (oa 3), .ref (oa 4), .ref (oa 5)]) (rest := []) hcw (c_L_isSo l D K ad2 n2 d2 S2 oa M2 (c0 + 1) I2.2.2.1) (va_cwS 7 hts gL_law_L_isSo rfl rfl rfl (by decide +kernel) ⟨Nat.le_of_ble_eq_true rfl, Nat.le_of_ble_eq_true rfl⟩) I2.2.2.2.1 hK hE rfl rfl hl.1 (Nat.le_of_ble_eq_true rfl) dL_law_365 hcs4 ?_
            refine W.eq (g2 := F0 m 368 ls [.int 1]) rfl ?_
            refine lv_if_ne (tgt := 373) hx hb dL_law_368 (by decide) (fun c_368 => ?_) (fun c_368 => ?_)
            · skip
              exact kk _ _ ls ad2 n2 d2 S2 M2 hae I2 (lv_sub hl [3, 4, 5, 6, 7, 8, 9, 10, 11] rfl)
            · skip
              exact absurd c_368 (by decide)
