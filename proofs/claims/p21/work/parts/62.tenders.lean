set_option maxHeartbeats 8000000 in
set_option maxRecDepth 100000 in
theorem c_L_tenders (l : Launch) (hl0 : l.stackTraces = false) (D : va_G) (K : Nat → ClassId) (sz : Nat) (ad : Nat → Nat → Nat) (n d : Nat) (S : Nat → Nat → Nat → Int32) (oa : Nat → Nat) (M : Nat → Nat → Int32) (cn : Nat) (p0 p1 : Int32) (hSep : Sep ad oa n d) (R : Rel n d S M cn) (hn0 : ¬ n = 0) : GMet l yL_tenders wsL_tenders 8 150 D K [.ref (ad 0 0), .int p0, .int p1, .ref (oa 0), .ref (oa 1), .ref (oa 2), .ref (oa 3)] sz ad oa (LPH D K ad oa n d S M) (GB ad oa sz D K (cn + 1)) := by
  refine Met.ofW (cc := cL_tenders) (maxL := 15) (ret := (some .boolean)) (by decide) rfl ?_
  intro p e s m args below meth c s₁ B hml hv
  obtain ⟨rfl, ⟨hsz, hZ, hX, hP, hK, hE⟩, hN⟩ := hv
  have hx := B.exec
  have hb := B.bytes
  have hr := B.returns
  have hts := atoms_spec (ws := wsL_tenders) B.pre
  have hown : s.vm.findClass RL = some m.cls := findClass_of_methodNamed B.named
  have hlocks := B.notSynchronized
  have hc : CallFix p m c cL_tenders 15 s ([.ref (ad 0 0), .int p0, .int p1, .ref (oa 0), .ref (oa 1), .ref (oa 2), .ref (oa 3)] : List Value).toArray wsL_tenders RL := ⟨hx, hb, hml, hown, hts⟩
  subst hsz
  obtain ⟨hXP, hP⟩ := hP
  obtain ⟨hDJ, hsep, hOA⟩ := hSep
  have hD : va_D (GA ad oa s.heap.size) (aW K oa M) := aW_D hOA (fun j => Or.inr ⟨j, rfl⟩)
  have hS : va_S (GA ad oa s.heap.size) s.heap s.heap [] := va_S.rf
  have hPm := hP
  have hP : va_P D vwCl [(oa 0, .inl (K 0, 7, .inl (M 0))), (oa 1, .inl (K 0, 32, .inl (M 1))), (oa 2, .inl (K 0, 32, .inl (M 2))), (oa 3, .inl (K 0, 8, .inl (M 3))), (oa 4, .inl (K 0, 48, .inl (M 4))), (oa 5, .inl (K 0, 12, .inl (M 5)))] s.heap := hP
  have hD : va_D (GA ad oa s.heap.size) [(oa 0, .inl (K 0, 7, .inl (M 0))), (oa 1, .inl (K 0, 32, .inl (M 1))), (oa 2, .inl (K 0, 32, .inl (M 2))), (oa 3, .inl (K 0, 8, .inl (M 3))), (oa 4, .inl (K 0, 48, .inl (M 4))), (oa 5, .inl (K 0, 12, .inl (M 5)))] := hD
  have hn := R.n0
  have hn8 := R.n8
  have hl := lv_entry ([.ref (ad 0 0), .int p0, .int p1, .ref (oa 0), .ref (oa 1), .ref (oa 2), .ref (oa 3)]) (n := 15) (Nat.le_of_ble_eq_true rfl)
  rw [lg_entry_eq]
  generalize (lg_sl ([.ref (ad 0 0), .int p0, .int p1, .ref (oa 0), .ref (oa 1), .ref (oa 2), .ref (oa 3)]) ++ List.replicate (15 - (lg_sl ([.ref (ad 0 0), .int p0, .int p1, .ref (oa 0), .ref (oa 1), .ref (oa 2), .ref (oa 3)])).length) Slot.unset).toArray = ls at hl ⊢
  have hl : lv_has ls 15 [(0, .ref (ad 0 0)), (1, .int p0), (2, .int p1), (3, .ref (oa 0)), (4, .ref (oa 1)), (5, .ref (oa 2)), (6, .ref (oa 3))] := hl
  refine lv_iload_n hx hb dL_tenders_0 rfl (lv_at hl 2 rfl) ?_
  refine lv_iload_n hx hb dL_tenders_1 rfl (lv_at hl 2 rfl) ?_
  refine lv_bipush (v := 9) hx hb dL_tenders_2 (by decide) ?_
  refine lv_ishr hx hb dL_tenders_4 ?_
  refine lv_iconst (v := 3) hx hb dL_tenders_5 (by decide) ?_
  refine pu_S (As := [.int (p1 >>> (9 &&& 31)), .int 3]) (rest := [.int p1]) hc (c_L_low l D K (p1 >>> (9 &&& 31)) 3 (by decide)) (va_cwS 2 hts gL_tenders_L_low rfl rfl rfl (by decide +kernel) ⟨Nat.le_of_ble_eq_true rfl, Nat.le_of_ble_eq_true rfl⟩) trivial hK hE rfl rfl hl.1 (Nat.le_of_ble_eq_true rfl) dL_tenders_6 ⟨Nat.le_of_ble_eq_true rfl, Nat.le_of_ble_eq_true rfl⟩ ?_
  have hj_9 : ∀ (v9_0 : Int32) (ls : Array Slot), v9_0 = sp_L_tenders_j9s0 M p1 → lv_has ls 15 [(0, .ref (ad 0 0)), (1, .int p0), (2, .int p1), (3, .ref (oa 0)), (4, .ref (oa 1)), (5, .ref (oa 2)), (6, .ref (oa 3))] → W p l e ({ frames := 8, cells := 4, slots := 60, locals := 150 } : Room) s m ([.ref (ad 0 0), .int p0, .int p1, .ref (oa 0), .ref (oa 1), .ref (oa 2), .ref (oa 3)] : List Value).toArray below meth c s.heap [] 0 0 (MQ below (va_Qi (fun x (_ : Unit) => x = 1) (fun _ t => GB ad oa s.heap.size D K (cn + 1) t.heap) (GA ad oa s.heap.size)) ([.ref (ad 0 0), .int p0, .int p1, .ref (oa 0), .ref (oa 1), .ref (oa 2), .ref (oa 3)] : List Value).toArray s 4 60 (GA ad oa s.heap.size)) (F0 m 26 ls [.int v9_0, .int p1]) := by
    intro v9_0 ls ev9_0 hl
    obtain ⟨N, hN0, hNn, rfl⟩ : ∃ N, 0 < N ∧ N ≤ n ∧ v9_0 = nI N := by rw [ev9_0]; unfold sp_L_tenders_j9s0; rw [hn]; exact tn_N hn0 hn8 _
    refine pu_S (As := [.int p1, .int (nI N)]) (rest := []) hc (c_L_low l D K p1 (nI N) (nI_ne0 hN0 (by omega))) (va_cwS 2 hts gL_tenders_L_low rfl rfl rfl (by decide +kernel) ⟨Nat.le_of_ble_eq_true rfl, Nat.le_of_ble_eq_true rfl⟩) trivial hK hE rfl rfl hl.1 (Nat.le_of_ble_eq_true rfl) dL_tenders_26 ⟨Nat.le_of_ble_eq_true rfl, Nat.le_of_ble_eq_true rfl⟩ ?_
    obtain ⟨r, hr9, er⟩ : ∃ r, r < N ∧ sp_L_low p1 (nI N) = nI r := low_ex p1 N hN0 (by omega)
    refine W.eq (g2 := F0 m 29 ls [.int (nI r)]) (by rw [er]) ?_
    refine lv_istore (lv' := [(7, .int (nI r)), (0, .ref (ad 0 0)), (1, .int p0), (2, .int p1), (3, .ref (oa 0)), (4, .ref (oa 1)), (5, .ref (oa 2)), (6, .ref (oa 3))]) hx hb dL_tenders_29 hl (by decide) rfl (fun ls hl => ?_)
    refine lv_iload_n hx hb dL_tenders_31 rfl (lv_at hl 3 rfl) ?_
    refine lv_bipush (v := 9) hx hb dL_tenders_32 (by decide) ?_
    refine lv_ishr hx hb dL_tenders_34 ?_
    refine lv_iconst (v := 3) hx hb dL_tenders_35 (by decide) ?_
    refine pu_S (As := [.int (p1 >>> (9 &&& 31)), .int 3]) (rest := []) hc (c_L_low l D K (p1 >>> (9 &&& 31)) 3 (by decide)) (va_cwS 2 hts gL_tenders_L_low rfl rfl rfl (by decide +kernel) ⟨Nat.le_of_ble_eq_true rfl, Nat.le_of_ble_eq_true rfl⟩) trivial hK hE rfl rfl hl.1 (Nat.le_of_ble_eq_true rfl) dL_tenders_36 ⟨Nat.le_of_ble_eq_true rfl, Nat.le_of_ble_eq_true rfl⟩ ?_
    have hj_39 : ∀ (v39_0 : Int32) (ls : Array Slot), v39_0 = sp_L_tenders_j39s0 M p1 r → lv_has ls 15 [(0, .ref (ad 0 0)), (1, .int p0), (2, .int p1), (3, .ref (oa 0)), (4, .ref (oa 1)), (5, .ref (oa 2)), (6, .ref (oa 3)), (7, .int (nI r))] → W p l e ({ frames := 8, cells := 4, slots := 60, locals := 150 } : Room) s m ([.ref (ad 0 0), .int p0, .int p1, .ref (oa 0), .ref (oa 1), .ref (oa 2), .ref (oa 3)] : List Value).toArray below meth c s.heap [] 0 0 (MQ below (va_Qi (fun x (_ : Unit) => x = 1) (fun _ t => GB ad oa s.heap.size D K (cn + 1) t.heap) (GA ad oa s.heap.size)) ([.ref (ad 0 0), .int p0, .int p1, .ref (oa 0), .ref (oa 1), .ref (oa 2), .ref (oa 3)] : List Value).toArray s 4 60 (GA ad oa s.heap.size)) (F0 m 55 ls [.int v39_0]) := by
      intro v39_0 ls ev39_0 hl
      obtain ⟨k, hk, rfl⟩ : ∃ k, k < n ∧ v39_0 = nI k := by rw [ev39_0]; unfold sp_L_tenders_j39s0; rw [hn]; exact tn_k hNn hr9 _
      clear ev39_0 er
      refine lv_istore (lv' := [(7, .int (nI k)), (0, .ref (ad 0 0)), (1, .int p0), (2, .int p1), (3, .ref (oa 0)), (4, .ref (oa 1)), (5, .ref (oa 2)), (6, .ref (oa 3))]) hx hb dL_tenders_55 hl (by decide) rfl (fun ls hl => ?_)
      refine lv_iload_n hx hb dL_tenders_57 rfl (lv_at hl 3 rfl) ?_
      refine lv_iconst (v := 4) hx hb dL_tenders_58 (by decide) ?_
      refine lv_ishr hx hb dL_tenders_59 ?_
      refine lv_iconst (v := 4) hx hb dL_tenders_60 (by decide) ?_
      refine pu_S (As := [.int (p1 >>> (4 &&& 31)), .int 4]) (rest := []) hc (c_L_low l D K (p1 >>> (4 &&& 31)) 4 (by decide)) (va_cwS 2 hts gL_tenders_L_low rfl rfl rfl (by decide +kernel) ⟨Nat.le_of_ble_eq_true rfl, Nat.le_of_ble_eq_true rfl⟩) trivial hK hE rfl rfl hl.1 (Nat.le_of_ble_eq_true rfl) dL_tenders_61 ⟨Nat.le_of_ble_eq_true rfl, Nat.le_of_ble_eq_true rfl⟩ ?_
      obtain ⟨b, hb4, eb⟩ : ∃ b, b < 4 ∧ sp_L_low (p1 >>> (4 &&& 31)) 4 = nI b := low_ex _ 4 (by decide) (by decide)
      refine W.eq (g2 := F0 m 64 ls [.int (nI b)]) (by rw [eb]) ?_
      clear eb
      refine lv_istore (lv' := [(8, .int (nI b)), (7, .int (nI k)), (0, .ref (ad 0 0)), (1, .int p0), (2, .int p1), (3, .ref (oa 0)), (4, .ref (oa 1)), (5, .ref (oa 2)), (6, .ref (oa 3))]) hx hb dL_tenders_64 hl (by decide) rfl (fun ls hl => ?_)
      refine lv_aload hx hb dL_tenders_66 (lv_at hl 6 rfl) ?_
      refine W.eq (g2 := F0 m 68 ls [.ref (oa 1)]) rfl ?_
      refine lv_iconst (v := 4) hx hb dL_tenders_68 (by decide) ?_
      refine lv_iload hx hb dL_tenders_69 (lv_at hl 1 rfl) ?_
      refine lv_imul hx hb dL_tenders_71 ?_
      refine va_iald hx hb hK hP 1 0 (cA := K 0) rfl rfl (i40 (vp_in_nI (Nat.lt_of_lt_of_le hk hn8) (by decide))) dL_tenders_72 ?_
      have hj_73 : ∀ (v73_0 : Int32) (ls : Array Slot), v73_0 = sp_L_tenders_j73s0 M k → lv_has ls 15 [(0, .ref (ad 0 0)), (1, .int p0), (2, .int p1), (3, .ref (oa 0)), (4, .ref (oa 1)), (5, .ref (oa 2)), (6, .ref (oa 3)), (7, .int (nI k)), (8, .int (nI b))] → W p l e ({ frames := 8, cells := 4, slots := 60, locals := 150 } : Room) s m ([.ref (ad 0 0), .int p0, .int p1, .ref (oa 0), .ref (oa 1), .ref (oa 2), .ref (oa 3)] : List Value).toArray below meth c s.heap [] 0 0 (MQ below (va_Qi (fun x (_ : Unit) => x = 1) (fun _ t => GB ad oa s.heap.size D K (cn + 1) t.heap) (GA ad oa s.heap.size)) ([.ref (ad 0 0), .int p0, .int p1, .ref (oa 0), .ref (oa 1), .ref (oa 2), .ref (oa 3)] : List Value).toArray s 4 60 (GA ad oa s.heap.size)) (F0 m 81 ls [.int v73_0]) := by
        intro v73_0 ls ev73_0 hl
        subst ev73_0
        refine lv_istore (lv' := [(9, .int (sp_L_tenders_j73s0 M k)), (0, .ref (ad 0 0)), (1, .int p0), (2, .int p1), (3, .ref (oa 0)), (4, .ref (oa 1)), (5, .ref (oa 2)), (6, .ref (oa 3)), (7, .int (nI k)), (8, .int (nI b))]) hx hb dL_tenders_81 hl (by decide) rfl (fun ls hl => ?_)
        refine lv_iload_n hx hb dL_tenders_83 rfl (lv_at hl 2 rfl) ?_
        refine lv_iconst (v := 5) hx hb dL_tenders_84 (by decide) ?_
        refine lv_icmp_ge (tgt := 269) hx hb dL_tenders_85 (by decide) (fun c_85 => ?_) (fun c_85 => ?_)
        · skip
          refine lv_iload_n hx hb dL_tenders_269 rfl (lv_at hl 2 rfl) ?_
          refine lv_iconst (v := 5) hx hb dL_tenders_270 (by decide) ?_
          refine lv_icmp_ne (tgt := 352) hx hb dL_tenders_271 (by decide) (fun c_271 => ?_) (fun c_271 => ?_)
          · skip
            refine lv_iload_n hx hb dL_tenders_352 rfl (lv_at hl 2 rfl) ?_
            refine lv_bipush (v := 8) hx hb dL_tenders_353 (by decide) ?_
            refine lv_icmp_ge (tgt := 489) hx hb dL_tenders_355 (by decide) (fun c_355 => ?_) (fun c_355 => ?_)
            · skip
              refine lv_aload hx hb dL_tenders_489 (lv_at hl 5 rfl) ?_
              refine lv_iconst (v := 4) hx hb dL_tenders_491 (by decide) ?_
              refine lv_iload hx hb dL_tenders_492 (lv_at hl 8 rfl) ?_
              refine lv_imul hx hb dL_tenders_494 ?_
              refine lv_iconst (v := 1) hx hb dL_tenders_495 (by decide) ?_
              refine lv_iadd hx hb dL_tenders_496 ?_
              refine va_iald hx hb hK hP 1 0 (cA := K 0) rfl rfl (i4 (vp_in_nI (Nat.lt_of_lt_of_le hk hn8) (by decide)) (show vp_in 1 4 from vp_in_nI (n := 1) (by decide) (by decide))) dL_tenders_497 ?_
              refine lv_istore (lv' := [(10, .int (M 1 (((4 * (nI k)) + 1).toNatClampNeg))), (9, .int (sp_L_tenders_j73s0 M k)), (0, .ref (ad 0 0)), (1, .int p0), (2, .int p1), (3, .ref (oa 0)), (4, .ref (oa 1)), (5, .ref (oa 2)), (6, .ref (oa 3)), (7, .int (nI k)), (8, .int (nI b))]) hx hb dL_tenders_498 hl (by decide) rfl (fun ls hl => ?_)
              refine W.eq (g2 := F0 m 500 ls []) rfl ?_
              refine lv_aload hx hb dL_tenders_500 (lv_at hl 6 rfl) ?_
              refine lv_iconst (v := 4) hx hb dL_tenders_502 (by decide) ?_
              refine lv_iload hx hb dL_tenders_503 (lv_at hl 9 rfl) ?_
              refine lv_imul hx hb dL_tenders_505 ?_
              refine va_iald hx hb hK hP 1 0 (cA := K 0) rfl rfl (i40 (vp_in_nI (Nat.lt_of_lt_of_le hk hn8) (by decide))) dL_tenders_506 ?_
              refine lv_iconst (v := 1) hx hb dL_tenders_507 (by decide) ?_
              have hj_508 : ∀ (v508_0 : Int32) (ls : Array Slot), v508_0 = sp_L_tenders_j508s0 M k → lv_has ls 15 [(0, .ref (ad 0 0)), (1, .int p0), (2, .int p1), (3, .ref (oa 0)), (4, .ref (oa 1)), (5, .ref (oa 2)), (6, .ref (oa 3)), (7, .int (nI k)), (8, .int (nI b)), (9, .int (sp_L_tenders_j73s0 M k)), (10, .int (M 1 (((4 * (nI k)) + 1).toNatClampNeg)))] → W p l e ({ frames := 8, cells := 4, slots := 60, locals := 150 } : Room) s m ([.ref (ad 0 0), .int p0, .int p1, .ref (oa 0), .ref (oa 1), .ref (oa 2), .ref (oa 3)] : List Value).toArray below meth c s.heap [] 0 0 (MQ below (va_Qi (fun x (_ : Unit) => x = 1) (fun _ t => GB ad oa s.heap.size D K (cn + 1) t.heap) (GA ad oa s.heap.size)) ([.ref (ad 0 0), .int p0, .int p1, .ref (oa 0), .ref (oa 1), .ref (oa 2), .ref (oa 3)] : List Value).toArray s 4 60 (GA ad oa s.heap.size)) (F0 m 528 ls [.int v508_0]) := by
                intro v508_0 ls ev508_0 hl
                subst ev508_0
                refine lv_istore (lv' := [(11, .int (sp_L_tenders_j508s0 M k)), (0, .ref (ad 0 0)), (1, .int p0), (2, .int p1), (3, .ref (oa 0)), (4, .ref (oa 1)), (5, .ref (oa 2)), (6, .ref (oa 3)), (7, .int (nI k)), (8, .int (nI b)), (9, .int (sp_L_tenders_j73s0 M k)), (10, .int (M 1 (((4 * (nI k)) + 1).toNatClampNeg)))]) hx hb dL_tenders_528 hl (by decide) rfl (fun ls hl => ?_)
                refine lv_iload hx hb dL_tenders_530 (lv_at hl 0 rfl) ?_
                refine lv_if_eq (tgt := 548) hx hb dL_tenders_532 (by decide) (fun c_532 => ?_) (fun c_532 => ?_)
                · skip
                  refine lv_bipush (v := 9) hx hb dL_tenders_548 (by decide) ?_
                  refine lv_istore (lv' := [(12, .int 9), (11, .int (sp_L_tenders_j508s0 M k)), (0, .ref (ad 0 0)), (1, .int p0), (2, .int p1), (3, .ref (oa 0)), (4, .ref (oa 1)), (5, .ref (oa 2)), (6, .ref (oa 3)), (7, .int (nI k)), (8, .int (nI b)), (9, .int (sp_L_tenders_j73s0 M k)), (10, .int (M 1 (((4 * (nI k)) + 1).toNatClampNeg)))]) hx hb dL_tenders_550 hl (by decide) rfl (fun ls hl => ?_)
                  refine lv_iconst (v := 1) hx hb dL_tenders_552 (by decide) ?_
                  refine lv_iload_n hx hb dL_tenders_553 rfl (lv_at hl 4 rfl) ?_
                  refine lv_bipush (v := 7) hx hb dL_tenders_554 (by decide) ?_
                  refine lv_ishr hx hb dL_tenders_556 ?_
                  refine lv_iload_n hx hb dL_tenders_557 rfl (lv_at hl 4 rfl) ?_
                  refine lv_bipush (v := 12) hx hb dL_tenders_558 (by decide) ?_
                  refine W.eq (g2 := F0 m 560 ls [.int 12, .int p1, .int (p1 >>> (7 &&& 31)), .int 1]) rfl ?_
                  refine lv_ishr hx hb dL_tenders_560 ?_
                  refine lv_bipush (v := 6) hx hb dL_tenders_561 (by decide) ?_
                  refine pu_S (As := [.int (p1 >>> (12 &&& 31)), .int 6]) (rest := [.int (p1 >>> (7 &&& 31)), .int 1]) hc (c_L_low l D K (p1 >>> (12 &&& 31)) 6 (by decide)) (va_cwS 2 hts gL_tenders_L_low rfl rfl rfl (by decide +kernel) ⟨Nat.le_of_ble_eq_true rfl, Nat.le_of_ble_eq_true rfl⟩) trivial hK hE rfl rfl hl.1 (Nat.le_of_ble_eq_true rfl) dL_tenders_563 ⟨Nat.le_of_ble_eq_true rfl, Nat.le_of_ble_eq_true rfl⟩ ?_
                  have hj_566 : ∀ (v566_0 : Int32) (ls : Array Slot), v566_0 = sp_L_tenders_j566s0 p1 → lv_has ls 15 [(0, .ref (ad 0 0)), (1, .int p0), (2, .int p1), (3, .ref (oa 0)), (4, .ref (oa 1)), (5, .ref (oa 2)), (6, .ref (oa 3)), (7, .int (nI k)), (8, .int (nI b)), (9, .int (sp_L_tenders_j73s0 M k)), (10, .int (M 1 (((4 * (nI k)) + 1).toNatClampNeg))), (11, .int (sp_L_tenders_j508s0 M k)), (12, .int 9)] → W p l e ({ frames := 8, cells := 4, slots := 60, locals := 150 } : Room) s m ([.ref (ad 0 0), .int p0, .int p1, .ref (oa 0), .ref (oa 1), .ref (oa 2), .ref (oa 3)] : List Value).toArray below meth c s.heap [] 0 0 (MQ below (va_Qi (fun x (_ : Unit) => x = 1) (fun _ t => GB ad oa s.heap.size D K (cn + 1) t.heap) (GA ad oa s.heap.size)) ([.ref (ad 0 0), .int p0, .int p1, .ref (oa 0), .ref (oa 1), .ref (oa 2), .ref (oa 3)] : List Value).toArray s 4 60 (GA ad oa s.heap.size)) (F0 m 578 ls [.int v566_0, .int (p1 >>> (7 &&& 31)), .int 1]) := by
                    intro v566_0 ls ev566_0 hl
                    obtain ⟨N9, hN9, hN10, rfl⟩ : ∃ N, 0 < N ∧ N ≤ 10 ∧ v566_0 = nI N := by rw [ev566_0]; unfold sp_L_tenders_j566s0; exact pt_N0 _
                    refine pu_S (As := [.int (p1 >>> (7 &&& 31)), .int (nI N9)]) (rest := [.int 1]) hc (c_L_low l D K (p1 >>> (7 &&& 31)) (nI N9) (nI_ne0 hN9 (by omega))) (va_cwS 2 hts gL_tenders_L_low rfl rfl rfl (by decide +kernel) ⟨Nat.le_of_ble_eq_true rfl, Nat.le_of_ble_eq_true rfl⟩) trivial hK hE rfl rfl hl.1 (Nat.le_of_ble_eq_true rfl) dL_tenders_578 ⟨Nat.le_of_ble_eq_true rfl, Nat.le_of_ble_eq_true rfl⟩ ?_
                    obtain ⟨r, hr10, er10⟩ : ∃ r, r < N9 ∧ sp_L_low (p1 >>> (7 &&& 31)) (nI N9) = nI r := low_ex _ N9 hN9 (by omega)
                    refine W.eq (g2 := F0 m 581 ls [.int (nI r), .int 1]) (by rw [er10]) ?_
                    have hrr : 1 + r ≤ 2000000 := by omega
                    refine lv_iadd hx hb dL_tenders_581 ?_
                    refine lv_istore (lv' := [(13, .int (1 + (nI r))), (0, .ref (ad 0 0)), (1, .int p0), (2, .int p1), (3, .ref (oa 0)), (4, .ref (oa 1)), (5, .ref (oa 2)), (6, .ref (oa 3)), (7, .int (nI k)), (8, .int (nI b)), (9, .int (sp_L_tenders_j73s0 M k)), (10, .int (M 1 (((4 * (nI k)) + 1).toNatClampNeg))), (11, .int (sp_L_tenders_j508s0 M k)), (12, .int 9)]) hx hb dL_tenders_582 hl (by decide) rfl (fun ls hl => ?_)
                    refine lv_iload hx hb dL_tenders_584 (lv_at hl 12 rfl) ?_
                    refine lv_if_ne (tgt := 594) hx hb dL_tenders_586 (by decide) (fun c_586 => ?_) (fun c_586 => ?_)
                    · skip
                      exact absurd c_532 c_586
                    · skip
                      refine lv_bipush (v := -3) hx hb dL_tenders_589 (by decide) ?_
                      refine lv_goto (tgt := 615) hx hb dL_tenders_591 (by decide) ?_
                      refine lv_istore (lv' := [(14, .int (-3)), (13, .int (1 + (nI r))), (0, .ref (ad 0 0)), (1, .int p0), (2, .int p1), (3, .ref (oa 0)), (4, .ref (oa 1)), (5, .ref (oa 2)), (6, .ref (oa 3)), (7, .int (nI k)), (8, .int (nI b)), (9, .int (sp_L_tenders_j73s0 M k)), (10, .int (M 1 (((4 * (nI k)) + 1).toNatClampNeg))), (11, .int (sp_L_tenders_j508s0 M k)), (12, .int 9)]) hx hb dL_tenders_615 hl (by decide) rfl (fun ls hl => ?_)
                      refine lv_iload hx hb dL_tenders_617 (lv_at hl 0 rfl) ?_
                      refine lv_if_lt (tgt := 644) hx hb dL_tenders_619 (by decide) (fun c_619 => ?_) (fun c_619 => ?_)
                      · skip
                        refine lv_aload_n hx hb dL_tenders_644 rfl (lv_at hl 2 rfl) ?_
                        refine lv_iconst (v := 3) hx hb dL_tenders_645 (by decide) ?_
                        refine lv_iload hx hb dL_tenders_646 (lv_at hl 9 rfl) ?_
                        refine lv_iload hx hb dL_tenders_648 (lv_at hl 10 rfl) ?_
                        refine lv_iload hx hb dL_tenders_650 (lv_at hl 1 rfl) ?_
                        have hst := st_pass0 (r := r) R hk hb4 c_532
                        refine gc_S (As := [.ref (ad 0 0), .int 3, .int (nI k), .int (nI b), .int (1 + (nI r))]) (rest := []) (M := M) hc (c_L_calls_passOn l hl0 D K s.heap.size ad n d S (nI k) (nI b) (1 + (nI r)) hDJ (io_passOn (tIn_of hk R.n31))) (vx_cwSW 5 hts gL_tenders_L_calls rfl rfl rfl (by decide +kernel) ⟨Nat.le_of_ble_eq_true rfl, Nat.le_of_ble_eq_true rfl⟩) hK hE hX hN hZ hXP hPm hsep hS rfl rfl hl.1 (Nat.le_of_ble_eq_true rfl) dL_tenders_652 ⟨Nat.le_of_ble_eq_true rfl, Nat.le_of_ble_eq_true rfl⟩ (fun H locs hz1 hB hPm hS => ?_)
                        refine W.eq (g2 := F0 m 655 ls [.int (if (sp_X2_passOn n S (nI k) (nI b) (1 + (nI r))).1 = 0 then (sp_X2_passOn n S (nI k) (nI b) (1 + (nI r))).2.1 else if (sp_X2_passOn n S (nI k) (nI b) (1 + (nI r))).1 = 2 then -3 else -2)]) rfl ?_
                        refine lv_iload hx hb dL_tenders_655 (lv_at hl 0 rfl) ?_
                        refine lv_icmp_ne (tgt := 664) hx hb dL_tenders_657 (by decide) (fun c_657 => ?_) (fun c_657 => ?_)
                        · skip
                          exact absurd hst.1 c_657
                        · skip
                          refine W.eq (g2 := F0 m 660 ls []) rfl ?_
                          refine lv_iconst (v := 1) hx hb dL_tenders_660 (by decide) ?_
                          refine lv_goto (tgt := 665) hx hb dL_tenders_661 (by decide) ?_
                          refine W.widen (k := 4) (n := 60) (Nat.le_of_ble_eq_true rfl) (Nat.le_of_ble_eq_true rfl) ?_
                          exact W.zret (v := 1) hx hb hr rfl (fun t9 ht9 hW => ⟨⟨_, (), rfl, rfl, by dsimp only; rw [ht9]; exact gb_t hDJ hst hB hPm⟩, hS.F ht9⟩) hS.2.2 dL_tenders_665
                      · skip
                        exact absurd (by decide) c_619
                  refine lv_if_ne (tgt := 576) hx hb dL_tenders_566 (by decide) (fun c_566 => ?_) (fun c_566 => ?_)
                  · skip
                    refine lv_iload hx hb dL_tenders_576 (lv_at hl 0 rfl) ?_
                    exact hj_566 _ ls (Eq.symm (Eq.trans (if_neg c_566) (rfl))) (lv_sub hl [2, 3, 4, 5, 6, 7, 8, 9, 10, 11, 12, 1, 0] rfl)
                  · skip
                    refine lv_iload hx hb dL_tenders_569 (lv_at hl 0 rfl) ?_
                    refine lv_iconst (v := 1) hx hb dL_tenders_571 (by decide) ?_
                    refine lv_iadd hx hb dL_tenders_572 ?_
                    refine lv_goto (tgt := 578) hx hb dL_tenders_573 (by decide) ?_
                    exact hj_566 _ ls (Eq.symm (Eq.trans (if_pos c_566) (rfl))) (lv_sub hl [2, 3, 4, 5, 6, 7, 8, 9, 10, 11, 12, 1, 0] rfl)
                · skip
                  refine lv_aload hx hb dL_tenders_535 (lv_at hl 6 rfl) ?_
                  refine lv_iconst (v := 4) hx hb dL_tenders_537 (by decide) ?_
                  refine lv_iload hx hb dL_tenders_538 (lv_at hl 8 rfl) ?_
                  refine lv_imul hx hb dL_tenders_540 ?_
                  refine lv_iload hx hb dL_tenders_541 (lv_at hl 11 rfl) ?_
                  refine W.eq (g2 := F0 m 543 ls [.int (M 1 (((4 * (nI k)) + 1).toNatClampNeg)), .int (4 * (nI k)), .ref (oa 2)]) rfl ?_
                  refine lv_iadd hx hb dL_tenders_543 ?_
                  refine va_iald hx hb hK hP 2 0 (cA := K 0) rfl rfl (i4 (vp_in_nI (Nat.lt_of_lt_of_le hk hn8) (by decide)) (pw_in R hk c_532)) dL_tenders_544 ?_
                  refine lv_goto (tgt := 550) hx hb dL_tenders_545 (by decide) ?_
                  refine lv_istore (lv' := [(12, .int (M 2 (((4 * (nI k)) + (M 1 (((4 * (nI k)) + 1).toNatClampNeg))).toNatClampNeg))), (11, .int (sp_L_tenders_j508s0 M k)), (0, .ref (ad 0 0)), (1, .int p0), (2, .int p1), (3, .ref (oa 0)), (4, .ref (oa 1)), (5, .ref (oa 2)), (6, .ref (oa 3)), (7, .int (nI k)), (8, .int (nI b)), (9, .int (sp_L_tenders_j73s0 M k)), (10, .int (M 1 (((4 * (nI k)) + 1).toNatClampNeg)))]) hx hb dL_tenders_550 hl (by decide) rfl (fun ls hl => ?_)
                  refine lv_iconst (v := 1) hx hb dL_tenders_552 (by decide) ?_
                  refine lv_iload_n hx hb dL_tenders_553 rfl (lv_at hl 4 rfl) ?_
                  refine lv_bipush (v := 7) hx hb dL_tenders_554 (by decide) ?_
                  refine lv_ishr hx hb dL_tenders_556 ?_
                  refine lv_iload_n hx hb dL_tenders_557 rfl (lv_at hl 4 rfl) ?_
                  refine lv_bipush (v := 12) hx hb dL_tenders_558 (by decide) ?_
                  refine lv_ishr hx hb dL_tenders_560 ?_
                  refine W.eq (g2 := F0 m 561 ls [.int (p1 >>> (12 &&& 31)), .int (p1 >>> (7 &&& 31)), .int 1]) rfl ?_
                  refine lv_bipush (v := 6) hx hb dL_tenders_561 (by decide) ?_
                  refine pu_S (As := [.int (p1 >>> (12 &&& 31)), .int 6]) (rest := [.int (p1 >>> (7 &&& 31)), .int 1]) hc (c_L_low l D K (p1 >>> (12 &&& 31)) 6 (by decide)) (va_cwS 2 hts gL_tenders_L_low rfl rfl rfl (by decide +kernel) ⟨Nat.le_of_ble_eq_true rfl, Nat.le_of_ble_eq_true rfl⟩) trivial hK hE rfl rfl hl.1 (Nat.le_of_ble_eq_true rfl) dL_tenders_563 ⟨Nat.le_of_ble_eq_true rfl, Nat.le_of_ble_eq_true rfl⟩ ?_
                  have hj_566 : ∀ (v566_0 : Int32) (ls : Array Slot), v566_0 = sp_L_tenders_j566s0_1 M p1 k → lv_has ls 15 [(0, .ref (ad 0 0)), (1, .int p0), (2, .int p1), (3, .ref (oa 0)), (4, .ref (oa 1)), (5, .ref (oa 2)), (6, .ref (oa 3)), (7, .int (nI k)), (8, .int (nI b)), (9, .int (sp_L_tenders_j73s0 M k)), (10, .int (M 1 (((4 * (nI k)) + 1).toNatClampNeg))), (11, .int (sp_L_tenders_j508s0 M k)), (12, .int (M 2 (((4 * (nI k)) + (M 1 (((4 * (nI k)) + 1).toNatClampNeg))).toNatClampNeg)))] → W p l e ({ frames := 8, cells := 4, slots := 60, locals := 150 } : Room) s m ([.ref (ad 0 0), .int p0, .int p1, .ref (oa 0), .ref (oa 1), .ref (oa 2), .ref (oa 3)] : List Value).toArray below meth c s.heap [] 0 0 (MQ below (va_Qi (fun x (_ : Unit) => x = 1) (fun _ t => GB ad oa s.heap.size D K (cn + 1) t.heap) (GA ad oa s.heap.size)) ([.ref (ad 0 0), .int p0, .int p1, .ref (oa 0), .ref (oa 1), .ref (oa 2), .ref (oa 3)] : List Value).toArray s 4 60 (GA ad oa s.heap.size)) (F0 m 578 ls [.int v566_0, .int (p1 >>> (7 &&& 31)), .int 1]) := by
                    intro v566_0 ls ev566_0 hl
                    obtain ⟨N9, hN9, hN10, rfl⟩ : ∃ N, 0 < N ∧ N ≤ 100001 ∧ v566_0 = nI N := by rw [ev566_0]; unfold sp_L_tenders_j566s0_1; exact pt_N1 R hk c_532 _
                    refine pu_S (As := [.int (p1 >>> (7 &&& 31)), .int (nI N9)]) (rest := [.int 1]) hc (c_L_low l D K (p1 >>> (7 &&& 31)) (nI N9) (nI_ne0 hN9 (by omega))) (va_cwS 2 hts gL_tenders_L_low rfl rfl rfl (by decide +kernel) ⟨Nat.le_of_ble_eq_true rfl, Nat.le_of_ble_eq_true rfl⟩) trivial hK hE rfl rfl hl.1 (Nat.le_of_ble_eq_true rfl) dL_tenders_578 ⟨Nat.le_of_ble_eq_true rfl, Nat.le_of_ble_eq_true rfl⟩ ?_
                    obtain ⟨r, hr10, er10⟩ : ∃ r, r < N9 ∧ sp_L_low (p1 >>> (7 &&& 31)) (nI N9) = nI r := low_ex _ N9 hN9 (by omega)
                    refine W.eq (g2 := F0 m 581 ls [.int (nI r), .int 1]) (by rw [er10]) ?_
                    have hrr : 1 + r ≤ 2000000 := by omega
                    refine lv_iadd hx hb dL_tenders_581 ?_
                    refine lv_istore (lv' := [(13, .int (1 + (nI r))), (0, .ref (ad 0 0)), (1, .int p0), (2, .int p1), (3, .ref (oa 0)), (4, .ref (oa 1)), (5, .ref (oa 2)), (6, .ref (oa 3)), (7, .int (nI k)), (8, .int (nI b)), (9, .int (sp_L_tenders_j73s0 M k)), (10, .int (M 1 (((4 * (nI k)) + 1).toNatClampNeg))), (11, .int (sp_L_tenders_j508s0 M k)), (12, .int (M 2 (((4 * (nI k)) + (M 1 (((4 * (nI k)) + 1).toNatClampNeg))).toNatClampNeg)))]) hx hb dL_tenders_582 hl (by decide) rfl (fun ls hl => ?_)
                    refine lv_iload hx hb dL_tenders_584 (lv_at hl 12 rfl) ?_
                    refine lv_if_ne (tgt := 594) hx hb dL_tenders_586 (by decide) (fun c_586 => ?_) (fun c_586 => ?_)
                    · skip
                      refine lv_iload hx hb dL_tenders_594 (lv_at hl 9 rfl) ?_
                      refine lv_iload hx hb dL_tenders_596 (lv_at hl 11 rfl) ?_
                      refine lv_icmp_eq (tgt := 608) hx hb dL_tenders_598 (by decide) (fun c_598 => ?_) (fun c_598 => ?_)
                      · skip
                        refine lv_bipush (v := -2) hx hb dL_tenders_608 (by decide) ?_
                        refine lv_goto (tgt := 615) hx hb dL_tenders_610 (by decide) ?_
                        refine lv_istore (lv' := [(14, .int (-2)), (13, .int (1 + (nI r))), (0, .ref (ad 0 0)), (1, .int p0), (2, .int p1), (3, .ref (oa 0)), (4, .ref (oa 1)), (5, .ref (oa 2)), (6, .ref (oa 3)), (7, .int (nI k)), (8, .int (nI b)), (9, .int (sp_L_tenders_j73s0 M k)), (10, .int (M 1 (((4 * (nI k)) + 1).toNatClampNeg))), (11, .int (sp_L_tenders_j508s0 M k)), (12, .int (M 2 (((4 * (nI k)) + (M 1 (((4 * (nI k)) + 1).toNatClampNeg))).toNatClampNeg)))]) hx hb dL_tenders_615 hl (by decide) rfl (fun ls hl => ?_)
                        refine lv_iload hx hb dL_tenders_617 (lv_at hl 0 rfl) ?_
                        refine lv_if_lt (tgt := 644) hx hb dL_tenders_619 (by decide) (fun c_619 => ?_) (fun c_619 => ?_)
                        · skip
                          refine lv_aload_n hx hb dL_tenders_644 rfl (lv_at hl 2 rfl) ?_
                          refine lv_iconst (v := 3) hx hb dL_tenders_645 (by decide) ?_
                          refine lv_iload hx hb dL_tenders_646 (lv_at hl 9 rfl) ?_
                          refine lv_iload hx hb dL_tenders_648 (lv_at hl 10 rfl) ?_
                          refine lv_iload hx hb dL_tenders_650 (lv_at hl 1 rfl) ?_
                          have hst := st_passA R hk hb4 hrr c_532 c_598
                          refine gc_S (As := [.ref (ad 0 0), .int 3, .int (nI k), .int (nI b), .int (1 + (nI r))]) (rest := []) (M := M) hc (c_L_calls_passOn l hl0 D K s.heap.size ad n d S (nI k) (nI b) (1 + (nI r)) hDJ (io_passOn (tIn_of hk R.n31))) (vx_cwSW 5 hts gL_tenders_L_calls rfl rfl rfl (by decide +kernel) ⟨Nat.le_of_ble_eq_true rfl, Nat.le_of_ble_eq_true rfl⟩) hK hE hX hN hZ hXP hPm hsep hS rfl rfl hl.1 (Nat.le_of_ble_eq_true rfl) dL_tenders_652 ⟨Nat.le_of_ble_eq_true rfl, Nat.le_of_ble_eq_true rfl⟩ (fun H locs hz1 hB hPm hS => ?_)
                          refine W.eq (g2 := F0 m 655 ls [.int (if (sp_X2_passOn n S (nI k) (nI b) (1 + (nI r))).1 = 0 then (sp_X2_passOn n S (nI k) (nI b) (1 + (nI r))).2.1 else if (sp_X2_passOn n S (nI k) (nI b) (1 + (nI r))).1 = 2 then -3 else -2)]) rfl ?_
                          refine lv_iload hx hb dL_tenders_655 (lv_at hl 0 rfl) ?_
                          refine lv_icmp_ne (tgt := 664) hx hb dL_tenders_657 (by decide) (fun c_657 => ?_) (fun c_657 => ?_)
                          · skip
                            exact absurd hst.1 c_657
                          · skip
                            refine W.eq (g2 := F0 m 660 ls []) rfl ?_
                            refine lv_iconst (v := 1) hx hb dL_tenders_660 (by decide) ?_
                            refine lv_goto (tgt := 665) hx hb dL_tenders_661 (by decide) ?_
                            refine W.widen (k := 4) (n := 60) (Nat.le_of_ble_eq_true rfl) (Nat.le_of_ble_eq_true rfl) ?_
                            exact W.zret (v := 1) hx hb hr rfl (fun t9 ht9 hW => ⟨⟨_, (), rfl, rfl, by dsimp only; rw [ht9]; exact gb_t hDJ hst hB hPm⟩, hS.F ht9⟩) hS.2.2 dL_tenders_665
                        · skip
                          exact absurd (by decide) c_619
                      · skip
                        refine lv_iload hx hb dL_tenders_601 (lv_at hl 0 rfl) ?_
                        refine lv_iload hx hb dL_tenders_603 (lv_at hl 13 rfl) ?_
                        refine lv_icmp_le (tgt := 613) hx hb dL_tenders_605 (by decide) (fun c_605 => ?_) (fun c_605 => ?_)
                        · skip
                          refine lv_iload hx hb dL_tenders_613 (lv_at hl 11 rfl) ?_
                          refine lv_istore (lv' := [(14, .int (M 1 (((4 * (nI k)) + 1).toNatClampNeg))), (13, .int (1 + (nI r))), (0, .ref (ad 0 0)), (1, .int p0), (2, .int p1), (3, .ref (oa 0)), (4, .ref (oa 1)), (5, .ref (oa 2)), (6, .ref (oa 3)), (7, .int (nI k)), (8, .int (nI b)), (9, .int (sp_L_tenders_j73s0 M k)), (10, .int (M 1 (((4 * (nI k)) + 1).toNatClampNeg))), (11, .int (sp_L_tenders_j508s0 M k)), (12, .int (M 2 (((4 * (nI k)) + (M 1 (((4 * (nI k)) + 1).toNatClampNeg))).toNatClampNeg)))]) hx hb dL_tenders_615 hl (by decide) rfl (fun ls hl => ?_)
                          refine lv_iload hx hb dL_tenders_617 (lv_at hl 0 rfl) ?_
                          refine lv_if_lt (tgt := 644) hx hb dL_tenders_619 (by decide) (fun c_619 => ?_) (fun c_619 => ?_)
                          · skip
                            exact absurd c_619 (pw_nn R hk c_532)
                          · skip
                            refine lv_aload hx hb dL_tenders_622 (lv_at hl 6 rfl) ?_
                            refine lv_iconst (v := 4) hx hb dL_tenders_624 (by decide) ?_
                            refine lv_iload hx hb dL_tenders_625 (lv_at hl 9 rfl) ?_
                            refine lv_imul hx hb dL_tenders_627 ?_
                            refine W.eq (g2 := F0 m 628 ls [.int (4 * (nI k)), .ref (oa 1)]) rfl ?_
                            refine lv_iconst (v := 2) hx hb dL_tenders_628 (by decide) ?_
                            refine lv_iadd hx hb dL_tenders_629 ?_
                            refine lv_iload hx hb dL_tenders_630 (lv_at hl 10 rfl) ?_
                            refine vo_iast hx hb hK hP hD hS 1 (n := 32) (f := (M 1)) rfl (i4 (vp_in_nI (Nat.lt_of_lt_of_le hk hn8) (by decide)) (show vp_in 2 4 from vp_in_nI (n := 2) (by decide) (by decide))) dL_tenders_632 (fun H locs hP hD hS oq => ?_)
                            have hP : va_P D vwCl [(oa 0, .inl (K 0, 7, .inl (M 0))), (oa 1, .inl (K 0, 32, .inl (upd (M 1) (((4 * (nI k)) + 2).toNatClampNeg) (nI b)))), (oa 2, .inl (K 0, 32, .inl (M 2))), (oa 3, .inl (K 0, 8, .inl (M 3))), (oa 4, .inl (K 0, 48, .inl (M 4))), (oa 5, .inl (K 0, 12, .inl (M 5)))] H := hP
                            have hD : va_D (GA ad oa s.heap.size) [(oa 0, .inl (K 0, 7, .inl (M 0))), (oa 1, .inl (K 0, 32, .inl (upd (M 1) (((4 * (nI k)) + 2).toNatClampNeg) (nI b)))), (oa 2, .inl (K 0, 32, .inl (M 2))), (oa 3, .inl (K 0, 8, .inl (M 3))), (oa 4, .inl (K 0, 48, .inl (M 4))), (oa 5, .inl (K 0, 12, .inl (M 5)))] := hD
                            have hXP := XP_off (fun k9 i9 => hsep k9 i9 1) hXP oq
                            have hPm := (fun (f1 : Nat → Int32) (h : va_P D vwCl [(oa 0, .inl (K 0, 7, .inl (M 0))), (oa 1, .inl (K 0, 32, .inl f1)), (oa 2, .inl (K 0, 32, .inl (M 2))), (oa 3, .inl (K 0, 8, .inl (M 3))), (oa 4, .inl (K 0, 48, .inl (M 4))), (oa 5, .inl (K 0, 12, .inl (M 5)))] H) => (show va_P D vwCl (aW K oa (um M 1 f1)) H from h)) (upd (M 1) (((4 * (nI k)) + 2).toNatClampNeg) (nI b)) hP
                            refine lv_aload hx hb dL_tenders_633 (lv_at hl 6 rfl) ?_
                            refine lv_iconst (v := 4) hx hb dL_tenders_635 (by decide) ?_
                            refine lv_iload hx hb dL_tenders_636 (lv_at hl 9 rfl) ?_
                            refine lv_imul hx hb dL_tenders_638 ?_
                            refine W.eq (g2 := F0 m 639 ls [.int (4 * (nI k)), .ref (oa 1)]) rfl ?_
                            refine lv_iconst (v := 3) hx hb dL_tenders_639 (by decide) ?_
                            refine lv_iadd hx hb dL_tenders_640 ?_
                            refine lv_iload hx hb dL_tenders_641 (lv_at hl 1 rfl) ?_
                            refine vo_iast hx hb hK hP hD hS 1 (n := 32) (f := (upd (M 1) (((4 * (nI k)) + 2).toNatClampNeg) (nI b))) rfl (i4 (vp_in_nI (Nat.lt_of_lt_of_le hk hn8) (by decide)) (show vp_in 3 4 from vp_in_nI (n := 3) (by decide) (by decide))) dL_tenders_643 (fun H locs hP hD hS oq => ?_)
                            have hP : va_P D vwCl [(oa 0, .inl (K 0, 7, .inl (M 0))), (oa 1, .inl (K 0, 32, .inl (upd (upd (M 1) (((4 * (nI k)) + 2).toNatClampNeg) (nI b)) (((4 * (nI k)) + 3).toNatClampNeg) (1 + (nI r))))), (oa 2, .inl (K 0, 32, .inl (M 2))), (oa 3, .inl (K 0, 8, .inl (M 3))), (oa 4, .inl (K 0, 48, .inl (M 4))), (oa 5, .inl (K 0, 12, .inl (M 5)))] H := hP
                            have hD : va_D (GA ad oa s.heap.size) [(oa 0, .inl (K 0, 7, .inl (M 0))), (oa 1, .inl (K 0, 32, .inl (upd (upd (M 1) (((4 * (nI k)) + 2).toNatClampNeg) (nI b)) (((4 * (nI k)) + 3).toNatClampNeg) (1 + (nI r))))), (oa 2, .inl (K 0, 32, .inl (M 2))), (oa 3, .inl (K 0, 8, .inl (M 3))), (oa 4, .inl (K 0, 48, .inl (M 4))), (oa 5, .inl (K 0, 12, .inl (M 5)))] := hD
                            have hXP := XP_off (fun k9 i9 => hsep k9 i9 1) hXP oq
                            have hPm := (fun (f1 : Nat → Int32) (h : va_P D vwCl [(oa 0, .inl (K 0, 7, .inl (M 0))), (oa 1, .inl (K 0, 32, .inl f1)), (oa 2, .inl (K 0, 32, .inl (M 2))), (oa 3, .inl (K 0, 8, .inl (M 3))), (oa 4, .inl (K 0, 48, .inl (M 4))), (oa 5, .inl (K 0, 12, .inl (M 5)))] H) => (show va_P D vwCl (aW K oa (um M 1 f1)) H from h)) (upd (upd (M 1) (((4 * (nI k)) + 2).toNatClampNeg) (nI b)) (((4 * (nI k)) + 3).toNatClampNeg) (1 + (nI r))) hP
                            refine lv_aload_n hx hb dL_tenders_644 rfl (lv_at hl 2 rfl) ?_
                            refine lv_iconst (v := 3) hx hb dL_tenders_645 (by decide) ?_
                            refine lv_iload hx hb dL_tenders_646 (lv_at hl 9 rfl) ?_
                            refine lv_iload hx hb dL_tenders_648 (lv_at hl 10 rfl) ?_
                            refine W.eq (g2 := F0 m 650 ls [.int (nI b), .int (nI k), .int 3, .ref (ad 0 0)]) rfl ?_
                            refine lv_iload hx hb dL_tenders_650 (lv_at hl 1 rfl) ?_
                            have hst := st_passC R hk hb4 hrr c_532 c_598 c_605
                            refine gc_S (As := [.ref (ad 0 0), .int 3, .int (nI k), .int (nI b), .int (1 + (nI r))]) (rest := []) (M := (um M 1 (upd (upd (M 1) (((4 * (nI k)) + 2).toNatClampNeg) (nI b)) (((4 * (nI k)) + 3).toNatClampNeg) (1 + (nI r))))) hc (c_L_calls_passOn l hl0 D K H.size ad n d S (nI k) (nI b) (1 + (nI r)) hDJ (io_passOn (tIn_of hk R.n31))) (vx_cwSW 5 hts gL_tenders_L_calls rfl rfl rfl (by decide +kernel) ⟨Nat.le_of_ble_eq_true rfl, Nat.le_of_ble_eq_true rfl⟩) hK hE hX hN hZ hXP hPm hsep hS rfl rfl hl.1 (Nat.le_of_ble_eq_true rfl) dL_tenders_652 ⟨Nat.le_of_ble_eq_true rfl, Nat.le_of_ble_eq_true rfl⟩ (fun H locs hz1 hB hPm hS => ?_)
                            refine W.eq (g2 := F0 m 655 ls [.int (if (sp_X2_passOn n S (nI k) (nI b) (1 + (nI r))).1 = 0 then (sp_X2_passOn n S (nI k) (nI b) (1 + (nI r))).2.1 else if (sp_X2_passOn n S (nI k) (nI b) (1 + (nI r))).1 = 2 then -3 else -2)]) rfl ?_
                            refine lv_iload hx hb dL_tenders_655 (lv_at hl 0 rfl) ?_
                            refine lv_icmp_ne (tgt := 664) hx hb dL_tenders_657 (by decide) (fun c_657 => ?_) (fun c_657 => ?_)
                            · skip
                              exact absurd hst.1 c_657
                            · skip
                              refine lv_iconst (v := 1) hx hb dL_tenders_660 (by decide) ?_
                              refine lv_goto (tgt := 665) hx hb dL_tenders_661 (by decide) ?_
                              refine W.widen (k := 4) (n := 60) (Nat.le_of_ble_eq_true rfl) (Nat.le_of_ble_eq_true rfl) ?_
                              exact W.zret (v := 1) hx hb hr rfl (fun t9 ht9 hW => ⟨⟨_, (), rfl, rfl, by dsimp only; rw [ht9]; exact gb_t hDJ hst hB hPm⟩, hS.F ht9⟩) hS.2.2 dL_tenders_665
                        · skip
                          refine lv_bipush (v := -2) hx hb dL_tenders_608 (by decide) ?_
                          refine lv_goto (tgt := 615) hx hb dL_tenders_610 (by decide) ?_
                          refine lv_istore (lv' := [(14, .int (-2)), (13, .int (1 + (nI r))), (0, .ref (ad 0 0)), (1, .int p0), (2, .int p1), (3, .ref (oa 0)), (4, .ref (oa 1)), (5, .ref (oa 2)), (6, .ref (oa 3)), (7, .int (nI k)), (8, .int (nI b)), (9, .int (sp_L_tenders_j73s0 M k)), (10, .int (M 1 (((4 * (nI k)) + 1).toNatClampNeg))), (11, .int (sp_L_tenders_j508s0 M k)), (12, .int (M 2 (((4 * (nI k)) + (M 1 (((4 * (nI k)) + 1).toNatClampNeg))).toNatClampNeg)))]) hx hb dL_tenders_615 hl (by decide) rfl (fun ls hl => ?_)
                          refine lv_iload hx hb dL_tenders_617 (lv_at hl 0 rfl) ?_
                          refine lv_if_lt (tgt := 644) hx hb dL_tenders_619 (by decide) (fun c_619 => ?_) (fun c_619 => ?_)
                          · skip
                            refine lv_aload_n hx hb dL_tenders_644 rfl (lv_at hl 2 rfl) ?_
                            refine lv_iconst (v := 3) hx hb dL_tenders_645 (by decide) ?_
                            refine lv_iload hx hb dL_tenders_646 (lv_at hl 9 rfl) ?_
                            refine lv_iload hx hb dL_tenders_648 (lv_at hl 10 rfl) ?_
                            refine lv_iload hx hb dL_tenders_650 (lv_at hl 1 rfl) ?_
                            have hst := st_passB R hk hb4 hrr c_532 c_598 c_605
                            refine gc_S (As := [.ref (ad 0 0), .int 3, .int (nI k), .int (nI b), .int (1 + (nI r))]) (rest := []) (M := M) hc (c_L_calls_passOn l hl0 D K s.heap.size ad n d S (nI k) (nI b) (1 + (nI r)) hDJ (io_passOn (tIn_of hk R.n31))) (vx_cwSW 5 hts gL_tenders_L_calls rfl rfl rfl (by decide +kernel) ⟨Nat.le_of_ble_eq_true rfl, Nat.le_of_ble_eq_true rfl⟩) hK hE hX hN hZ hXP hPm hsep hS rfl rfl hl.1 (Nat.le_of_ble_eq_true rfl) dL_tenders_652 ⟨Nat.le_of_ble_eq_true rfl, Nat.le_of_ble_eq_true rfl⟩ (fun H locs hz1 hB hPm hS => ?_)
                            refine W.eq (g2 := F0 m 655 ls [.int (if (sp_X2_passOn n S (nI k) (nI b) (1 + (nI r))).1 = 0 then (sp_X2_passOn n S (nI k) (nI b) (1 + (nI r))).2.1 else if (sp_X2_passOn n S (nI k) (nI b) (1 + (nI r))).1 = 2 then -3 else -2)]) rfl ?_
                            refine lv_iload hx hb dL_tenders_655 (lv_at hl 0 rfl) ?_
                            refine lv_icmp_ne (tgt := 664) hx hb dL_tenders_657 (by decide) (fun c_657 => ?_) (fun c_657 => ?_)
                            · skip
                              exact absurd hst.1 c_657
                            · skip
                              refine W.eq (g2 := F0 m 660 ls []) rfl ?_
                              refine lv_iconst (v := 1) hx hb dL_tenders_660 (by decide) ?_
                              refine lv_goto (tgt := 665) hx hb dL_tenders_661 (by decide) ?_
                              refine W.widen (k := 4) (n := 60) (Nat.le_of_ble_eq_true rfl) (Nat.le_of_ble_eq_true rfl) ?_
                              exact W.zret (v := 1) hx hb hr rfl (fun t9 ht9 hW => ⟨⟨_, (), rfl, rfl, by dsimp only; rw [ht9]; exact gb_t hDJ hst hB hPm⟩, hS.F ht9⟩) hS.2.2 dL_tenders_665
                          · skip
                            exact absurd (by decide) c_619
                    · skip
                      exact absurd c_586 c_532
                  refine lv_if_ne (tgt := 576) hx hb dL_tenders_566 (by decide) (fun c_566 => ?_) (fun c_566 => ?_)
                  · skip
                    refine lv_iload hx hb dL_tenders_576 (lv_at hl 0 rfl) ?_
                    exact hj_566 _ ls (Eq.symm (Eq.trans (if_neg c_566) (rfl))) (lv_sub hl [2, 3, 4, 5, 6, 7, 8, 9, 10, 11, 12, 1, 0] rfl)
                  · skip
                    refine lv_iload hx hb dL_tenders_569 (lv_at hl 0 rfl) ?_
                    refine lv_iconst (v := 1) hx hb dL_tenders_571 (by decide) ?_
                    refine lv_iadd hx hb dL_tenders_572 ?_
                    refine lv_goto (tgt := 578) hx hb dL_tenders_573 (by decide) ?_
                    exact hj_566 _ ls (Eq.symm (Eq.trans (if_pos c_566) (rfl))) (lv_sub hl [2, 3, 4, 5, 6, 7, 8, 9, 10, 11, 12, 1, 0] rfl)
              refine lv_icmp_ne (tgt := 527) hx hb dL_tenders_508 (by decide) (fun c_508 => ?_) (fun c_508 => ?_)
              · skip
                refine lv_iconst (v := 0) hx hb dL_tenders_527 (by decide) ?_
                exact hj_508 _ ls (Eq.symm (Eq.trans (if_neg c_508) (rfl))) (lv_sub hl [2, 3, 4, 5, 6, 7, 8, 9, 10, 1, 0] rfl)
              · skip
                refine lv_aload hx hb dL_tenders_511 (lv_at hl 6 rfl) ?_
                refine lv_iconst (v := 4) hx hb dL_tenders_513 (by decide) ?_
                refine lv_iload hx hb dL_tenders_514 (lv_at hl 9 rfl) ?_
                refine lv_imul hx hb dL_tenders_516 ?_
                refine lv_iconst (v := 2) hx hb dL_tenders_517 (by decide) ?_
                refine lv_iadd hx hb dL_tenders_518 ?_
                refine va_iald hx hb hK hP 1 0 (cA := K 0) rfl rfl (i4 (vp_in_nI (Nat.lt_of_lt_of_le hk hn8) (by decide)) (show vp_in 2 4 from vp_in_nI (n := 2) (by decide) (by decide))) dL_tenders_519 ?_
                refine W.eq (g2 := F0 m 520 ls [.int (M 1 (((4 * (nI k)) + 2).toNatClampNeg))]) rfl ?_
                refine lv_if_ge (tgt := 527) hx hb dL_tenders_520 (by decide) (fun c_520 => ?_) (fun c_520 => ?_)
                · skip
                  refine lv_iconst (v := 0) hx hb dL_tenders_527 (by decide) ?_
                  exact hj_508 _ ls (Eq.symm (Eq.trans (if_pos c_508) (Eq.trans (if_pos c_520) (rfl)))) (lv_sub hl [2, 3, 4, 5, 6, 7, 8, 9, 10, 1, 0] rfl)
                · skip
                  refine lv_iconst (v := 1) hx hb dL_tenders_523 (by decide) ?_
                  refine lv_goto (tgt := 528) hx hb dL_tenders_524 (by decide) ?_
                  exact hj_508 _ ls (Eq.symm (Eq.trans (if_pos c_508) (Eq.trans (if_neg c_520) (rfl)))) (lv_sub hl [2, 3, 4, 5, 6, 7, 8, 9, 10, 1, 0] rfl)
            · skip
              refine lv_iconst (v := -1) hx hb dL_tenders_358 (by decide) ?_
              refine lv_istore (lv' := [(10, .int (-1)), (9, .int (sp_L_tenders_j73s0 M k)), (0, .ref (ad 0 0)), (1, .int p0), (2, .int p1), (3, .ref (oa 0)), (4, .ref (oa 1)), (5, .ref (oa 2)), (6, .ref (oa 3)), (7, .int (nI k)), (8, .int (nI b))]) hx hb dL_tenders_359 hl (by decide) rfl (fun ls hl => ?_)
              refine lv_iconst (v := 3) hx hb dL_tenders_361 (by decide) ?_
              refine lv_istore (lv' := [(11, .int 3), (10, .int (-1)), (9, .int (sp_L_tenders_j73s0 M k)), (0, .ref (ad 0 0)), (1, .int p0), (2, .int p1), (3, .ref (oa 0)), (4, .ref (oa 1)), (5, .ref (oa 2)), (6, .ref (oa 3)), (7, .int (nI k)), (8, .int (nI b))]) hx hb dL_tenders_362 hl (by decide) rfl (fun ls hl => ?_)
              have hloop_364 : ∀ (j : Nat), j ≤ 4 → ∀ (bs x11 : Int32) (ls : Array Slot), x11 = nI j - 1 → (bs = -1 ∨ ∃ i, i < 4 ∧ bs = nI i) → sp_L_tenders_A M k j bs = (sp_L_tenders_A M k 4 (-1)) → lv_has ls 15 [(0, .ref (ad 0 0)), (1, .int p0), (2, .int p1), (3, .ref (oa 0)), (4, .ref (oa 1)), (5, .ref (oa 2)), (6, .ref (oa 3)), (7, .int (nI k)), (8, .int (nI b)), (9, .int (sp_L_tenders_j73s0 M k)), (10, .int bs), (11, .int x11)] → W p l e ({ frames := 8, cells := 4, slots := 60, locals := 150 } : Room) s m ([.ref (ad 0 0), .int p0, .int p1, .ref (oa 0), .ref (oa 1), .ref (oa 2), .ref (oa 3)] : List Value).toArray below meth c s.heap [] 0 0 (MQ below (va_Qi (fun x (_ : Unit) => x = 1) (fun _ t => GB ad oa s.heap.size D K (cn + 1) t.heap) (GA ad oa s.heap.size)) ([.ref (ad 0 0), .int p0, .int p1, .ref (oa 0), .ref (oa 1), .ref (oa 2), .ref (oa 3)] : List Value).toArray s 4 60 (GA ad oa s.heap.size)) (F0 m 364 ls []) := by
                intro j
                induction j with
                | zero =>
                  intro _ bs x11 ls ex11 hbs hA_11 hl
                  have ex11 : x11 = -1 := by rw [ex11]; decide
                  subst ex11
                  have hA_11 : bs = (sp_L_tenders_A M k 4 (-1)) := hA_11
                  rw [hA_11] at hl hbs
                  clear hA_11
                  refine lv_iload hx hb dL_tenders_364 (lv_at hl 11 rfl) ?_
                  refine W.eq (g2 := F0 m 366 ls [.int (-1)]) rfl ?_
                  refine lv_if_lt (tgt := 426) hx hb dL_tenders_366 (by decide) (fun c_366 => ?_) (fun c_366 => ?_)
                  · skip
                    refine lv_iload hx hb dL_tenders_426 (lv_at hl 9 rfl) ?_
                    refine lv_if_eq (tgt := 459) hx hb dL_tenders_428 (by decide) (fun c_428 => ?_) (fun c_428 => ?_)
                    · skip
                      refine lv_aload_n hx hb dL_tenders_459 rfl (lv_at hl 0 rfl) ?_
                      refine lv_iconst (v := 2) hx hb dL_tenders_460 (by decide) ?_
                      refine lv_iload hx hb dL_tenders_461 (lv_at hl 7 rfl) ?_
                      refine lv_iconst (v := 0) hx hb dL_tenders_463 (by decide) ?_
                      refine lv_iconst (v := 0) hx hb dL_tenders_464 (by decide) ?_
                      have hst := st_award0 R hk c_428
                      refine gc_S (As := [.ref (ad 0 0), .int 2, .int (nI k), .int 0, .int 0]) (rest := []) (M := M) hc (c_L_calls_award l hl0 D K s.heap.size ad n d S (nI k) 0 0 hDJ (io_award (tIn_of hk R.n31))) (vx_cwSW 5 hts gL_tenders_L_calls rfl rfl rfl (by decide +kernel) ⟨Nat.le_of_ble_eq_true rfl, Nat.le_of_ble_eq_true rfl⟩) hK hE hX hN hZ hXP hPm hsep hS rfl rfl hl.1 (Nat.le_of_ble_eq_true rfl) dL_tenders_465 ⟨Nat.le_of_ble_eq_true rfl, Nat.le_of_ble_eq_true rfl⟩ (fun H locs hz1 hB hPm hS => ?_)
                      refine W.eq (g2 := F0 m 468 ls [.int (if (sp_X2_award n S (nI k)).1 = 0 then (sp_X2_award n S (nI k)).2.1 else if (sp_X2_award n S (nI k)).1 = 2 then -3 else -3)]) rfl ?_
                      refine lv_iload hx hb dL_tenders_468 (lv_at hl 9 rfl) ?_
                      refine lv_if_eq (tgt := 478) hx hb dL_tenders_470 (by decide) (fun c_470 => ?_) (fun c_470 => ?_)
                      · skip
                        refine lv_bipush (v := -3) hx hb dL_tenders_478 (by decide) ?_
                        refine lv_icmp_ne (tgt := 487) hx hb dL_tenders_480 (by decide) (fun c_480 => ?_) (fun c_480 => ?_)
                        · skip
                          exact absurd hst.1 c_480
                        · skip
                          refine lv_iconst (v := 1) hx hb dL_tenders_483 (by decide) ?_
                          refine lv_goto (tgt := 488) hx hb dL_tenders_484 (by decide) ?_
                          refine W.widen (k := 4) (n := 60) (Nat.le_of_ble_eq_true rfl) (Nat.le_of_ble_eq_true rfl) ?_
                          exact W.zret (v := 1) hx hb hr rfl (fun t9 ht9 hW => ⟨⟨_, (), rfl, rfl, by dsimp only; rw [ht9]; exact gb_t hDJ hst hB hPm⟩, hS.F ht9⟩) hS.2.2 dL_tenders_488
                      · skip
                        exact absurd c_428 c_470
                    · skip
                      refine lv_aload hx hb dL_tenders_431 (lv_at hl 4 rfl) ?_
                      refine lv_iconst (v := 4) hx hb dL_tenders_433 (by decide) ?_
                      refine lv_iload hx hb dL_tenders_434 (lv_at hl 7 rfl) ?_
                      refine lv_imul hx hb dL_tenders_436 ?_
                      refine lv_iload hx hb dL_tenders_437 (lv_at hl 10 rfl) ?_
                      have hj_439 : ∀ (v439_0 : Int32) (ls : Array Slot), v439_0 = sp_L_tenders_j439s0 M k → lv_has ls 15 [(0, .ref (ad 0 0)), (1, .int p0), (2, .int p1), (3, .ref (oa 0)), (4, .ref (oa 1)), (5, .ref (oa 2)), (6, .ref (oa 3)), (7, .int (nI k)), (8, .int (nI b)), (9, .int (sp_L_tenders_j73s0 M k)), (10, .int (sp_L_tenders_A M k 4 (-1))), (11, .int (-1))] → W p l e ({ frames := 8, cells := 4, slots := 60, locals := 150 } : Room) s m ([.ref (ad 0 0), .int p0, .int p1, .ref (oa 0), .ref (oa 1), .ref (oa 2), .ref (oa 3)] : List Value).toArray below meth c s.heap [] 0 0 (MQ below (va_Qi (fun x (_ : Unit) => x = 1) (fun _ t => GB ad oa s.heap.size D K (cn + 1) t.heap) (GA ad oa s.heap.size)) ([.ref (ad 0 0), .int p0, .int p1, .ref (oa 0), .ref (oa 1), .ref (oa 2), .ref (oa 3)] : List Value).toArray s 4 60 (GA ad oa s.heap.size)) (F0 m 447 ls [.int v439_0, .int (4 * (nI k)), .ref (oa 1)]) := by
                        intro v439_0 ls ev439_0 hl
                        subst ev439_0
                        refine vo_iast hx hb hK hP hD hS 1 (n := 32) (f := (M 1)) rfl (i40 (vp_in_nI (Nat.lt_of_lt_of_le hk hn8) (by decide))) dL_tenders_447 (fun H locs hP hD hS oq => ?_)
                        have hP : va_P D vwCl [(oa 0, .inl (K 0, 7, .inl (M 0))), (oa 1, .inl (K 0, 32, .inl (upd (M 1) ((4 * (nI k)).toNatClampNeg) (sp_L_tenders_j439s0 M k)))), (oa 2, .inl (K 0, 32, .inl (M 2))), (oa 3, .inl (K 0, 8, .inl (M 3))), (oa 4, .inl (K 0, 48, .inl (M 4))), (oa 5, .inl (K 0, 12, .inl (M 5)))] H := hP
                        have hD : va_D (GA ad oa s.heap.size) [(oa 0, .inl (K 0, 7, .inl (M 0))), (oa 1, .inl (K 0, 32, .inl (upd (M 1) ((4 * (nI k)).toNatClampNeg) (sp_L_tenders_j439s0 M k)))), (oa 2, .inl (K 0, 32, .inl (M 2))), (oa 3, .inl (K 0, 8, .inl (M 3))), (oa 4, .inl (K 0, 48, .inl (M 4))), (oa 5, .inl (K 0, 12, .inl (M 5)))] := hD
                        have hXP := XP_off (fun k9 i9 => hsep k9 i9 1) hXP oq
                        have hPm := (fun (f1 : Nat → Int32) (h : va_P D vwCl [(oa 0, .inl (K 0, 7, .inl (M 0))), (oa 1, .inl (K 0, 32, .inl f1)), (oa 2, .inl (K 0, 32, .inl (M 2))), (oa 3, .inl (K 0, 8, .inl (M 3))), (oa 4, .inl (K 0, 48, .inl (M 4))), (oa 5, .inl (K 0, 12, .inl (M 5)))] H) => (show va_P D vwCl (aW K oa (um M 1 f1)) H from h)) (upd (M 1) ((4 * (nI k)).toNatClampNeg) (sp_L_tenders_j439s0 M k)) hP
                        refine lv_aload hx hb dL_tenders_448 (lv_at hl 4 rfl) ?_
                        refine lv_iconst (v := 4) hx hb dL_tenders_450 (by decide) ?_
                        refine lv_iload hx hb dL_tenders_451 (lv_at hl 7 rfl) ?_
                        refine lv_imul hx hb dL_tenders_453 ?_
                        refine lv_iconst (v := 1) hx hb dL_tenders_454 (by decide) ?_
                        refine lv_iadd hx hb dL_tenders_455 ?_
                        refine lv_iload hx hb dL_tenders_456 (lv_at hl 10 rfl) ?_
                        refine W.eq (g2 := F0 m 458 ls [.int (sp_L_tenders_A M k 4 (-1)), .int ((4 * (nI k)) + 1), .ref (oa 1)]) rfl ?_
                        refine vo_iast hx hb hK hP hD hS 1 (n := 32) (f := (upd (M 1) ((4 * (nI k)).toNatClampNeg) (sp_L_tenders_j439s0 M k))) rfl (i4 (vp_in_nI (Nat.lt_of_lt_of_le hk hn8) (by decide)) (show vp_in 1 4 from vp_in_nI (n := 1) (by decide) (by decide))) dL_tenders_458 (fun H locs hP hD hS oq => ?_)
                        have hP : va_P D vwCl [(oa 0, .inl (K 0, 7, .inl (M 0))), (oa 1, .inl (K 0, 32, .inl (upd (upd (M 1) ((4 * (nI k)).toNatClampNeg) (sp_L_tenders_j439s0 M k)) (((4 * (nI k)) + 1).toNatClampNeg) (sp_L_tenders_A M k 4 (-1))))), (oa 2, .inl (K 0, 32, .inl (M 2))), (oa 3, .inl (K 0, 8, .inl (M 3))), (oa 4, .inl (K 0, 48, .inl (M 4))), (oa 5, .inl (K 0, 12, .inl (M 5)))] H := hP
                        have hD : va_D (GA ad oa s.heap.size) [(oa 0, .inl (K 0, 7, .inl (M 0))), (oa 1, .inl (K 0, 32, .inl (upd (upd (M 1) ((4 * (nI k)).toNatClampNeg) (sp_L_tenders_j439s0 M k)) (((4 * (nI k)) + 1).toNatClampNeg) (sp_L_tenders_A M k 4 (-1))))), (oa 2, .inl (K 0, 32, .inl (M 2))), (oa 3, .inl (K 0, 8, .inl (M 3))), (oa 4, .inl (K 0, 48, .inl (M 4))), (oa 5, .inl (K 0, 12, .inl (M 5)))] := hD
                        have hXP := XP_off (fun k9 i9 => hsep k9 i9 1) hXP oq
                        have hPm := (fun (f1 : Nat → Int32) (h : va_P D vwCl [(oa 0, .inl (K 0, 7, .inl (M 0))), (oa 1, .inl (K 0, 32, .inl f1)), (oa 2, .inl (K 0, 32, .inl (M 2))), (oa 3, .inl (K 0, 8, .inl (M 3))), (oa 4, .inl (K 0, 48, .inl (M 4))), (oa 5, .inl (K 0, 12, .inl (M 5)))] H) => (show va_P D vwCl (aW K oa (um M 1 f1)) H from h)) (upd (upd (M 1) ((4 * (nI k)).toNatClampNeg) (sp_L_tenders_j439s0 M k)) (((4 * (nI k)) + 1).toNatClampNeg) (sp_L_tenders_A M k 4 (-1))) hP
                        refine lv_aload_n hx hb dL_tenders_459 rfl (lv_at hl 0 rfl) ?_
                        refine lv_iconst (v := 2) hx hb dL_tenders_460 (by decide) ?_
                        refine lv_iload hx hb dL_tenders_461 (lv_at hl 7 rfl) ?_
                        refine lv_iconst (v := 0) hx hb dL_tenders_463 (by decide) ?_
                        refine lv_iconst (v := 0) hx hb dL_tenders_464 (by decide) ?_
                        have hst := st_award1 R hk c_428
                        refine gc_S (As := [.ref (ad 0 0), .int 2, .int (nI k), .int 0, .int 0]) (rest := []) (M := (um M 1 (upd (upd (M 1) ((4 * (nI k)).toNatClampNeg) (sp_L_tenders_j439s0 M k)) (((4 * (nI k)) + 1).toNatClampNeg) (sp_L_tenders_A M k 4 (-1))))) hc (c_L_calls_award l hl0 D K H.size ad n d S (nI k) 0 0 hDJ (io_award (tIn_of hk R.n31))) (vx_cwSW 5 hts gL_tenders_L_calls rfl rfl rfl (by decide +kernel) ⟨Nat.le_of_ble_eq_true rfl, Nat.le_of_ble_eq_true rfl⟩) hK hE hX hN hZ hXP hPm hsep hS rfl rfl hl.1 (Nat.le_of_ble_eq_true rfl) dL_tenders_465 ⟨Nat.le_of_ble_eq_true rfl, Nat.le_of_ble_eq_true rfl⟩ (fun H locs hz1 hB hPm hS => ?_)
                        refine W.eq (g2 := F0 m 468 ls [.int (if (sp_X2_award n S (nI k)).1 = 0 then (sp_X2_award n S (nI k)).2.1 else if (sp_X2_award n S (nI k)).1 = 2 then -3 else -3)]) rfl ?_
                        refine lv_iload hx hb dL_tenders_468 (lv_at hl 9 rfl) ?_
                        refine W.eq (g2 := F0 m 470 ls [.int (sp_L_tenders_j73s0 M k), .int (if (sp_X2_award n S (nI k)).1 = 0 then (sp_X2_award n S (nI k)).2.1 else if (sp_X2_award n S (nI k)).1 = 2 then -3 else -3)]) rfl ?_
                        refine lv_if_eq (tgt := 478) hx hb dL_tenders_470 (by decide) (fun c_470 => ?_) (fun c_470 => ?_)
                        · skip
                          exact absurd c_470 c_428
                        · skip
                          refine lv_iload hx hb dL_tenders_473 (lv_at hl 10 rfl) ?_
                          refine lv_goto (tgt := 480) hx hb dL_tenders_475 (by decide) ?_
                          refine lv_icmp_ne (tgt := 487) hx hb dL_tenders_480 (by decide) (fun c_480 => ?_) (fun c_480 => ?_)
                          · skip
                            exact absurd hst.1 c_480
                          · skip
                            refine lv_iconst (v := 1) hx hb dL_tenders_483 (by decide) ?_
                            refine lv_goto (tgt := 488) hx hb dL_tenders_484 (by decide) ?_
                            refine W.widen (k := 4) (n := 60) (Nat.le_of_ble_eq_true rfl) (Nat.le_of_ble_eq_true rfl) ?_
                            exact W.zret (v := 1) hx hb hr rfl (fun t9 ht9 hW => ⟨⟨_, (), rfl, rfl, by dsimp only; rw [ht9]; exact gb_t hDJ hst hB hPm⟩, hS.F ht9⟩) hS.2.2 dL_tenders_488
                      refine lv_if_ge (tgt := 446) hx hb dL_tenders_439 (by decide) (fun c_439 => ?_) (fun c_439 => ?_)
                      · skip
                        refine lv_iconst (v := 1) hx hb dL_tenders_446 (by decide) ?_
                        exact hj_439 _ ls (Eq.symm (Eq.trans (if_pos c_439) (rfl))) (lv_sub hl [0, 1, 2, 3, 4, 5, 6, 7, 8, 9, 10, 11] rfl)
                      · skip
                        refine lv_iconst (v := 2) hx hb dL_tenders_442 (by decide) ?_
                        refine lv_goto (tgt := 447) hx hb dL_tenders_443 (by decide) ?_
                        exact hj_439 _ ls (Eq.symm (Eq.trans (if_neg c_439) (rfl))) (lv_sub hl [0, 1, 2, 3, 4, 5, 6, 7, 8, 9, 10, 11] rfl)
                  · skip
                    exact absurd (by decide) c_366
                | succ j ih_11 =>
                  intro hj_11 bs x11 ls ex11 hbs hA_11 hl
                  rw [nI_pred] at ex11
                  subst ex11
                  have hjj : vp_in (nI j) 4 := vp_in_nI (by omega) (by decide)
                  have hbi : ¬ bs < 0 → vp_in bs 4 := fun h9 => best_in hbs h9
                  refine lv_iload hx hb dL_tenders_364 (lv_at hl 11 rfl) ?_
                  refine W.eq (g2 := F0 m 366 ls [.int (nI j)]) rfl ?_
                  refine lv_if_lt (tgt := 426) hx hb dL_tenders_366 (by decide) (fun c_366 => ?_) (fun c_366 => ?_)
                  · skip
                    exact absurd c_366 (nI_pos (by omega))
                  · skip
                    refine lv_iload hx hb dL_tenders_369 (lv_at hl 7 rfl) ?_
                    refine lv_iload hx hb dL_tenders_371 (lv_at hl 11 rfl) ?_
                    refine lv_aload hx hb dL_tenders_373 (lv_at hl 5 rfl) ?_
                    refine lv_aload hx hb dL_tenders_375 (lv_at hl 6 rfl) ?_
                    refine pu_S (As := [.int (nI k), .int (nI j), .ref (oa 2), .ref (oa 3)]) (rest := []) hc (c_L_in l D K oa M (nI k) (nI j) (vp_in_nI (Nat.lt_of_lt_of_le hk hn8) (by decide)) hjj) (va_cwS 4 hts gL_tenders_L_in rfl rfl rfl (by decide +kernel) ⟨Nat.le_of_ble_eq_true rfl, Nat.le_of_ble_eq_true rfl⟩) hPm hK hE rfl rfl hl.1 (Nat.le_of_ble_eq_true rfl) dL_tenders_377 ⟨Nat.le_of_ble_eq_true rfl, Nat.le_of_ble_eq_true rfl⟩ ?_
                    refine lb_eq (tgt := 416) hx hb dL_tenders_380 (by decide) (fun c_380 => ?_) (fun c_380 => ?_)
                    · skip
                      refine lv_iload hx hb dL_tenders_416 (lv_at hl 10 rfl) ?_
                      refine lv_istore (lv' := [(10, .int bs), (0, .ref (ad 0 0)), (1, .int p0), (2, .int p1), (3, .ref (oa 0)), (4, .ref (oa 1)), (5, .ref (oa 2)), (6, .ref (oa 3)), (7, .int (nI k)), (8, .int (nI b)), (9, .int (sp_L_tenders_j73s0 M k)), (11, .int (nI j))]) hx hb dL_tenders_418 hl (by decide) rfl (fun ls hl => ?_)
                      refine lv_iinc (v := (nI j) - 1) (lv' := [(11, .int ((nI j) - 1)), (10, .int bs), (0, .ref (ad 0 0)), (1, .int p0), (2, .int p1), (3, .ref (oa 0)), (4, .ref (oa 1)), (5, .ref (oa 2)), (6, .ref (oa 3)), (7, .int (nI k)), (8, .int (nI b)), (9, .int (sp_L_tenders_j73s0 M k))]) hx hb dL_tenders_420 hl (k := 11) rfl (by rw [Int32.sub_eq_add_neg]; rfl) (by decide) rfl (fun ls hl => ?_)
                      refine lv_goto (tgt := 364) hx hb dL_tenders_423 (by decide) ?_
                      exact ih_11 (by omega) _ _ ls rfl hbs (Eq.trans (congrArg (fun z => sp_L_tenders_A M k j z) (Eq.symm (Eq.trans (if_neg (ntr c_380)) (rfl)))) hA_11) (lv_sub hl [2, 3, 4, 5, 6, 7, 8, 9, 10, 11, 1, 0] rfl)
                    · skip
                      refine lv_iload hx hb dL_tenders_383 (lv_at hl 10 rfl) ?_
                      refine W.eq (g2 := F0 m 385 ls [.int bs]) rfl ?_
                      refine lv_if_lt (tgt := 411) hx hb dL_tenders_385 (by decide) (fun c_385 => ?_) (fun c_385 => ?_)
                      · skip
                        refine lv_iload hx hb dL_tenders_411 (lv_at hl 11 rfl) ?_
                        refine lv_goto (tgt := 418) hx hb dL_tenders_413 (by decide) ?_
                        refine lv_istore (lv' := [(10, .int (nI j)), (0, .ref (ad 0 0)), (1, .int p0), (2, .int p1), (3, .ref (oa 0)), (4, .ref (oa 1)), (5, .ref (oa 2)), (6, .ref (oa 3)), (7, .int (nI k)), (8, .int (nI b)), (9, .int (sp_L_tenders_j73s0 M k)), (11, .int (nI j))]) hx hb dL_tenders_418 hl (by decide) rfl (fun ls hl => ?_)
                        refine lv_iinc (v := (nI j) - 1) (lv' := [(11, .int ((nI j) - 1)), (10, .int (nI j)), (0, .ref (ad 0 0)), (1, .int p0), (2, .int p1), (3, .ref (oa 0)), (4, .ref (oa 1)), (5, .ref (oa 2)), (6, .ref (oa 3)), (7, .int (nI k)), (8, .int (nI b)), (9, .int (sp_L_tenders_j73s0 M k))]) hx hb dL_tenders_420 hl (k := 11) rfl (by rw [Int32.sub_eq_add_neg]; rfl) (by decide) rfl (fun ls hl => ?_)
                        refine lv_goto (tgt := 364) hx hb dL_tenders_423 (by decide) ?_
                        exact ih_11 (by omega) _ _ ls rfl (Or.inr ⟨j, by omega, rfl⟩) (Eq.trans (congrArg (fun z => sp_L_tenders_A M k j z) (Eq.symm (Eq.trans (if_pos c_380) (Eq.trans (if_pos c_385) (rfl))))) hA_11) (lv_sub hl [2, 3, 4, 5, 6, 7, 8, 9, 10, 11, 1, 0] rfl)
                      · skip
                        refine lv_aload hx hb dL_tenders_388 (lv_at hl 5 rfl) ?_
                        refine lv_iconst (v := 4) hx hb dL_tenders_390 (by decide) ?_
                        refine lv_iload hx hb dL_tenders_391 (lv_at hl 7 rfl) ?_
                        refine lv_imul hx hb dL_tenders_393 ?_
                        refine lv_iload hx hb dL_tenders_394 (lv_at hl 11 rfl) ?_
                        refine lv_iadd hx hb dL_tenders_396 ?_
                        refine va_iald hx hb hK hP 2 0 (cA := K 0) rfl rfl (i4 (vp_in_nI (Nat.lt_of_lt_of_le hk hn8) (by decide)) hjj) dL_tenders_397 ?_
                        refine W.eq (g2 := F0 m 398 ls [.int (M 2 (((4 * (nI k)) + (nI j)).toNatClampNeg))]) rfl ?_
                        refine lv_aload hx hb dL_tenders_398 (lv_at hl 5 rfl) ?_
                        refine lv_iconst (v := 4) hx hb dL_tenders_400 (by decide) ?_
                        refine lv_iload hx hb dL_tenders_401 (lv_at hl 7 rfl) ?_
                        refine lv_imul hx hb dL_tenders_403 ?_
                        refine lv_iload hx hb dL_tenders_404 (lv_at hl 10 rfl) ?_
                        refine lv_iadd hx hb dL_tenders_406 ?_
                        refine va_iald hx hb hK hP 2 0 (cA := K 0) rfl rfl (i4 (vp_in_nI (Nat.lt_of_lt_of_le hk hn8) (by decide)) (hbi c_385)) dL_tenders_407 ?_
                        refine lv_icmp_gt (tgt := 416) hx hb dL_tenders_408 (by decide) (fun c_408 => ?_) (fun c_408 => ?_)
                        · skip
                          refine lv_iload hx hb dL_tenders_416 (lv_at hl 10 rfl) ?_
                          refine lv_istore (lv' := [(10, .int bs), (0, .ref (ad 0 0)), (1, .int p0), (2, .int p1), (3, .ref (oa 0)), (4, .ref (oa 1)), (5, .ref (oa 2)), (6, .ref (oa 3)), (7, .int (nI k)), (8, .int (nI b)), (9, .int (sp_L_tenders_j73s0 M k)), (11, .int (nI j))]) hx hb dL_tenders_418 hl (by decide) rfl (fun ls hl => ?_)
                          refine lv_iinc (v := (nI j) - 1) (lv' := [(11, .int ((nI j) - 1)), (10, .int bs), (0, .ref (ad 0 0)), (1, .int p0), (2, .int p1), (3, .ref (oa 0)), (4, .ref (oa 1)), (5, .ref (oa 2)), (6, .ref (oa 3)), (7, .int (nI k)), (8, .int (nI b)), (9, .int (sp_L_tenders_j73s0 M k))]) hx hb dL_tenders_420 hl (k := 11) rfl (by rw [Int32.sub_eq_add_neg]; rfl) (by decide) rfl (fun ls hl => ?_)
                          refine lv_goto (tgt := 364) hx hb dL_tenders_423 (by decide) ?_
                          exact ih_11 (by omega) _ _ ls rfl hbs (Eq.trans (congrArg (fun z => sp_L_tenders_A M k j z) (Eq.symm (Eq.trans (if_pos c_380) (Eq.trans (if_neg c_385) (Eq.trans (if_pos c_408) (rfl)))))) hA_11) (lv_sub hl [2, 3, 4, 5, 6, 7, 8, 9, 10, 11, 1, 0] rfl)
                        · skip
                          refine W.eq (g2 := F0 m 411 ls []) rfl ?_
                          refine lv_iload hx hb dL_tenders_411 (lv_at hl 11 rfl) ?_
                          refine lv_goto (tgt := 418) hx hb dL_tenders_413 (by decide) ?_
                          refine lv_istore (lv' := [(10, .int (nI j)), (0, .ref (ad 0 0)), (1, .int p0), (2, .int p1), (3, .ref (oa 0)), (4, .ref (oa 1)), (5, .ref (oa 2)), (6, .ref (oa 3)), (7, .int (nI k)), (8, .int (nI b)), (9, .int (sp_L_tenders_j73s0 M k)), (11, .int (nI j))]) hx hb dL_tenders_418 hl (by decide) rfl (fun ls hl => ?_)
                          refine lv_iinc (v := (nI j) - 1) (lv' := [(11, .int ((nI j) - 1)), (10, .int (nI j)), (0, .ref (ad 0 0)), (1, .int p0), (2, .int p1), (3, .ref (oa 0)), (4, .ref (oa 1)), (5, .ref (oa 2)), (6, .ref (oa 3)), (7, .int (nI k)), (8, .int (nI b)), (9, .int (sp_L_tenders_j73s0 M k))]) hx hb dL_tenders_420 hl (k := 11) rfl (by rw [Int32.sub_eq_add_neg]; rfl) (by decide) rfl (fun ls hl => ?_)
                          refine lv_goto (tgt := 364) hx hb dL_tenders_423 (by decide) ?_
                          exact ih_11 (by omega) _ _ ls rfl (Or.inr ⟨j, by omega, rfl⟩) (Eq.trans (congrArg (fun z => sp_L_tenders_A M k j z) (Eq.symm (Eq.trans (if_pos c_380) (Eq.trans (if_neg c_385) (Eq.trans (if_neg c_408) (rfl)))))) hA_11) (lv_sub hl [2, 3, 4, 5, 6, 7, 8, 9, 10, 11, 1, 0] rfl)
              exact hloop_364 4 (by decide) _ _ ls (by decide) (Or.inl rfl) rfl (lv_sub hl [3, 4, 5, 6, 7, 8, 9, 10, 11, 2, 1, 0] rfl)
          · skip
            refine lv_iload hx hb dL_tenders_274 (lv_at hl 0 rfl) ?_
            have hj_276 : ∀ (v276_0 : Int32) (ls : Array Slot), v276_0 = sp_L_tenders_j276s0 M k b → lv_has ls 15 [(0, .ref (ad 0 0)), (1, .int p0), (2, .int p1), (3, .ref (oa 0)), (4, .ref (oa 1)), (5, .ref (oa 2)), (6, .ref (oa 3)), (7, .int (nI k)), (8, .int (nI b)), (9, .int (sp_L_tenders_j73s0 M k))] → W p l e ({ frames := 8, cells := 4, slots := 60, locals := 150 } : Room) s m ([.ref (ad 0 0), .int p0, .int p1, .ref (oa 0), .ref (oa 1), .ref (oa 2), .ref (oa 3)] : List Value).toArray below meth c s.heap [] 0 0 (MQ below (va_Qi (fun x (_ : Unit) => x = 1) (fun _ t => GB ad oa s.heap.size D K (cn + 1) t.heap) (GA ad oa s.heap.size)) ([.ref (ad 0 0), .int p0, .int p1, .ref (oa 0), .ref (oa 1), .ref (oa 2), .ref (oa 3)] : List Value).toArray s 4 60 (GA ad oa s.heap.size)) (F0 m 308 ls [.int v276_0]) := by
              intro v276_0 ls ev276_0 hl
              subst ev276_0
              refine lv_istore (lv' := [(10, .int (sp_L_tenders_j276s0 M k b)), (0, .ref (ad 0 0)), (1, .int p0), (2, .int p1), (3, .ref (oa 0)), (4, .ref (oa 1)), (5, .ref (oa 2)), (6, .ref (oa 3)), (7, .int (nI k)), (8, .int (nI b)), (9, .int (sp_L_tenders_j73s0 M k))]) hx hb dL_tenders_308 hl (by decide) rfl (fun ls hl => ?_)
              refine lv_aload hx hb dL_tenders_310 (lv_at hl 7 rfl) ?_
              refine lv_iload hx hb dL_tenders_312 (lv_at hl 8 rfl) ?_
              refine lv_dup2_11 hx hb dL_tenders_314 rfl rfl ?_
              refine va_iald hx hb hK hP 3 0 (cA := K 0) rfl rfl ((vp_in_nI (Nat.lt_of_lt_of_le hk hn8) (by decide))) dL_tenders_315 ?_
              refine lv_iload hx hb dL_tenders_316 (lv_at hl 0 rfl) ?_
              have hj_318 : ∀ (v318_0 : Int32) (ls : Array Slot), v318_0 = sp_L_tenders_j318s0 M k b → lv_has ls 15 [(0, .ref (ad 0 0)), (1, .int p0), (2, .int p1), (3, .ref (oa 0)), (4, .ref (oa 1)), (5, .ref (oa 2)), (6, .ref (oa 3)), (7, .int (nI k)), (8, .int (nI b)), (9, .int (sp_L_tenders_j73s0 M k)), (10, .int (sp_L_tenders_j276s0 M k b))] → W p l e ({ frames := 8, cells := 4, slots := 60, locals := 150 } : Room) s m ([.ref (ad 0 0), .int p0, .int p1, .ref (oa 0), .ref (oa 1), .ref (oa 2), .ref (oa 3)] : List Value).toArray below meth c s.heap [] 0 0 (MQ below (va_Qi (fun x (_ : Unit) => x = 1) (fun _ t => GB ad oa s.heap.size D K (cn + 1) t.heap) (GA ad oa s.heap.size)) ([.ref (ad 0 0), .int p0, .int p1, .ref (oa 0), .ref (oa 1), .ref (oa 2), .ref (oa 3)] : List Value).toArray s 4 60 (GA ad oa s.heap.size)) (F0 m 329 ls [.int v318_0, .int (M 3 ((nI k).toNatClampNeg)), .int (nI k), .ref (oa 3)]) := by
                intro v318_0 ls ev318_0 hl
                subst ev318_0
                refine lv_ior hx hb dL_tenders_329 ?_
                refine vo_iast hx hb hK hP hD hS 3 (n := 8) (f := (M 3)) rfl ((vp_in_nI (Nat.lt_of_lt_of_le hk hn8) (by decide))) dL_tenders_330 (fun H locs hP hD hS oq => ?_)
                have hP : va_P D vwCl [(oa 0, .inl (K 0, 7, .inl (M 0))), (oa 1, .inl (K 0, 32, .inl (M 1))), (oa 2, .inl (K 0, 32, .inl (M 2))), (oa 3, .inl (K 0, 8, .inl (upd (M 3) ((nI k).toNatClampNeg) ((M 3 ((nI k).toNatClampNeg)) ||| (sp_L_tenders_j318s0 M k b))))), (oa 4, .inl (K 0, 48, .inl (M 4))), (oa 5, .inl (K 0, 12, .inl (M 5)))] H := hP
                have hD : va_D (GA ad oa s.heap.size) [(oa 0, .inl (K 0, 7, .inl (M 0))), (oa 1, .inl (K 0, 32, .inl (M 1))), (oa 2, .inl (K 0, 32, .inl (M 2))), (oa 3, .inl (K 0, 8, .inl (upd (M 3) ((nI k).toNatClampNeg) ((M 3 ((nI k).toNatClampNeg)) ||| (sp_L_tenders_j318s0 M k b))))), (oa 4, .inl (K 0, 48, .inl (M 4))), (oa 5, .inl (K 0, 12, .inl (M 5)))] := hD
                have hXP := XP_off (fun k9 i9 => hsep k9 i9 3) hXP oq
                have hPm := (fun (f3 : Nat → Int32) (h : va_P D vwCl [(oa 0, .inl (K 0, 7, .inl (M 0))), (oa 1, .inl (K 0, 32, .inl (M 1))), (oa 2, .inl (K 0, 32, .inl (M 2))), (oa 3, .inl (K 0, 8, .inl f3)), (oa 4, .inl (K 0, 48, .inl (M 4))), (oa 5, .inl (K 0, 12, .inl (M 5)))] H) => (show va_P D vwCl (aW K oa (um M 3 f3)) H from h)) (upd (M 3) ((nI k).toNatClampNeg) ((M 3 ((nI k).toNatClampNeg)) ||| (sp_L_tenders_j318s0 M k b))) hP
                refine lv_aload_n hx hb dL_tenders_331 rfl (lv_at hl 0 rfl) ?_
                refine lv_iconst (v := 1) hx hb dL_tenders_332 (by decide) ?_
                refine lv_iload hx hb dL_tenders_333 (lv_at hl 7 rfl) ?_
                refine lv_iload hx hb dL_tenders_335 (lv_at hl 8 rfl) ?_
                refine lv_iconst (v := 0) hx hb dL_tenders_337 (by decide) ?_
                have hst := st_withdraw R hk hb4
                refine gc_S (As := [.ref (ad 0 0), .int 1, .int (nI k), .int (nI b), .int 0]) (rest := []) (M := (um M 3 (upd (M 3) ((nI k).toNatClampNeg) ((M 3 ((nI k).toNatClampNeg)) ||| (sp_L_tenders_j318s0 M k b))))) hc (c_L_calls_withdraw l hl0 D K H.size ad n d S (nI k) (nI b) 0 hDJ (io_withdraw (tIn_of hk R.n31))) (vx_cwSW 5 hts gL_tenders_L_calls rfl rfl rfl (by decide +kernel) ⟨Nat.le_of_ble_eq_true rfl, Nat.le_of_ble_eq_true rfl⟩) hK hE hX hN hZ hXP hPm hsep hS rfl rfl hl.1 (Nat.le_of_ble_eq_true rfl) dL_tenders_338 ⟨Nat.le_of_ble_eq_true rfl, Nat.le_of_ble_eq_true rfl⟩ (fun H locs hz1 hB hPm hS => ?_)
                refine W.eq (g2 := F0 m 341 ls [.int (if (sp_X2_withdraw n S (nI k) (nI b)).1 = 0 then (sp_X2_withdraw n S (nI k) (nI b)).2.1 else if (sp_X2_withdraw n S (nI k) (nI b)).1 = 2 then -2 else -3)]) rfl ?_
                refine W.eq (g2 := F0 m 341 ls [.int (if (sp_X2_withdraw n S (nI k) (nI b)).1 = 0 then (sp_X2_withdraw n S (nI k) (nI b)).2.1 else if (sp_X2_withdraw n S (nI k) (nI b)).1 = 2 then -2 else -3)]) rfl ?_
                refine lv_iload hx hb dL_tenders_341 (lv_at hl 10 rfl) ?_
                refine lv_icmp_ne (tgt := 350) hx hb dL_tenders_343 (by decide) (fun c_343 => ?_) (fun c_343 => ?_)
                · skip
                  exact absurd hst.1 c_343
                · skip
                  refine lv_iconst (v := 1) hx hb dL_tenders_346 (by decide) ?_
                  refine lv_goto (tgt := 351) hx hb dL_tenders_347 (by decide) ?_
                  refine W.widen (k := 4) (n := 60) (Nat.le_of_ble_eq_true rfl) (Nat.le_of_ble_eq_true rfl) ?_
                  exact W.zret (v := 1) hx hb hr rfl (fun t9 ht9 hW => ⟨⟨_, (), rfl, rfl, by dsimp only; rw [ht9]; exact gb_t hDJ hst hB hPm⟩, hS.F ht9⟩) hS.2.2 dL_tenders_351
              refine lv_if_le (tgt := 328) hx hb dL_tenders_318 (by decide) (fun c_318 => ?_) (fun c_318 => ?_)
              · skip
                refine lv_iconst (v := 0) hx hb dL_tenders_328 (by decide) ?_
                exact hj_318 _ ls (Eq.symm (Eq.trans (if_pos c_318) (rfl))) (lv_sub hl [1, 2, 3, 4, 5, 6, 7, 8, 9, 10, 0] rfl)
              · skip
                refine lv_iconst (v := 1) hx hb dL_tenders_321 (by decide) ?_
                refine lv_iload hx hb dL_tenders_322 (lv_at hl 9 rfl) ?_
                refine lv_ishl hx hb dL_tenders_324 ?_
                refine lv_goto (tgt := 329) hx hb dL_tenders_325 (by decide) ?_
                exact hj_318 _ ls (Eq.symm (Eq.trans (if_neg c_318) (rfl))) (lv_sub hl [1, 2, 3, 4, 5, 6, 7, 8, 9, 10, 0] rfl)
            refine lv_if_eq (tgt := 306) hx hb dL_tenders_276 (by decide) (fun c_276 => ?_) (fun c_276 => ?_)
            · skip
              refine lv_bipush (v := -3) hx hb dL_tenders_306 (by decide) ?_
              exact hj_276 _ ls (Eq.symm (Eq.trans (if_pos c_276) (rfl))) (lv_sub hl [1, 2, 3, 4, 5, 6, 7, 8, 9, 0] rfl)
            · skip
              refine lv_iload hx hb dL_tenders_279 (lv_at hl 8 rfl) ?_
              refine lv_iload hx hb dL_tenders_281 (lv_at hl 9 rfl) ?_
              refine lv_aload hx hb dL_tenders_283 (lv_at hl 6 rfl) ?_
              refine lv_aload hx hb dL_tenders_285 (lv_at hl 7 rfl) ?_
              refine pu_S (As := [.int (nI k), .int (nI b), .ref (oa 2), .ref (oa 3)]) (rest := []) hc (c_L_in l D K oa M (nI k) (nI b) (vp_in_nI (Nat.lt_of_lt_of_le hk hn8) (by decide)) (vp_in_nI hb4 (by decide))) (va_cwS 4 hts gL_tenders_L_in rfl rfl rfl (by decide +kernel) ⟨Nat.le_of_ble_eq_true rfl, Nat.le_of_ble_eq_true rfl⟩) hPm hK hE rfl rfl hl.1 (Nat.le_of_ble_eq_true rfl) dL_tenders_287 ⟨Nat.le_of_ble_eq_true rfl, Nat.le_of_ble_eq_true rfl⟩ ?_
              refine lb_eq (tgt := 306) hx hb dL_tenders_290 (by decide) (fun c_290 => ?_) (fun c_290 => ?_)
              · skip
                refine lv_bipush (v := -3) hx hb dL_tenders_306 (by decide) ?_
                exact hj_276 _ ls (Eq.symm (Eq.trans (if_neg c_276) (Eq.trans (if_neg (ntr c_290)) (rfl)))) (lv_sub hl [1, 2, 3, 4, 5, 6, 7, 8, 9, 0] rfl)
              · skip
                refine lv_aload hx hb dL_tenders_293 (lv_at hl 6 rfl) ?_
                refine W.eq (g2 := F0 m 295 ls [.ref (oa 2)]) rfl ?_
                refine lv_iconst (v := 4) hx hb dL_tenders_295 (by decide) ?_
                refine lv_iload hx hb dL_tenders_296 (lv_at hl 8 rfl) ?_
                refine lv_imul hx hb dL_tenders_298 ?_
                refine lv_iload hx hb dL_tenders_299 (lv_at hl 9 rfl) ?_
                refine lv_iadd hx hb dL_tenders_301 ?_
                refine va_iald hx hb hK hP 2 0 (cA := K 0) rfl rfl (i4 (vp_in_nI (Nat.lt_of_lt_of_le hk hn8) (by decide)) (vp_in_nI hb4 (by decide))) dL_tenders_302 ?_
                refine lv_goto (tgt := 308) hx hb dL_tenders_303 (by decide) ?_
                exact hj_276 _ ls (Eq.symm (Eq.trans (if_neg c_276) (Eq.trans (if_pos c_290) (rfl)))) (lv_sub hl [1, 2, 3, 4, 5, 6, 7, 8, 9, 0] rfl)
        · skip
          refine lv_iload_n hx hb dL_tenders_88 rfl (lv_at hl 3 rfl) ?_
          refine lv_bipush (v := 12) hx hb dL_tenders_89 (by decide) ?_
          refine lv_ishr hx hb dL_tenders_91 ?_
          refine lv_iconst (v := 4) hx hb dL_tenders_92 (by decide) ?_
          refine W.eq (g2 := F0 m 93 ls [.int 4, .int (p1 >>> (12 &&& 31))]) rfl ?_
          refine pu_S (As := [.int (p1 >>> (12 &&& 31)), .int 4]) (rest := []) hc (c_L_low l D K (p1 >>> (12 &&& 31)) 4 (by decide)) (va_cwS 2 hts gL_tenders_L_low rfl rfl rfl (by decide +kernel) ⟨Nat.le_of_ble_eq_true rfl, Nat.le_of_ble_eq_true rfl⟩) trivial hK hE rfl rfl hl.1 (Nat.le_of_ble_eq_true rfl) dL_tenders_93 ⟨Nat.le_of_ble_eq_true rfl, Nat.le_of_ble_eq_true rfl⟩ ?_
          have hj_96 : ∀ (v96_0 : Int32) (ls : Array Slot), v96_0 = sp_L_tenders_j96s0 p1 → lv_has ls 15 [(0, .ref (ad 0 0)), (1, .int p0), (2, .int p1), (3, .ref (oa 0)), (4, .ref (oa 1)), (5, .ref (oa 2)), (6, .ref (oa 3)), (7, .int (nI k)), (8, .int (nI b)), (9, .int (sp_L_tenders_j73s0 M k))] → W p l e ({ frames := 8, cells := 4, slots := 60, locals := 150 } : Room) s m ([.ref (ad 0 0), .int p0, .int p1, .ref (oa 0), .ref (oa 1), .ref (oa 2), .ref (oa 3)] : List Value).toArray below meth c s.heap [] 0 0 (MQ below (va_Qi (fun x (_ : Unit) => x = 1) (fun _ t => GB ad oa s.heap.size D K (cn + 1) t.heap) (GA ad oa s.heap.size)) ([.ref (ad 0 0), .int p0, .int p1, .ref (oa 0), .ref (oa 1), .ref (oa 2), .ref (oa 3)] : List Value).toArray s 4 60 (GA ad oa s.heap.size)) (F0 m 126 ls [.int v96_0]) := by
            intro v96_0 ls ev96_0 hl
            have hsv : 1 ≤ v96_0.toInt ∧ v96_0.toInt ≤ 100000 := by rw [ev96_0]; unfold sp_L_tenders_j96s0; exact tn_sv _ _ _
            clear ev96_0
            refine lv_istore (lv' := [(10, .int v96_0), (0, .ref (ad 0 0)), (1, .int p0), (2, .int p1), (3, .ref (oa 0)), (4, .ref (oa 1)), (5, .ref (oa 2)), (6, .ref (oa 3)), (7, .int (nI k)), (8, .int (nI b)), (9, .int (sp_L_tenders_j73s0 M k))]) hx hb dL_tenders_126 hl (by decide) rfl (fun ls hl => ?_)
            refine lv_iload hx hb dL_tenders_128 (lv_at hl 10 rfl) ?_
            have hj_130 : ∀ (v130_0 : Int32) (ls : Array Slot), v130_0 = sp_L_tenders_j130s0 M k b → lv_has ls 15 [(0, .ref (ad 0 0)), (1, .int p0), (2, .int p1), (3, .ref (oa 0)), (4, .ref (oa 1)), (5, .ref (oa 2)), (6, .ref (oa 3)), (7, .int (nI k)), (8, .int (nI b)), (9, .int (sp_L_tenders_j73s0 M k)), (10, .int v96_0)] → W p l e ({ frames := 8, cells := 4, slots := 60, locals := 150 } : Room) s m ([.ref (ad 0 0), .int p0, .int p1, .ref (oa 0), .ref (oa 1), .ref (oa 2), .ref (oa 3)] : List Value).toArray below meth c s.heap [] 0 0 (MQ below (va_Qi (fun x (_ : Unit) => x = 1) (fun _ t => GB ad oa s.heap.size D K (cn + 1) t.heap) (GA ad oa s.heap.size)) ([.ref (ad 0 0), .int p0, .int p1, .ref (oa 0), .ref (oa 1), .ref (oa 2), .ref (oa 3)] : List Value).toArray s 4 60 (GA ad oa s.heap.size)) (F0 m 151 ls [.int v130_0]) := by
              intro v130_0 ls ev130_0 hl
              subst ev130_0
              refine lv_istore (lv' := [(11, .int (sp_L_tenders_j130s0 M k b)), (0, .ref (ad 0 0)), (1, .int p0), (2, .int p1), (3, .ref (oa 0)), (4, .ref (oa 1)), (5, .ref (oa 2)), (6, .ref (oa 3)), (7, .int (nI k)), (8, .int (nI b)), (9, .int (sp_L_tenders_j73s0 M k)), (10, .int v96_0)]) hx hb dL_tenders_151 hl (by decide) rfl (fun ls hl => ?_)
              refine lv_iload hx hb dL_tenders_153 (lv_at hl 0 rfl) ?_
              refine lv_if_eq (tgt := 162) hx hb dL_tenders_155 (by decide) (fun c_155 => ?_) (fun c_155 => ?_)
              · skip
                refine lv_bipush (v := -3) hx hb dL_tenders_162 (by decide) ?_
                refine lv_istore (lv' := [(12, .int (-3)), (11, .int (sp_L_tenders_j130s0 M k b)), (0, .ref (ad 0 0)), (1, .int p0), (2, .int p1), (3, .ref (oa 0)), (4, .ref (oa 1)), (5, .ref (oa 2)), (6, .ref (oa 3)), (7, .int (nI k)), (8, .int (nI b)), (9, .int (sp_L_tenders_j73s0 M k)), (10, .int v96_0)]) hx hb dL_tenders_164 hl (by decide) rfl (fun ls hl => ?_)
                refine lv_aload hx hb dL_tenders_166 (lv_at hl 7 rfl) ?_
                refine lv_iconst (v := 4) hx hb dL_tenders_168 (by decide) ?_
                refine lv_iload hx hb dL_tenders_169 (lv_at hl 9 rfl) ?_
                refine lv_imul hx hb dL_tenders_171 ?_
                refine lv_iload hx hb dL_tenders_172 (lv_at hl 10 rfl) ?_
                refine lv_iadd hx hb dL_tenders_174 ?_
                refine W.eq (g2 := F0 m 175 ls [.int ((4 * (nI k)) + (nI b)), .ref (oa 2)]) rfl ?_
                refine lv_iload hx hb dL_tenders_175 (lv_at hl 1 rfl) ?_
                refine lv_if_eq (tgt := 185) hx hb dL_tenders_177 (by decide) (fun c_177 => ?_) (fun c_177 => ?_)
                · skip
                  refine lv_aload hx hb dL_tenders_185 (lv_at hl 7 rfl) ?_
                  refine lv_iconst (v := 4) hx hb dL_tenders_187 (by decide) ?_
                  refine lv_iload hx hb dL_tenders_188 (lv_at hl 9 rfl) ?_
                  refine lv_imul hx hb dL_tenders_190 ?_
                  refine lv_iload hx hb dL_tenders_191 (lv_at hl 10 rfl) ?_
                  refine lv_iadd hx hb dL_tenders_193 ?_
                  refine va_iald hx hb hK hP 2 0 (cA := K 0) rfl rfl (i4 (vp_in_nI (Nat.lt_of_lt_of_le hk hn8) (by decide)) (vp_in_nI hb4 (by decide))) dL_tenders_194 ?_
                  refine vo_iast hx hb hK hP hD hS 2 (n := 32) (f := (M 2)) rfl (i4 (vp_in_nI (Nat.lt_of_lt_of_le hk hn8) (by decide)) (vp_in_nI hb4 (by decide))) dL_tenders_195 (fun H locs hP hD hS oq => ?_)
                  have hP : va_P D vwCl [(oa 0, .inl (K 0, 7, .inl (M 0))), (oa 1, .inl (K 0, 32, .inl (M 1))), (oa 2, .inl (K 0, 32, .inl (upd (M 2) (((4 * (nI k)) + (nI b)).toNatClampNeg) (M 2 (((4 * (nI k)) + (nI b)).toNatClampNeg))))), (oa 3, .inl (K 0, 8, .inl (M 3))), (oa 4, .inl (K 0, 48, .inl (M 4))), (oa 5, .inl (K 0, 12, .inl (M 5)))] H := hP
                  have hD : va_D (GA ad oa s.heap.size) [(oa 0, .inl (K 0, 7, .inl (M 0))), (oa 1, .inl (K 0, 32, .inl (M 1))), (oa 2, .inl (K 0, 32, .inl (upd (M 2) (((4 * (nI k)) + (nI b)).toNatClampNeg) (M 2 (((4 * (nI k)) + (nI b)).toNatClampNeg))))), (oa 3, .inl (K 0, 8, .inl (M 3))), (oa 4, .inl (K 0, 48, .inl (M 4))), (oa 5, .inl (K 0, 12, .inl (M 5)))] := hD
                  have hXP := XP_off (fun k9 i9 => hsep k9 i9 2) hXP oq
                  have hPm := (fun (f2 : Nat → Int32) (h : va_P D vwCl [(oa 0, .inl (K 0, 7, .inl (M 0))), (oa 1, .inl (K 0, 32, .inl (M 1))), (oa 2, .inl (K 0, 32, .inl f2)), (oa 3, .inl (K 0, 8, .inl (M 3))), (oa 4, .inl (K 0, 48, .inl (M 4))), (oa 5, .inl (K 0, 12, .inl (M 5)))] H) => (show va_P D vwCl (aW K oa (um M 2 f2)) H from h)) (upd (M 2) (((4 * (nI k)) + (nI b)).toNatClampNeg) (M 2 (((4 * (nI k)) + (nI b)).toNatClampNeg))) hP
                  refine W.eq (g2 := F0 m 196 ls []) rfl ?_
                  refine lv_iconst (v := 0) hx hb dL_tenders_196 (by decide) ?_
                  refine lv_istore (lv' := [(13, .int 0), (12, .int (-3)), (11, .int (sp_L_tenders_j130s0 M k b)), (0, .ref (ad 0 0)), (1, .int p0), (2, .int p1), (3, .ref (oa 0)), (4, .ref (oa 1)), (5, .ref (oa 2)), (6, .ref (oa 3)), (7, .int (nI k)), (8, .int (nI b)), (9, .int (sp_L_tenders_j73s0 M k)), (10, .int v96_0)]) hx hb dL_tenders_197 hl (by decide) rfl (fun ls hl => ?_)
                  refine lv_iload hx hb dL_tenders_199 (lv_at hl 0 rfl) ?_
                  refine lv_iconst (v := 4) hx hb dL_tenders_201 (by decide) ?_
                  refine lv_icmp_ge (tgt := 247) hx hb dL_tenders_202 (by decide) (fun c_202 => ?_) (fun c_202 => ?_)
                  · skip
                    exact absurd c_202 (by decide)
                  · skip
                    refine lv_iload hx hb dL_tenders_205 (lv_at hl 2 rfl) ?_
                    refine lv_if_eq (tgt := 247) hx hb dL_tenders_207 (by decide) (fun c_207 => ?_) (fun c_207 => ?_)
                    · skip
                      refine lv_aload_n hx hb dL_tenders_247 rfl (lv_at hl 3 rfl) ?_
                      refine lv_iconst (v := 0) hx hb dL_tenders_248 (by decide) ?_
                      refine lv_iload hx hb dL_tenders_249 (lv_at hl 10 rfl) ?_
                      refine lv_iload hx hb dL_tenders_251 (lv_at hl 11 rfl) ?_
                      refine lv_iload hx hb dL_tenders_253 (lv_at hl 13 rfl) ?_
                      have hst := st_bid0 R hk hb4 hsv c_155
                      refine gc_S (As := [.ref (ad 0 0), .int 0, .int (nI k), .int (nI b), .int v96_0]) (rest := []) (M := (um M 2 (upd (M 2) (((4 * (nI k)) + (nI b)).toNatClampNeg) (M 2 (((4 * (nI k)) + (nI b)).toNatClampNeg))))) hc (c_L_calls_bid l hl0 D K H.size ad n d S (nI k) (nI b) v96_0 hDJ (io_bid (tIn_of hk R.n31))) (vx_cwSW 5 hts gL_tenders_L_calls rfl rfl rfl (by decide +kernel) ⟨Nat.le_of_ble_eq_true rfl, Nat.le_of_ble_eq_true rfl⟩) hK hE hX hN hZ hXP hPm hsep hS rfl rfl hl.1 (Nat.le_of_ble_eq_true rfl) dL_tenders_255 ⟨Nat.le_of_ble_eq_true rfl, Nat.le_of_ble_eq_true rfl⟩ (fun H locs hz1 hB hPm hS => ?_)
                      refine W.eq (g2 := F0 m 258 ls [.int (if (sp_X2_bid n S (nI k) (nI b) v96_0).1 = 0 then (sp_X2_bid n S (nI k) (nI b) v96_0).2.1 else if (sp_X2_bid n S (nI k) (nI b) v96_0).1 = 2 then -2 else -3)]) rfl ?_
                      refine lv_iload hx hb dL_tenders_258 (lv_at hl 1 rfl) ?_
                      refine lv_icmp_ne (tgt := 267) hx hb dL_tenders_260 (by decide) (fun c_260 => ?_) (fun c_260 => ?_)
                      · skip
                        exact absurd hst.1 c_260
                      · skip
                        refine W.eq (g2 := F0 m 263 ls []) rfl ?_
                        refine lv_iconst (v := 1) hx hb dL_tenders_263 (by decide) ?_
                        refine lv_goto (tgt := 268) hx hb dL_tenders_264 (by decide) ?_
                        refine W.widen (k := 4) (n := 60) (Nat.le_of_ble_eq_true rfl) (Nat.le_of_ble_eq_true rfl) ?_
                        exact W.zret (v := 1) hx hb hr rfl (fun t9 ht9 hW => ⟨⟨_, (), rfl, rfl, by dsimp only; rw [ht9]; exact gb_t hDJ hst hB hPm⟩, hS.F ht9⟩) hS.2.2 dL_tenders_268
                    · skip
                      exact absurd c_155 c_207
                · skip
                  exact absurd c_155 c_177
              · skip
                refine lv_iconst (v := 1) hx hb dL_tenders_158 (by decide) ?_
                refine lv_goto (tgt := 164) hx hb dL_tenders_159 (by decide) ?_
                refine lv_istore (lv' := [(12, .int 1), (11, .int (sp_L_tenders_j130s0 M k b)), (0, .ref (ad 0 0)), (1, .int p0), (2, .int p1), (3, .ref (oa 0)), (4, .ref (oa 1)), (5, .ref (oa 2)), (6, .ref (oa 3)), (7, .int (nI k)), (8, .int (nI b)), (9, .int (sp_L_tenders_j73s0 M k)), (10, .int v96_0)]) hx hb dL_tenders_164 hl (by decide) rfl (fun ls hl => ?_)
                refine lv_aload hx hb dL_tenders_166 (lv_at hl 7 rfl) ?_
                refine lv_iconst (v := 4) hx hb dL_tenders_168 (by decide) ?_
                refine lv_iload hx hb dL_tenders_169 (lv_at hl 9 rfl) ?_
                refine lv_imul hx hb dL_tenders_171 ?_
                refine lv_iload hx hb dL_tenders_172 (lv_at hl 10 rfl) ?_
                refine lv_iadd hx hb dL_tenders_174 ?_
                refine lv_iload hx hb dL_tenders_175 (lv_at hl 1 rfl) ?_
                refine W.eq (g2 := F0 m 177 ls [.int (sp_L_tenders_j130s0 M k b), .int ((4 * (nI k)) + (nI b)), .ref (oa 2)]) rfl ?_
                refine lv_if_eq (tgt := 185) hx hb dL_tenders_177 (by decide) (fun c_177 => ?_) (fun c_177 => ?_)
                · skip
                  exact absurd c_177 c_155
                · skip
                  refine lv_iload hx hb dL_tenders_180 (lv_at hl 12 rfl) ?_
                  refine lv_goto (tgt := 195) hx hb dL_tenders_182 (by decide) ?_
                  refine vo_iast hx hb hK hP hD hS 2 (n := 32) (f := (M 2)) rfl (i4 (vp_in_nI (Nat.lt_of_lt_of_le hk hn8) (by decide)) (vp_in_nI hb4 (by decide))) dL_tenders_195 (fun H locs hP hD hS oq => ?_)
                  have hP : va_P D vwCl [(oa 0, .inl (K 0, 7, .inl (M 0))), (oa 1, .inl (K 0, 32, .inl (M 1))), (oa 2, .inl (K 0, 32, .inl (upd (M 2) (((4 * (nI k)) + (nI b)).toNatClampNeg) v96_0))), (oa 3, .inl (K 0, 8, .inl (M 3))), (oa 4, .inl (K 0, 48, .inl (M 4))), (oa 5, .inl (K 0, 12, .inl (M 5)))] H := hP
                  have hD : va_D (GA ad oa s.heap.size) [(oa 0, .inl (K 0, 7, .inl (M 0))), (oa 1, .inl (K 0, 32, .inl (M 1))), (oa 2, .inl (K 0, 32, .inl (upd (M 2) (((4 * (nI k)) + (nI b)).toNatClampNeg) v96_0))), (oa 3, .inl (K 0, 8, .inl (M 3))), (oa 4, .inl (K 0, 48, .inl (M 4))), (oa 5, .inl (K 0, 12, .inl (M 5)))] := hD
                  have hXP := XP_off (fun k9 i9 => hsep k9 i9 2) hXP oq
                  have hPm := (fun (f2 : Nat → Int32) (h : va_P D vwCl [(oa 0, .inl (K 0, 7, .inl (M 0))), (oa 1, .inl (K 0, 32, .inl (M 1))), (oa 2, .inl (K 0, 32, .inl f2)), (oa 3, .inl (K 0, 8, .inl (M 3))), (oa 4, .inl (K 0, 48, .inl (M 4))), (oa 5, .inl (K 0, 12, .inl (M 5)))] H) => (show va_P D vwCl (aW K oa (um M 2 f2)) H from h)) (upd (M 2) (((4 * (nI k)) + (nI b)).toNatClampNeg) v96_0) hP
                  refine lv_iconst (v := 0) hx hb dL_tenders_196 (by decide) ?_
                  refine lv_istore (lv' := [(13, .int 0), (12, .int 1), (11, .int (sp_L_tenders_j130s0 M k b)), (0, .ref (ad 0 0)), (1, .int p0), (2, .int p1), (3, .ref (oa 0)), (4, .ref (oa 1)), (5, .ref (oa 2)), (6, .ref (oa 3)), (7, .int (nI k)), (8, .int (nI b)), (9, .int (sp_L_tenders_j73s0 M k)), (10, .int v96_0)]) hx hb dL_tenders_197 hl (by decide) rfl (fun ls hl => ?_)
                  have hloop_199 : ∀ (n199 kk : Nat), kk ≤ 4 → 4 + 1 ≤ kk + n199 → ∀ (a199_12 x199 : Int32) (ls : Array Slot), a199_12 = sp_L_tenders_L199 M k b v96_0 kk → x199 = nI kk → lv_has ls 15 [(0, .ref (ad 0 0)), (1, .int p0), (2, .int p1), (3, .ref (oa 0)), (4, .ref (oa 1)), (5, .ref (oa 2)), (6, .ref (oa 3)), (7, .int (nI k)), (8, .int (nI b)), (9, .int (sp_L_tenders_j73s0 M k)), (10, .int v96_0), (11, .int (sp_L_tenders_j130s0 M k b)), (12, .int a199_12), (13, .int x199)] → W p l e ({ frames := 8, cells := 4, slots := 60, locals := 150 } : Room) s m ([.ref (ad 0 0), .int p0, .int p1, .ref (oa 0), .ref (oa 1), .ref (oa 2), .ref (oa 3)] : List Value).toArray below meth c H locs 0 0 (MQ below (va_Qi (fun x (_ : Unit) => x = 1) (fun _ t => GB ad oa s.heap.size D K (cn + 1) t.heap) (GA ad oa s.heap.size)) ([.ref (ad 0 0), .int p0, .int p1, .ref (oa 0), .ref (oa 1), .ref (oa 2), .ref (oa 3)] : List Value).toArray s 4 60 (GA ad oa s.heap.size)) (F0 m 199 ls []) := by
                    intro n199
                    induction n199 with
                    | zero => intro kk h1 h2; exact absurd h2 (by omega)
                    | succ n199 ih_199 =>
                      intro kk hk_199 hn_199 a199_12 x199 ls ea199_12 ex199 hl
                      subst ea199_12
                      subst ex199
                      refine lv_iload hx hb dL_tenders_199 (lv_at hl 13 rfl) ?_
                      refine lv_iconst (v := 4) hx hb dL_tenders_201 (by decide) ?_
                      refine lv_icmp_ge (tgt := 247) hx hb dL_tenders_202 (by decide) (fun c_202 => ?_) (fun c_202 => ?_)
                      · skip
                        have hke_199 : 4 = kk := (lp_end rfl c_202 hk_199 (by decide)).symm
                        subst hke_199
                        refine lv_aload_n hx hb dL_tenders_247 rfl (lv_at hl 0 rfl) ?_
                        refine lv_iconst (v := 0) hx hb dL_tenders_248 (by decide) ?_
                        refine lv_iload hx hb dL_tenders_249 (lv_at hl 7 rfl) ?_
                        refine lv_iload hx hb dL_tenders_251 (lv_at hl 8 rfl) ?_
                        refine lv_iload hx hb dL_tenders_253 (lv_at hl 10 rfl) ?_
                        have hst := st_bid1 R hk hb4 hsv c_155
                        refine gc_S (As := [.ref (ad 0 0), .int 0, .int (nI k), .int (nI b), .int v96_0]) (rest := []) (M := (um M 2 (upd (M 2) (((4 * (nI k)) + (nI b)).toNatClampNeg) v96_0))) hc (c_L_calls_bid l hl0 D K H.size ad n d S (nI k) (nI b) v96_0 hDJ (io_bid (tIn_of hk R.n31))) (vx_cwSW 5 hts gL_tenders_L_calls rfl rfl rfl (by decide +kernel) ⟨Nat.le_of_ble_eq_true rfl, Nat.le_of_ble_eq_true rfl⟩) hK hE hX hN hZ hXP hPm hsep hS rfl rfl hl.1 (Nat.le_of_ble_eq_true rfl) dL_tenders_255 ⟨Nat.le_of_ble_eq_true rfl, Nat.le_of_ble_eq_true rfl⟩ (fun H locs hz1 hB hPm hS => ?_)
                        refine W.eq (g2 := F0 m 258 ls [.int (if (sp_X2_bid n S (nI k) (nI b) v96_0).1 = 0 then (sp_X2_bid n S (nI k) (nI b) v96_0).2.1 else if (sp_X2_bid n S (nI k) (nI b) v96_0).1 = 2 then -2 else -3)]) rfl ?_
                        refine lv_iload hx hb dL_tenders_258 (lv_at hl 12 rfl) ?_
                        refine lv_icmp_ne (tgt := 267) hx hb dL_tenders_260 (by decide) (fun c_260 => ?_) (fun c_260 => ?_)
                        · skip
                          exact absurd hst.1 c_260
                        · skip
                          refine W.eq (g2 := F0 m 263 ls []) rfl ?_
                          refine lv_iconst (v := 1) hx hb dL_tenders_263 (by decide) ?_
                          refine lv_goto (tgt := 268) hx hb dL_tenders_264 (by decide) ?_
                          refine W.widen (k := 4) (n := 60) (Nat.le_of_ble_eq_true rfl) (Nat.le_of_ble_eq_true rfl) ?_
                          exact W.zret (v := 1) hx hb hr rfl (fun t9 ht9 hW => ⟨⟨_, (), rfl, rfl, by dsimp only; rw [ht9]; exact gb_t hDJ hst hB hPm⟩, hS.F ht9⟩) hS.2.2 dL_tenders_268
                      · skip
                        have hlt_199 : kk < 4 := lp_in rfl c_202 hk_199 (by decide)
                        refine lv_iload hx hb dL_tenders_205 (lv_at hl 11 rfl) ?_
                        refine lv_if_eq (tgt := 247) hx hb dL_tenders_207 (by decide) (fun c_207 => ?_) (fun c_207 => ?_)
                        · skip
                          exact absurd c_207 c_155
                        · skip
                          refine W.eq (g2 := F0 m 210 ls []) rfl ?_
                          refine lv_iload hx hb dL_tenders_210 (lv_at hl 12 rfl) ?_
                          refine lv_iload hx hb dL_tenders_212 (lv_at hl 13 rfl) ?_
                          refine lv_iload hx hb dL_tenders_214 (lv_at hl 8 rfl) ?_
                          have hj_216 : ∀ (v216_0 : Int32) (ls : Array Slot), v216_0 = sp_L_tenders_j216s0 M k b v96_0 kk → lv_has ls 15 [(0, .ref (ad 0 0)), (1, .int p0), (2, .int p1), (3, .ref (oa 0)), (4, .ref (oa 1)), (5, .ref (oa 2)), (6, .ref (oa 3)), (7, .int (nI k)), (8, .int (nI b)), (9, .int (sp_L_tenders_j73s0 M k)), (10, .int v96_0), (11, .int (sp_L_tenders_j130s0 M k b)), (12, .int (sp_L_tenders_L199 M k b v96_0 kk)), (13, .int (nI kk))] → W p l e ({ frames := 8, cells := 4, slots := 60, locals := 150 } : Room) s m ([.ref (ad 0 0), .int p0, .int p1, .ref (oa 0), .ref (oa 1), .ref (oa 2), .ref (oa 3)] : List Value).toArray below meth c H locs 0 0 (MQ below (va_Qi (fun x (_ : Unit) => x = 1) (fun _ t => GB ad oa s.heap.size D K (cn + 1) t.heap) (GA ad oa s.heap.size)) ([.ref (ad 0 0), .int p0, .int p1, .ref (oa 0), .ref (oa 1), .ref (oa 2), .ref (oa 3)] : List Value).toArray s 4 60 (GA ad oa s.heap.size)) (F0 m 238 ls [.int v216_0, .int (sp_L_tenders_L199 M k b v96_0 kk)]) := by
                            intro v216_0 ls ev216_0 hl
                            subst ev216_0
                            refine lv_iadd hx hb dL_tenders_238 ?_
                            refine lv_istore (lv' := [(12, .int ((sp_L_tenders_L199 M k b v96_0 kk) + (sp_L_tenders_j216s0 M k b v96_0 kk))), (0, .ref (ad 0 0)), (1, .int p0), (2, .int p1), (3, .ref (oa 0)), (4, .ref (oa 1)), (5, .ref (oa 2)), (6, .ref (oa 3)), (7, .int (nI k)), (8, .int (nI b)), (9, .int (sp_L_tenders_j73s0 M k)), (10, .int v96_0), (11, .int (sp_L_tenders_j130s0 M k b)), (13, .int (nI kk))]) hx hb dL_tenders_239 hl (by decide) rfl (fun ls hl => ?_)
                            refine lv_iinc (v := (nI kk) + 1) (lv' := [(13, .int ((nI kk) + 1)), (12, .int ((sp_L_tenders_L199 M k b v96_0 kk) + (sp_L_tenders_j216s0 M k b v96_0 kk))), (0, .ref (ad 0 0)), (1, .int p0), (2, .int p1), (3, .ref (oa 0)), (4, .ref (oa 1)), (5, .ref (oa 2)), (6, .ref (oa 3)), (7, .int (nI k)), (8, .int (nI b)), (9, .int (sp_L_tenders_j73s0 M k)), (10, .int v96_0), (11, .int (sp_L_tenders_j130s0 M k b))]) hx hb dL_tenders_241 hl (k := 13) rfl (rfl) (by decide) rfl (fun ls hl => ?_)
                            refine lv_goto (tgt := 199) hx hb dL_tenders_244 (by decide) ?_
                            exact ih_199 (kk + 1) hlt_199 (by omega) _ _ ls (Eq.symm (rfl)) (nI_1 kk) (lv_sub hl [2, 3, 4, 5, 6, 7, 8, 9, 10, 11, 12, 13, 1, 0] rfl)
                          refine lv_icmp_eq (tgt := 237) hx hb dL_tenders_216 (by decide) (fun c_216 => ?_) (fun c_216 => ?_)
                          · skip
                            refine lv_iconst (v := 0) hx hb dL_tenders_237 (by decide) ?_
                            exact hj_216 _ ls (Eq.symm (Eq.trans (if_pos c_216) (rfl))) (lv_sub hl [0, 1, 2, 3, 4, 5, 6, 7, 8, 9, 10, 11, 12, 13] rfl)
                          · skip
                            refine lv_iload hx hb dL_tenders_219 (lv_at hl 7 rfl) ?_
                            refine lv_iload hx hb dL_tenders_221 (lv_at hl 13 rfl) ?_
                            refine lv_aload hx hb dL_tenders_223 (lv_at hl 5 rfl) ?_
                            refine lv_aload hx hb dL_tenders_225 (lv_at hl 6 rfl) ?_
                            refine pu_S (As := [.int (nI k), .int (nI kk), .ref (oa 2), .ref (oa 3)]) (rest := [.int (sp_L_tenders_L199 M k b v96_0 kk)]) hc (c_L_in l D K oa (um M 2 (upd (M 2) (((4 * (nI k)) + (nI b)).toNatClampNeg) v96_0)) (nI k) (nI kk) (vp_in_nI (Nat.lt_of_lt_of_le hk hn8) (by decide)) (vp_in_nI hlt_199 (by decide))) (va_cwS 4 hts gL_tenders_L_in rfl rfl rfl (by decide +kernel) ⟨Nat.le_of_ble_eq_true rfl, Nat.le_of_ble_eq_true rfl⟩) hPm hK hE rfl rfl hl.1 (Nat.le_of_ble_eq_true rfl) dL_tenders_227 ⟨Nat.le_of_ble_eq_true rfl, Nat.le_of_ble_eq_true rfl⟩ ?_
                            refine lb_eq (tgt := 237) hx hb dL_tenders_230 (by decide) (fun c_230 => ?_) (fun c_230 => ?_)
                            · skip
                              refine lv_iconst (v := 0) hx hb dL_tenders_237 (by decide) ?_
                              exact hj_216 _ ls (Eq.symm (Eq.trans (if_neg c_216) (Eq.trans (if_neg (ntr c_230)) (rfl)))) (lv_sub hl [0, 1, 2, 3, 4, 5, 6, 7, 8, 9, 10, 11, 12, 13] rfl)
                            · skip
                              refine lv_iconst (v := 1) hx hb dL_tenders_233 (by decide) ?_
                              refine W.eq (g2 := F0 m 234 ls [.int 1, .int (sp_L_tenders_L199 M k b v96_0 kk)]) rfl ?_
                              refine lv_goto (tgt := 238) hx hb dL_tenders_234 (by decide) ?_
                              exact hj_216 _ ls (Eq.symm (Eq.trans (if_neg c_216) (Eq.trans (if_pos c_230) (rfl)))) (lv_sub hl [0, 1, 2, 3, 4, 5, 6, 7, 8, 9, 10, 11, 12, 13] rfl)
                  exact hloop_199 (4 + 1) 0 (Nat.zero_le _) (by omega) _ _ ls rfl nI_0.symm (lv_sub hl [3, 4, 5, 6, 7, 8, 9, 10, 11, 12, 13, 2, 1, 0] rfl)
            refine lv_if_eq (tgt := 150) hx hb dL_tenders_130 (by decide) (fun c_130 => ?_) (fun c_130 => ?_)
            · skip
              refine lv_iconst (v := 0) hx hb dL_tenders_150 (by decide) ?_
              exact hj_130 _ ls (Eq.symm (Eq.trans (if_pos c_130) (rfl))) (lv_sub hl [1, 2, 3, 4, 5, 6, 7, 8, 9, 10, 0] rfl)
            · skip
              refine lv_aload hx hb dL_tenders_133 (lv_at hl 6 rfl) ?_
              refine lv_iconst (v := 4) hx hb dL_tenders_135 (by decide) ?_
              refine lv_iload hx hb dL_tenders_136 (lv_at hl 8 rfl) ?_
              refine lv_imul hx hb dL_tenders_138 ?_
              refine lv_iload hx hb dL_tenders_139 (lv_at hl 9 rfl) ?_
              refine lv_iadd hx hb dL_tenders_141 ?_
              refine va_iald hx hb hK hP 2 0 (cA := K 0) rfl rfl (i4 (vp_in_nI (Nat.lt_of_lt_of_le hk hn8) (by decide)) (vp_in_nI hb4 (by decide))) dL_tenders_142 ?_
              refine W.eq (g2 := F0 m 143 ls [.int (M 2 (((4 * (nI k)) + (nI b)).toNatClampNeg))]) rfl ?_
              refine lv_if_ne (tgt := 150) hx hb dL_tenders_143 (by decide) (fun c_143 => ?_) (fun c_143 => ?_)
              · skip
                refine lv_iconst (v := 0) hx hb dL_tenders_150 (by decide) ?_
                exact hj_130 _ ls (Eq.symm (Eq.trans (if_neg c_130) (Eq.trans (if_neg c_143) (rfl)))) (lv_sub hl [1, 2, 3, 4, 5, 6, 7, 8, 9, 10, 0] rfl)
              · skip
                refine lv_iconst (v := 1) hx hb dL_tenders_146 (by decide) ?_
                refine lv_goto (tgt := 151) hx hb dL_tenders_147 (by decide) ?_
                exact hj_130 _ ls (Eq.symm (Eq.trans (if_neg c_130) (Eq.trans (if_pos c_143) (rfl)))) (lv_sub hl [1, 2, 3, 4, 5, 6, 7, 8, 9, 10, 0] rfl)
          refine lv_if_ne (tgt := 113) hx hb dL_tenders_96 (by decide) (fun c_96 => ?_) (fun c_96 => ?_)
          · skip
            refine lv_sipush (v := 1000) hx hb dL_tenders_113 (by decide) ?_
            refine lv_iload_n hx hb dL_tenders_116 rfl (lv_at hl 3 rfl) ?_
            refine lv_bipush (v := 6) hx hb dL_tenders_117 (by decide) ?_
            refine lv_ishr hx hb dL_tenders_119 ?_
            refine lv_bipush (v := 80) hx hb dL_tenders_120 (by decide) ?_
            refine pu_S (As := [.int (p1 >>> (6 &&& 31)), .int 80]) (rest := [.int 1000]) hc (c_L_low l D K (p1 >>> (6 &&& 31)) 80 (by decide)) (va_cwS 2 hts gL_tenders_L_low rfl rfl rfl (by decide +kernel) ⟨Nat.le_of_ble_eq_true rfl, Nat.le_of_ble_eq_true rfl⟩) trivial hK hE rfl rfl hl.1 (Nat.le_of_ble_eq_true rfl) dL_tenders_122 ⟨Nat.le_of_ble_eq_true rfl, Nat.le_of_ble_eq_true rfl⟩ ?_
            refine lv_iadd hx hb dL_tenders_125 ?_
            exact hj_96 _ ls (Eq.symm (Eq.trans (if_neg c_96) (rfl))) (lv_sub hl [1, 2, 3, 4, 5, 6, 7, 8, 9, 0] rfl)
          · skip
            refine lv_iconst (v := 1) hx hb dL_tenders_99 (by decide) ?_
            refine lv_iload_n hx hb dL_tenders_100 rfl (lv_at hl 3 rfl) ?_
            refine lv_bipush (v := 6) hx hb dL_tenders_101 (by decide) ?_
            refine lv_ishr hx hb dL_tenders_103 ?_
            refine lv_ldc hx hb hown (hts (.constant RL 90 (100000)) (by decide +kernel)) dL_tenders_104 ?_
            refine pu_S (As := [.int (p1 >>> (6 &&& 31)), .int 100000]) (rest := [.int 1]) hc (c_L_low l D K (p1 >>> (6 &&& 31)) 100000 (by decide)) (va_cwS 2 hts gL_tenders_L_low rfl rfl rfl (by decide +kernel) ⟨Nat.le_of_ble_eq_true rfl, Nat.le_of_ble_eq_true rfl⟩) trivial hK hE rfl rfl hl.1 (Nat.le_of_ble_eq_true rfl) dL_tenders_106 ⟨Nat.le_of_ble_eq_true rfl, Nat.le_of_ble_eq_true rfl⟩ ?_
            refine lv_iadd hx hb dL_tenders_109 ?_
            refine W.eq (g2 := F0 m 110 ls [.int ((1 : Int32) + (sp_L_low (p1 >>> (6 &&& 31)) 100000))]) rfl ?_
            refine lv_goto (tgt := 126) hx hb dL_tenders_110 (by decide) ?_
            exact hj_96 _ ls (Eq.symm (Eq.trans (if_pos c_96) (rfl))) (lv_sub hl [1, 2, 3, 4, 5, 6, 7, 8, 9, 0] rfl)
      refine lv_if_ne (tgt := 80) hx hb dL_tenders_73 (by decide) (fun c_73 => ?_) (fun c_73 => ?_)
      · skip
        refine lv_iconst (v := 0) hx hb dL_tenders_80 (by decide) ?_
        exact hj_73 _ ls (Eq.symm (Eq.trans (if_neg c_73) (rfl))) (lv_sub hl [2, 3, 4, 5, 6, 7, 8, 1, 0] rfl)
      · skip
        refine lv_iconst (v := 1) hx hb dL_tenders_76 (by decide) ?_
        refine lv_goto (tgt := 81) hx hb dL_tenders_77 (by decide) ?_
        exact hj_73 _ ls (Eq.symm (Eq.trans (if_pos c_73) (rfl))) (lv_sub hl [2, 3, 4, 5, 6, 7, 8, 1, 0] rfl)
    refine lv_if_le (tgt := 53) hx hb dL_tenders_39 (by decide) (fun c_39 => ?_) (fun c_39 => ?_)
    · skip
      refine lv_iload hx hb dL_tenders_53 (lv_at hl 0 rfl) ?_
      exact hj_39 _ ls (Eq.symm (Eq.trans (if_pos c_39) (rfl))) (lv_sub hl [1, 2, 3, 4, 5, 6, 7, 0] rfl)
    · skip
      refine lv_aload_n hx hb dL_tenders_42 rfl (lv_at hl 4 rfl) ?_
      refine lv_iconst (v := 0) hx hb dL_tenders_43 (by decide) ?_
      refine va_iald hx hb hK hP 0 0 (cA := K 0) rfl rfl ((show vp_in 0 7 from vp_in_nI (n := 0) (by decide) (by decide))) dL_tenders_44 ?_
      refine W.eq (g2 := F0 m 45 ls [.int (M 0 0)]) rfl ?_
      refine lv_iconst (v := 1) hx hb dL_tenders_45 (by decide) ?_
      refine lv_isub hx hb dL_tenders_46 ?_
      refine lv_iload hx hb dL_tenders_47 (lv_at hl 0 rfl) ?_
      refine lv_isub hx hb dL_tenders_49 ?_
      refine W.eq (g2 := F0 m 50 ls [.int (((M 0 0) - 1) - (nI r))]) rfl ?_
      refine lv_goto (tgt := 55) hx hb dL_tenders_50 (by decide) ?_
      exact hj_39 _ ls (Eq.symm (Eq.trans (if_neg c_39) (rfl))) (lv_sub hl [1, 2, 3, 4, 5, 6, 7, 0] rfl)
  refine lv_if_le (tgt := 23) hx hb dL_tenders_9 (by decide) (fun c_9 => ?_) (fun c_9 => ?_)
  · skip
    refine lv_aload_n hx hb dL_tenders_23 rfl (lv_at hl 3 rfl) ?_
    refine lv_iconst (v := 0) hx hb dL_tenders_24 (by decide) ?_
    refine va_iald hx hb hK hP 0 0 (cA := K 0) rfl rfl ((show vp_in 0 7 from vp_in_nI (n := 0) (by decide) (by decide))) dL_tenders_25 ?_
    refine W.eq (g2 := F0 m 26 ls [.int (M 0 0), .int p1]) rfl ?_
    exact hj_9 _ ls (Eq.symm (Eq.trans (if_pos c_9) (rfl))) (lv_sub hl [0, 1, 2, 3, 4, 5, 6] rfl)
  · skip
    refine lv_aload_n hx hb dL_tenders_12 rfl (lv_at hl 3 rfl) ?_
    refine lv_iconst (v := 0) hx hb dL_tenders_13 (by decide) ?_
    refine va_iald hx hb hK hP 0 0 (cA := K 0) rfl rfl ((show vp_in 0 7 from vp_in_nI (n := 0) (by decide) (by decide))) dL_tenders_14 ?_
    refine W.eq (g2 := F0 m 15 ls [.int (M 0 0), .int p1]) rfl ?_
    refine lv_iconst (v := 2) hx hb dL_tenders_15 (by decide) ?_
    refine lv_icmp_le (tgt := 23) hx hb dL_tenders_16 (by decide) (fun c_16 => ?_) (fun c_16 => ?_)
    · skip
      refine lv_aload_n hx hb dL_tenders_23 rfl (lv_at hl 3 rfl) ?_
      refine lv_iconst (v := 0) hx hb dL_tenders_24 (by decide) ?_
      refine va_iald hx hb hK hP 0 0 (cA := K 0) rfl rfl ((show vp_in 0 7 from vp_in_nI (n := 0) (by decide) (by decide))) dL_tenders_25 ?_
      refine W.eq (g2 := F0 m 26 ls [.int (M 0 0), .int p1]) rfl ?_
      exact hj_9 _ ls (Eq.symm (Eq.trans (if_neg c_9) (Eq.trans (if_pos c_16) (rfl)))) (lv_sub hl [0, 1, 2, 3, 4, 5, 6] rfl)
    · skip
      refine lv_iconst (v := 3) hx hb dL_tenders_19 (by decide) ?_
      refine lv_goto (tgt := 26) hx hb dL_tenders_20 (by decide) ?_
      exact hj_9 _ ls (Eq.symm (Eq.trans (if_neg c_9) (Eq.trans (if_neg c_16) (rfl)))) (lv_sub hl [0, 1, 2, 3, 4, 5, 6] rfl)
