set_option maxHeartbeats 4000000 in
set_option maxRecDepth 100000 in
theorem c_L_isSo (l : Launch) (D : va_G) (K : Nat → ClassId) (ad : Nat → Nat → Nat) (n d : Nat) (S : Nat → Nat → Nat → Int32) (oa : Nat → Nat) (M : Nat → Nat → Int32) (cn : Nat) (R : Rel n d S M cn) : PU l yL_isSo wsL_isSo 7 161 D K [.ref (ad 0 0), .ref (oa 0), .ref (oa 1), .ref (oa 2), .ref (oa 3), .ref (oa 4), .ref (oa 5)] (fun H => XP D K ad n d S H ∧ va_P D vwCl (aW K oa M) H) (.int (bI true)) := by
  refine Met.ofW (cc := cL_isSo) (maxL := 12) (ret := (some .boolean)) (by decide) rfl ?_
  intro p e s m args below meth c s₁ B hml hv
  obtain ⟨rfl, hP, hK, hE⟩ := hv
  have hx := B.exec
  have hb := B.bytes
  have hr := B.returns
  have hts := atoms_spec (ws := wsL_isSo) B.pre
  have hown : s.vm.findClass RL = some m.cls := findClass_of_methodNamed B.named
  have hlocks := B.notSynchronized
  have hc : CallFix p m c cL_isSo 12 s ([.ref (ad 0 0), .ref (oa 0), .ref (oa 1), .ref (oa 2), .ref (oa 3), .ref (oa 4), .ref (oa 5)] : List Value).toArray wsL_isSo RL := ⟨hx, hb, hml, hown, hts⟩
  obtain ⟨hXP, hP⟩ := hP
  have hXW := hXP.2.2.1
  have hP : va_P D vwCl (aW K oa M) s.heap := hP
  have hn := R.n0
  have hn8 := R.n8
  have hd2 := R.d2
  have hd6 := R.d6
  have hl := lv_entry ([.ref (ad 0 0), .ref (oa 0), .ref (oa 1), .ref (oa 2), .ref (oa 3), .ref (oa 4), .ref (oa 5)]) (n := 12) (Nat.le_of_ble_eq_true rfl)
  rw [lg_entry_eq]
  generalize (lg_sl ([.ref (ad 0 0), .ref (oa 0), .ref (oa 1), .ref (oa 2), .ref (oa 3), .ref (oa 4), .ref (oa 5)]) ++ List.replicate (12 - (lg_sl ([.ref (ad 0 0), .ref (oa 0), .ref (oa 1), .ref (oa 2), .ref (oa 3), .ref (oa 4), .ref (oa 5)])).length) Slot.unset).toArray = ls at hl ⊢
  have hl : lv_has ls 12 [(0, .ref (ad 0 0)), (1, .ref (oa 0)), (2, .ref (oa 1)), (3, .ref (oa 2)), (4, .ref (oa 3)), (5, .ref (oa 4)), (6, .ref (oa 5))] := hl
  refine lv_aload_n hx hb dL_isSo_0 rfl (lv_at hl 0 rfl) ?_
  refine pu_V (As := []) (rest := []) hc (c_X2_worst l D K ad n d S) (cwV 0 hts gL_isSo_X2_worst rfl rfl rfl (by decide +kernel) ⟨Nat.le_of_ble_eq_true rfl, Nat.le_of_ble_eq_true rfl⟩) hXP hK hE (va_recv hK hXW (ci := 2) (q0 := 0) rfl rfl) rfl rfl hl.1 (Nat.le_of_ble_eq_true rfl) dL_isSo_1 ⟨Nat.le_of_ble_eq_true rfl, Nat.le_of_ble_eq_true rfl⟩ ?_
  refine lv_aload_n hx hb dL_isSo_4 rfl (lv_at hl 1 rfl) ?_
  refine lv_aload_n hx hb dL_isSo_5 rfl (lv_at hl 2 rfl) ?_
  refine lv_aload_n hx hb dL_isSo_6 rfl (lv_at hl 3 rfl) ?_
  refine lv_aload hx hb dL_isSo_7 (lv_at hl 4 rfl) ?_
  refine pu_S (As := [.ref (oa 0), .ref (oa 1), .ref (oa 2), .ref (oa 3)]) (rest := [.int (sp_X2_worst n S)]) hc (c_L_worst l D K oa M n hn hn8) (va_cwS 4 hts gL_isSo_L_worst rfl rfl rfl (by decide +kernel) ⟨Nat.le_of_ble_eq_true rfl, Nat.le_of_ble_eq_true rfl⟩) hP hK hE rfl rfl hl.1 (Nat.le_of_ble_eq_true rfl) dL_isSo_9 ⟨Nat.le_of_ble_eq_true rfl, Nat.le_of_ble_eq_true rfl⟩ ?_
  refine lv_icmp_ne (tgt := 19) hx hb dL_isSo_12 (by decide) (fun c_12 => ?_) (fun c_12 => ?_)
  · skip
    exact absurd (R.worst) c_12
  · skip
    refine W.eq (g2 := F0 m 15 ls []) rfl ?_
    refine lv_iconst (v := 1) hx hb dL_isSo_15 (by decide) ?_
    refine lv_goto (tgt := 20) hx hb dL_isSo_16 (by decide) ?_
    refine lv_istore (lv' := [(7, .int 1), (0, .ref (ad 0 0)), (1, .ref (oa 0)), (2, .ref (oa 1)), (3, .ref (oa 2)), (4, .ref (oa 3)), (5, .ref (oa 4)), (6, .ref (oa 5))]) hx hb dL_isSo_20 hl (by decide) rfl (fun ls hl => ?_)
    refine lv_iconst (v := 0) hx hb dL_isSo_22 (by decide) ?_
    refine lv_istore (lv' := [(8, .int 0), (7, .int 1), (0, .ref (ad 0 0)), (1, .ref (oa 0)), (2, .ref (oa 1)), (3, .ref (oa 2)), (4, .ref (oa 3)), (5, .ref (oa 4)), (6, .ref (oa 5))]) hx hb dL_isSo_23 hl (by decide) rfl (fun ls hl => ?_)
    have hloop_25 : ∀ (n25 kb : Nat), kb ≤ 4 → 4 + 1 ≤ kb + n25 → ∀ (x25 : Int32) (ls : Array Slot), x25 = nI kb → lv_has ls 12 [(0, .ref (ad 0 0)), (1, .ref (oa 0)), (2, .ref (oa 1)), (3, .ref (oa 2)), (4, .ref (oa 3)), (5, .ref (oa 4)), (6, .ref (oa 5)), (7, .int 1), (8, .int x25)] → W p l e ({ frames := 7, cells := 0, slots := 0, locals := 161 } : Room) s m ([.ref (ad 0 0), .ref (oa 0), .ref (oa 1), .ref (oa 2), .ref (oa 3), .ref (oa 4), .ref (oa 5)] : List Value).toArray below meth c s.heap [] 0 0 (MQ below (QcV (.int (bI true))) ([.ref (ad 0 0), .ref (oa 0), .ref (oa 1), .ref (oa 2), .ref (oa 3), .ref (oa 4), .ref (oa 5)] : List Value).toArray s 0 0 (fun _ => False)) (F0 m 25 ls []) := by
      intro n25
      induction n25 with
      | zero => intro kb h1 h2; exact absurd h2 (by omega)
      | succ n25 ih_25 =>
        intro kb hk_25 hn_25 x25 ls ex25 hl
        subst ex25
        refine lv_iload hx hb dL_isSo_25 (lv_at hl 8 rfl) ?_
        refine lv_iconst (v := 4) hx hb dL_isSo_27 (by decide) ?_
        refine lv_icmp_ge (tgt := 249) hx hb dL_isSo_28 (by decide) (fun c_28 => ?_) (fun c_28 => ?_)
        · skip
          have hke_25 : 4 = kb := (lp_end rfl c_28 hk_25 (by decide)).symm
          subst hke_25
          refine lv_iconst (v := 0) hx hb dL_isSo_249 (by decide) ?_
          refine lv_istore (lv' := [(8, .int 0), (0, .ref (ad 0 0)), (1, .ref (oa 0)), (2, .ref (oa 1)), (3, .ref (oa 2)), (4, .ref (oa 3)), (5, .ref (oa 4)), (6, .ref (oa 5)), (7, .int 1)]) hx hb dL_isSo_250 hl (by decide) rfl (fun ls hl => ?_)
          have hloop_252 : ∀ (n252 kf : Nat), kf ≤ d → d + 1 ≤ kf + n252 → ∀ (x252 : Int32) (ls : Array Slot), x252 = nI kf → lv_has ls 12 [(0, .ref (ad 0 0)), (1, .ref (oa 0)), (2, .ref (oa 1)), (3, .ref (oa 2)), (4, .ref (oa 3)), (5, .ref (oa 4)), (6, .ref (oa 5)), (7, .int 1), (8, .int x252)] → W p l e ({ frames := 7, cells := 0, slots := 0, locals := 161 } : Room) s m ([.ref (ad 0 0), .ref (oa 0), .ref (oa 1), .ref (oa 2), .ref (oa 3), .ref (oa 4), .ref (oa 5)] : List Value).toArray below meth c s.heap [] 0 0 (MQ below (QcV (.int (bI true))) ([.ref (ad 0 0), .ref (oa 0), .ref (oa 1), .ref (oa 2), .ref (oa 3), .ref (oa 4), .ref (oa 5)] : List Value).toArray s 0 0 (fun _ => False)) (F0 m 252 ls []) := by
            intro n252
            induction n252 with
            | zero => intro kf h1 h2; exact absurd h2 (by omega)
            | succ n252 ih_252 =>
              intro kf hk_252 hn_252 x252 ls ex252 hl
              subst ex252
              refine lv_iload hx hb dL_isSo_252 (lv_at hl 8 rfl) ?_
              refine lv_aload_n hx hb dL_isSo_254 rfl (lv_at hl 1 rfl) ?_
              refine lv_iconst (v := 2) hx hb dL_isSo_255 (by decide) ?_
              refine va_iald hx hb hK hP 0 0 (cA := K 0) rfl rfl ((show vp_in 2 7 from vp_in_nI (n := 2) (by decide) (by decide))) dL_isSo_256 ?_
              refine W.eq (g2 := F0 m 257 ls [.int (M 0 2), .int (nI kf)]) rfl ?_
              refine lv_icmp_ge (tgt := 371) hx hb dL_isSo_257 (by decide) (fun c_257 => ?_) (fun c_257 => ?_)
              · skip
                have hke_252 : d = kf := (lp_end hd2 c_257 hk_252 (by omega)).symm
                subst hke_252
                refine lv_iload hx hb dL_isSo_371 (lv_at hl 7 rfl) ?_
                refine lv_if_eq (tgt := 397) hx hb dL_isSo_373 (by decide) (fun c_373 => ?_) (fun c_373 => ?_)
                · skip
                  exact absurd c_373 (by decide)
                · skip
                  refine lv_aload_n hx hb dL_isSo_376 rfl (lv_at hl 0 rfl) ?_
                  refine lv_bipush (v := 6) hx hb dL_isSo_377 (by decide) ?_
                  refine pu_V (As := [.int 6]) (rest := []) hc (c_X2_turnover l D K ad n d S 6 (by decide)) (cwV 1 hts gL_isSo_X2_turnover rfl rfl rfl (by decide +kernel) ⟨Nat.le_of_ble_eq_true rfl, Nat.le_of_ble_eq_true rfl⟩) hXP hK hE (va_recv hK hXW (ci := 2) (q0 := 0) rfl rfl) rfl rfl hl.1 (Nat.le_of_ble_eq_true rfl) dL_isSo_379 ⟨Nat.le_of_ble_eq_true rfl, Nat.le_of_ble_eq_true rfl⟩ ?_
                  refine lv_if_ne (tgt := 397) hx hb dL_isSo_382 (by decide) (fun c_382 => ?_) (fun c_382 => ?_)
                  · skip
                    exact absurd (R.t6) c_382
                  · skip
                    refine lv_aload_n hx hb dL_isSo_385 rfl (lv_at hl 0 rfl) ?_
                    refine lv_iconst (v := 5) hx hb dL_isSo_386 (by decide) ?_
                    refine W.eq (g2 := F0 m 387 ls [.int 5, .ref (ad 0 0)]) rfl ?_
                    refine pu_V (As := [.int 5]) (rest := []) hc (c_X2_won l D K ad n d S 5 (by decide)) (cwV 1 hts gL_isSo_X2_won rfl rfl rfl (by decide +kernel) ⟨Nat.le_of_ble_eq_true rfl, Nat.le_of_ble_eq_true rfl⟩) hXP hK hE (va_recv hK hXW (ci := 2) (q0 := 0) rfl rfl) rfl rfl hl.1 (Nat.le_of_ble_eq_true rfl) dL_isSo_387 ⟨Nat.le_of_ble_eq_true rfl, Nat.le_of_ble_eq_true rfl⟩ ?_
                    refine lv_if_ne (tgt := 397) hx hb dL_isSo_390 (by decide) (fun c_390 => ?_) (fun c_390 => ?_)
                    · skip
                      exact absurd (R.w5) c_390
                    · skip
                      refine lv_iconst (v := 1) hx hb dL_isSo_393 (by decide) ?_
                      refine lv_goto (tgt := 398) hx hb dL_isSo_394 (by decide) ?_
                      exact pu_zret hx hb hr hlocks dL_isSo_398 (bI_nar _) (bI_eq (a := true) (rfl))
              · skip
                have hlt_252 : kf < d := lp_in hd2 c_257 hk_252 (by omega)
                refine lv_iload hx hb dL_isSo_260 (lv_at hl 7 rfl) ?_
                refine W.eq (g2 := F0 m 262 ls [.int 1]) rfl ?_
                refine lv_if_eq (tgt := 371) hx hb dL_isSo_262 (by decide) (fun c_262 => ?_) (fun c_262 => ?_)
                · skip
                  exact absurd c_262 (by decide)
                · skip
                  refine lv_aload_n hx hb dL_isSo_265 rfl (lv_at hl 0 rfl) ?_
                  refine lv_iload hx hb dL_isSo_266 (lv_at hl 8 rfl) ?_
                  refine pu_V (As := [.int (nI kf)]) (rest := []) hc (c_X2_matters l D K ad n d S (nI kf) (tIn_of hlt_252 R.d31)) (cwV 1 hts gL_isSo_X2_matters rfl rfl rfl (by decide +kernel) ⟨Nat.le_of_ble_eq_true rfl, Nat.le_of_ble_eq_true rfl⟩) hXP hK hE (va_recv hK hXW (ci := 2) (q0 := 0) rfl rfl) rfl rfl hl.1 (Nat.le_of_ble_eq_true rfl) dL_isSo_268 ⟨Nat.le_of_ble_eq_true rfl, Nat.le_of_ble_eq_true rfl⟩ ?_
                  refine lv_aload hx hb dL_isSo_271 (lv_at hl 5 rfl) ?_
                  refine lv_bipush (v := 8) hx hb dL_isSo_273 (by decide) ?_
                  refine lv_iload hx hb dL_isSo_275 (lv_at hl 8 rfl) ?_
                  refine lv_imul hx hb dL_isSo_277 ?_
                  refine W.eq (g2 := F0 m 278 ls [.int (8 * (nI kf)), .ref (oa 4), .int (sp_X2_matters S (nI kf))]) rfl ?_
                  refine lv_iconst (v := 2) hx hb dL_isSo_278 (by decide) ?_
                  refine lv_iadd hx hb dL_isSo_279 ?_
                  refine va_iald hx hb hK hP 4 0 (cA := K 0) rfl rfl (i8 (vp_in_nI (Nat.lt_of_lt_of_le hlt_252 hd6) (by decide)) (show vp_in 2 8 from vp_in_nI (n := 2) (by decide) (by decide))) dL_isSo_280 ?_
                  refine pu_S (As := [.int (M 4 (((8 * (nI kf)) + 2).toNatClampNeg))]) (rest := [.int (sp_X2_matters S (nI kf))]) hc (c_L_bits l D K (M 4 (((8 * (nI kf)) + 2).toNatClampNeg))) (va_cwS 1 hts gL_isSo_L_bits rfl rfl rfl (by decide +kernel) ⟨Nat.le_of_ble_eq_true rfl, Nat.le_of_ble_eq_true rfl⟩) trivial hK hE rfl rfl hl.1 (Nat.le_of_ble_eq_true rfl) dL_isSo_281 ⟨Nat.le_of_ble_eq_true rfl, Nat.le_of_ble_eq_true rfl⟩ ?_
                  refine lv_icmp_ne (tgt := 362) hx hb dL_isSo_284 (by decide) (fun c_284 => ?_) (fun c_284 => ?_)
                  · skip
                    exact absurd (R.matters hlt_252) c_284
                  · skip
                    refine lv_aload_n hx hb dL_isSo_287 rfl (lv_at hl 0 rfl) ?_
                    refine lv_iload hx hb dL_isSo_288 (lv_at hl 8 rfl) ?_
                    refine pu_V (As := [.int (nI kf)]) (rest := []) hc (c_X2_firstTeller l D K ad n d S (nI kf) (tIn_of hlt_252 R.d31)) (cwV 1 hts gL_isSo_X2_firstTeller rfl rfl rfl (by decide +kernel) ⟨Nat.le_of_ble_eq_true rfl, Nat.le_of_ble_eq_true rfl⟩) hXP hK hE (va_recv hK hXW (ci := 2) (q0 := 0) rfl rfl) rfl rfl hl.1 (Nat.le_of_ble_eq_true rfl) dL_isSo_290 ⟨Nat.le_of_ble_eq_true rfl, Nat.le_of_ble_eq_true rfl⟩ ?_
                    refine W.eq (g2 := F0 m 293 ls [.int (sp_X2_firstTeller S (nI kf))]) rfl ?_
                    refine lv_aload hx hb dL_isSo_293 (lv_at hl 5 rfl) ?_
                    refine lv_bipush (v := 8) hx hb dL_isSo_295 (by decide) ?_
                    refine lv_iload hx hb dL_isSo_297 (lv_at hl 8 rfl) ?_
                    refine lv_imul hx hb dL_isSo_299 ?_
                    refine lv_iconst (v := 4) hx hb dL_isSo_300 (by decide) ?_
                    refine lv_iadd hx hb dL_isSo_301 ?_
                    refine va_iald hx hb hK hP 4 0 (cA := K 0) rfl rfl (i8 (vp_in_nI (Nat.lt_of_lt_of_le hlt_252 hd6) (by decide)) (show vp_in 4 8 from vp_in_nI (n := 4) (by decide) (by decide))) dL_isSo_302 ?_
                    refine lv_icmp_ne (tgt := 362) hx hb dL_isSo_303 (by decide) (fun c_303 => ?_) (fun c_303 => ?_)
                    · skip
                      exact absurd (R.first hlt_252) c_303
                    · skip
                      refine W.eq (g2 := F0 m 306 ls []) rfl ?_
                      refine lv_aload_n hx hb dL_isSo_306 rfl (lv_at hl 0 rfl) ?_
                      refine lv_iload hx hb dL_isSo_307 (lv_at hl 8 rfl) ?_
                      refine lv_aload hx hb dL_isSo_309 (lv_at hl 5 rfl) ?_
                      refine lv_bipush (v := 8) hx hb dL_isSo_311 (by decide) ?_
                      refine lv_iload hx hb dL_isSo_313 (lv_at hl 8 rfl) ?_
                      refine lv_imul hx hb dL_isSo_315 ?_
                      refine va_iald hx hb hK hP 4 0 (cA := K 0) rfl rfl (i80 (vp_in_nI (Nat.lt_of_lt_of_le hlt_252 hd6) (by decide))) dL_isSo_316 ?_
                      refine pu_V (As := [.int (nI kf), .int (M 4 ((8 * (nI kf)).toNatClampNeg))]) (rest := []) hc (c_X2_fine l D K ad n d S (nI kf) (M 4 ((8 * (nI kf)).toNatClampNeg)) (tIn_of hlt_252 R.d31) (R.of0 hlt_252)) (cwV 2 hts gL_isSo_X2_fine rfl rfl rfl (by decide +kernel) ⟨Nat.le_of_ble_eq_true rfl, Nat.le_of_ble_eq_true rfl⟩) hXP hK hE (va_recv hK hXW (ci := 2) (q0 := 0) rfl rfl) rfl rfl hl.1 (Nat.le_of_ble_eq_true rfl) dL_isSo_317 ⟨Nat.le_of_ble_eq_true rfl, Nat.le_of_ble_eq_true rfl⟩ ?_
                      refine W.eq (g2 := F0 m 320 ls [.int (sp_X2_fine S (nI kf) (M 4 ((8 * (nI kf)).toNatClampNeg)))]) rfl ?_
                      refine lv_aload hx hb dL_isSo_320 (lv_at hl 6 rfl) ?_
                      refine lv_iconst (v := 2) hx hb dL_isSo_322 (by decide) ?_
                      refine lv_iload hx hb dL_isSo_323 (lv_at hl 8 rfl) ?_
                      refine lv_imul hx hb dL_isSo_325 ?_
                      refine va_iald hx hb hK hP 5 0 (cA := K 0) rfl rfl (i20 (vp_in_nI (Nat.lt_of_lt_of_le hlt_252 hd6) (by decide))) dL_isSo_326 ?_
                      refine lv_icmp_ne (tgt := 362) hx hb dL_isSo_327 (by decide) (fun c_327 => ?_) (fun c_327 => ?_)
                      · skip
                        exact absurd (R.fine0 hlt_252) c_327
                      · skip
                        refine lv_aload_n hx hb dL_isSo_330 rfl (lv_at hl 0 rfl) ?_
                        refine lv_iload hx hb dL_isSo_331 (lv_at hl 8 rfl) ?_
                        refine W.eq (g2 := F0 m 333 ls [.int (nI kf), .ref (ad 0 0)]) rfl ?_
                        refine lv_aload hx hb dL_isSo_333 (lv_at hl 5 rfl) ?_
                        refine lv_bipush (v := 8) hx hb dL_isSo_335 (by decide) ?_
                        refine lv_iload hx hb dL_isSo_337 (lv_at hl 8 rfl) ?_
                        refine lv_imul hx hb dL_isSo_339 ?_
                        refine lv_iconst (v := 1) hx hb dL_isSo_340 (by decide) ?_
                        refine lv_iadd hx hb dL_isSo_341 ?_
                        refine va_iald hx hb hK hP 4 0 (cA := K 0) rfl rfl (i8 (vp_in_nI (Nat.lt_of_lt_of_le hlt_252 hd6) (by decide)) (show vp_in 1 8 from vp_in_nI (n := 1) (by decide) (by decide))) dL_isSo_342 ?_
                        refine pu_V (As := [.int (nI kf), .int (M 4 (((8 * (nI kf)) + 1).toNatClampNeg))]) (rest := []) hc (c_X2_fine l D K ad n d S (nI kf) (M 4 (((8 * (nI kf)) + 1).toNatClampNeg)) (tIn_of hlt_252 R.d31) (R.of1 hlt_252)) (cwV 2 hts gL_isSo_X2_fine rfl rfl rfl (by decide +kernel) ⟨Nat.le_of_ble_eq_true rfl, Nat.le_of_ble_eq_true rfl⟩) hXP hK hE (va_recv hK hXW (ci := 2) (q0 := 0) rfl rfl) rfl rfl hl.1 (Nat.le_of_ble_eq_true rfl) dL_isSo_343 ⟨Nat.le_of_ble_eq_true rfl, Nat.le_of_ble_eq_true rfl⟩ ?_
                        refine W.eq (g2 := F0 m 346 ls [.int (sp_X2_fine S (nI kf) (M 4 (((8 * (nI kf)) + 1).toNatClampNeg)))]) rfl ?_
                        refine lv_aload hx hb dL_isSo_346 (lv_at hl 6 rfl) ?_
                        refine lv_iconst (v := 2) hx hb dL_isSo_348 (by decide) ?_
                        refine lv_iload hx hb dL_isSo_349 (lv_at hl 8 rfl) ?_
                        refine lv_imul hx hb dL_isSo_351 ?_
                        refine lv_iconst (v := 1) hx hb dL_isSo_352 (by decide) ?_
                        refine lv_iadd hx hb dL_isSo_353 ?_
                        refine va_iald hx hb hK hP 5 0 (cA := K 0) rfl rfl (i2 (vp_in_nI (Nat.lt_of_lt_of_le hlt_252 hd6) (by decide)) (show vp_in 1 2 from vp_in_nI (n := 1) (by decide) (by decide))) dL_isSo_354 ?_
                        refine lv_icmp_ne (tgt := 362) hx hb dL_isSo_355 (by decide) (fun c_355 => ?_) (fun c_355 => ?_)
                        · skip
                          exact absurd (R.fine1 hlt_252) c_355
                        · skip
                          refine W.eq (g2 := F0 m 358 ls []) rfl ?_
                          refine lv_iconst (v := 1) hx hb dL_isSo_358 (by decide) ?_
                          refine lv_goto (tgt := 363) hx hb dL_isSo_359 (by decide) ?_
                          refine lv_istore (lv' := [(7, .int 1), (0, .ref (ad 0 0)), (1, .ref (oa 0)), (2, .ref (oa 1)), (3, .ref (oa 2)), (4, .ref (oa 3)), (5, .ref (oa 4)), (6, .ref (oa 5)), (8, .int (nI kf))]) hx hb dL_isSo_363 hl (by decide) rfl (fun ls hl => ?_)
                          refine lv_iinc (v := (nI kf) + 1) (lv' := [(8, .int ((nI kf) + 1)), (7, .int 1), (0, .ref (ad 0 0)), (1, .ref (oa 0)), (2, .ref (oa 1)), (3, .ref (oa 2)), (4, .ref (oa 3)), (5, .ref (oa 4)), (6, .ref (oa 5))]) hx hb dL_isSo_365 hl (k := 8) rfl (rfl) (by decide) rfl (fun ls hl => ?_)
                          refine lv_goto (tgt := 252) hx hb dL_isSo_368 (by decide) ?_
                          exact ih_252 (kf + 1) hlt_252 (by omega) _ ls  (nI_1 kf) (lv_sub hl [2, 3, 4, 5, 6, 7, 8, 1, 0] rfl)
          exact hloop_252 (d + 1) 0 (Nat.zero_le _) (by omega) _ ls  nI_0.symm (lv_sub hl [1, 2, 3, 4, 5, 6, 7, 8, 0] rfl)
        · skip
          have hlt_25 : kb < 4 := lp_in rfl c_28 hk_25 (by decide)
          refine lv_iload hx hb dL_isSo_31 (lv_at hl 7 rfl) ?_
          refine lv_if_eq (tgt := 249) hx hb dL_isSo_33 (by decide) (fun c_33 => ?_) (fun c_33 => ?_)
          · skip
            exact absurd c_33 (by decide)
          · skip
            refine W.eq (g2 := F0 m 36 ls []) rfl ?_
            refine lv_iconst (v := 0) hx hb dL_isSo_36 (by decide) ?_
            refine lv_istore (lv' := [(9, .int 0), (0, .ref (ad 0 0)), (1, .ref (oa 0)), (2, .ref (oa 1)), (3, .ref (oa 2)), (4, .ref (oa 3)), (5, .ref (oa 4)), (6, .ref (oa 5)), (7, .int 1), (8, .int (nI kb))]) hx hb dL_isSo_37 hl (by decide) rfl (fun ls hl => ?_)
            refine lv_iconst (v := 0) hx hb dL_isSo_39 (by decide) ?_
            refine lv_istore (lv' := [(10, .int 0), (9, .int 0), (0, .ref (ad 0 0)), (1, .ref (oa 0)), (2, .ref (oa 1)), (3, .ref (oa 2)), (4, .ref (oa 3)), (5, .ref (oa 4)), (6, .ref (oa 5)), (7, .int 1), (8, .int (nI kb))]) hx hb dL_isSo_40 hl (by decide) rfl (fun ls hl => ?_)
            have hloop_42 : ∀ (n42 kw : Nat), kw ≤ n → n + 1 ≤ kw + n42 → ∀ (a42_9 x42 : Int32) (ls : Array Slot), a42_9 = sp_L_isSo_L42 M kb kw → x42 = nI kw → lv_has ls 12 [(0, .ref (ad 0 0)), (1, .ref (oa 0)), (2, .ref (oa 1)), (3, .ref (oa 2)), (4, .ref (oa 3)), (5, .ref (oa 4)), (6, .ref (oa 5)), (7, .int 1), (8, .int (nI kb)), (9, .int a42_9), (10, .int x42)] → W p l e ({ frames := 7, cells := 0, slots := 0, locals := 161 } : Room) s m ([.ref (ad 0 0), .ref (oa 0), .ref (oa 1), .ref (oa 2), .ref (oa 3), .ref (oa 4), .ref (oa 5)] : List Value).toArray below meth c s.heap [] 0 0 (MQ below (QcV (.int (bI true))) ([.ref (ad 0 0), .ref (oa 0), .ref (oa 1), .ref (oa 2), .ref (oa 3), .ref (oa 4), .ref (oa 5)] : List Value).toArray s 0 0 (fun _ => False)) (F0 m 42 ls []) := by
              intro n42
              induction n42 with
              | zero => intro kw h1 h2; exact absurd h2 (by omega)
              | succ n42 ih_42 =>
                intro kw hk_42 hn_42 a42_9 x42 ls ea42_9 ex42 hl
                subst ea42_9
                subst ex42
                refine lv_iload hx hb dL_isSo_42 (lv_at hl 10 rfl) ?_
                refine lv_aload_n hx hb dL_isSo_44 rfl (lv_at hl 1 rfl) ?_
                refine lv_iconst (v := 0) hx hb dL_isSo_45 (by decide) ?_
                refine va_iald hx hb hK hP 0 0 (cA := K 0) rfl rfl ((show vp_in 0 7 from vp_in_nI (n := 0) (by decide) (by decide))) dL_isSo_46 ?_
                refine W.eq (g2 := F0 m 47 ls [.int (M 0 0), .int (nI kw)]) rfl ?_
                refine W.eq (g2 := F0 m 47 ls [.int (M 0 0), .int (nI kw)]) rfl ?_
                refine lv_icmp_ge (tgt := 89) hx hb dL_isSo_47 (by decide) (fun c_47 => ?_) (fun c_47 => ?_)
                · skip
                  have hke_42 : n = kw := (lp_end hn c_47 hk_42 (by omega)).symm
                  subst hke_42
                  refine lv_aload_n hx hb dL_isSo_89 rfl (lv_at hl 0 rfl) ?_
                  refine lv_iload hx hb dL_isSo_90 (lv_at hl 8 rfl) ?_
                  refine pu_V (As := [.int (nI kb)]) (rest := []) hc (c_X2_turnover l D K ad n d S (nI kb) (isB_nI (by omega))) (cwV 1 hts gL_isSo_X2_turnover rfl rfl rfl (by decide +kernel) ⟨Nat.le_of_ble_eq_true rfl, Nat.le_of_ble_eq_true rfl⟩) hXP hK hE (va_recv hK hXW (ci := 2) (q0 := 0) rfl rfl) rfl rfl hl.1 (Nat.le_of_ble_eq_true rfl) dL_isSo_92 ⟨Nat.le_of_ble_eq_true rfl, Nat.le_of_ble_eq_true rfl⟩ ?_
                  refine lv_iload hx hb dL_isSo_95 (lv_at hl 8 rfl) ?_
                  refine lv_aload_n hx hb dL_isSo_97 rfl (lv_at hl 1 rfl) ?_
                  refine lv_aload_n hx hb dL_isSo_98 rfl (lv_at hl 2 rfl) ?_
                  refine lv_aload_n hx hb dL_isSo_99 rfl (lv_at hl 3 rfl) ?_
                  refine pu_S (As := [.int (nI kb), .ref (oa 0), .ref (oa 1), .ref (oa 2)]) (rest := [.int (sp_X2_turnover n S (nI kb))]) hc (c_L_turnover l D K oa M n (nI kb) hn hn8 (vp_in_nI hlt_25 (by decide))) (va_cwS 4 hts gL_isSo_L_turnover rfl rfl rfl (by decide +kernel) ⟨Nat.le_of_ble_eq_true rfl, Nat.le_of_ble_eq_true rfl⟩) hP hK hE rfl rfl hl.1 (Nat.le_of_ble_eq_true rfl) dL_isSo_100 ⟨Nat.le_of_ble_eq_true rfl, Nat.le_of_ble_eq_true rfl⟩ ?_
                  refine W.eq (g2 := F0 m 103 ls [.int (sp_L_turnover M n (nI kb)), .int (sp_X2_turnover n S (nI kb))]) rfl ?_
                  refine lv_icmp_ne (tgt := 121) hx hb dL_isSo_103 (by decide) (fun c_103 => ?_) (fun c_103 => ?_)
                  · skip
                    exact absurd (R.turn hlt_25) c_103
                  · skip
                    refine lv_aload_n hx hb dL_isSo_106 rfl (lv_at hl 0 rfl) ?_
                    refine lv_iload hx hb dL_isSo_107 (lv_at hl 8 rfl) ?_
                    refine pu_V (As := [.int (nI kb)]) (rest := []) hc (c_X2_won l D K ad n d S (nI kb) (isB_nI (by omega))) (cwV 1 hts gL_isSo_X2_won rfl rfl rfl (by decide +kernel) ⟨Nat.le_of_ble_eq_true rfl, Nat.le_of_ble_eq_true rfl⟩) hXP hK hE (va_recv hK hXW (ci := 2) (q0 := 0) rfl rfl) rfl rfl hl.1 (Nat.le_of_ble_eq_true rfl) dL_isSo_109 ⟨Nat.le_of_ble_eq_true rfl, Nat.le_of_ble_eq_true rfl⟩ ?_
                    refine lv_iload hx hb dL_isSo_112 (lv_at hl 9 rfl) ?_
                    refine lv_icmp_ne (tgt := 121) hx hb dL_isSo_114 (by decide) (fun c_114 => ?_) (fun c_114 => ?_)
                    · skip
                      exact absurd (R.won hlt_25) c_114
                    · skip
                      refine lv_iconst (v := 1) hx hb dL_isSo_117 (by decide) ?_
                      refine lv_goto (tgt := 122) hx hb dL_isSo_118 (by decide) ?_
                      refine lv_istore (lv' := [(7, .int 1), (0, .ref (ad 0 0)), (1, .ref (oa 0)), (2, .ref (oa 1)), (3, .ref (oa 2)), (4, .ref (oa 3)), (5, .ref (oa 4)), (6, .ref (oa 5)), (8, .int (nI kb)), (9, .int (sp_L_isSo_L42 M kb n)), (10, .int (nI n))]) hx hb dL_isSo_122 hl (by decide) rfl (fun ls hl => ?_)
                      refine lv_iconst (v := 0) hx hb dL_isSo_124 (by decide) ?_
                      refine lv_istore (lv' := [(10, .int 0), (7, .int 1), (0, .ref (ad 0 0)), (1, .ref (oa 0)), (2, .ref (oa 1)), (3, .ref (oa 2)), (4, .ref (oa 3)), (5, .ref (oa 4)), (6, .ref (oa 5)), (8, .int (nI kb)), (9, .int (sp_L_isSo_L42 M kb n))]) hx hb dL_isSo_125 hl (by decide) rfl (fun ls hl => ?_)
                      have hloop_127 : ∀ (n127 ko : Nat), ko ≤ 4 → 4 + 1 ≤ ko + n127 → ∀ (x127 : Int32) (ls : Array Slot), x127 = nI ko → lv_has ls 12 [(0, .ref (ad 0 0)), (1, .ref (oa 0)), (2, .ref (oa 1)), (3, .ref (oa 2)), (4, .ref (oa 3)), (5, .ref (oa 4)), (6, .ref (oa 5)), (7, .int 1), (8, .int (nI kb)), (9, .int (sp_L_isSo_L42 M kb n)), (10, .int x127)] → W p l e ({ frames := 7, cells := 0, slots := 0, locals := 161 } : Room) s m ([.ref (ad 0 0), .ref (oa 0), .ref (oa 1), .ref (oa 2), .ref (oa 3), .ref (oa 4), .ref (oa 5)] : List Value).toArray below meth c s.heap [] 0 0 (MQ below (QcV (.int (bI true))) ([.ref (ad 0 0), .ref (oa 0), .ref (oa 1), .ref (oa 2), .ref (oa 3), .ref (oa 4), .ref (oa 5)] : List Value).toArray s 0 0 (fun _ => False)) (F0 m 127 ls []) := by
                        intro n127
                        induction n127 with
                        | zero => intro ko h1 h2; exact absurd h2 (by omega)
                        | succ n127 ih_127 =>
                          intro ko hk_127 hn_127 x127 ls ex127 hl
                          subst ex127
                          refine lv_iload hx hb dL_isSo_127 (lv_at hl 10 rfl) ?_
                          refine lv_iconst (v := 4) hx hb dL_isSo_129 (by decide) ?_
                          refine lv_icmp_ge (tgt := 243) hx hb dL_isSo_130 (by decide) (fun c_130 => ?_) (fun c_130 => ?_)
                          · skip
                            have hke_127 : 4 = ko := (lp_end rfl c_130 hk_127 (by decide)).symm
                            subst hke_127
                            refine lv_iinc (v := (nI kb) + 1) (lv' := [(8, .int ((nI kb) + 1)), (0, .ref (ad 0 0)), (1, .ref (oa 0)), (2, .ref (oa 1)), (3, .ref (oa 2)), (4, .ref (oa 3)), (5, .ref (oa 4)), (6, .ref (oa 5)), (7, .int 1), (9, .int (sp_L_isSo_L42 M kb n)), (10, .int (nI 4))]) hx hb dL_isSo_243 hl (k := 8) rfl (rfl) (by decide) rfl (fun ls hl => ?_)
                            refine lv_goto (tgt := 25) hx hb dL_isSo_246 (by decide) ?_
                            exact ih_25 (kb + 1) hlt_25 (by omega) _ ls  (nI_1 kb) (lv_sub hl [1, 2, 3, 4, 5, 6, 7, 8, 0] rfl)
                          · skip
                            have hlt_127 : ko < 4 := lp_in rfl c_130 hk_127 (by decide)
                            refine lv_iload hx hb dL_isSo_133 (lv_at hl 7 rfl) ?_
                            refine lv_if_eq (tgt := 243) hx hb dL_isSo_135 (by decide) (fun c_135 => ?_) (fun c_135 => ?_)
                            · skip
                              exact absurd c_135 (by decide)
                            · skip
                              refine W.eq (g2 := F0 m 138 ls []) rfl ?_
                              refine lv_iload hx hb dL_isSo_138 (lv_at hl 10 rfl) ?_
                              refine lv_iload hx hb dL_isSo_140 (lv_at hl 8 rfl) ?_
                              have hj_142 : ∀ (ls : Array Slot), lv_has ls 12 [(0, .ref (ad 0 0)), (1, .ref (oa 0)), (2, .ref (oa 1)), (3, .ref (oa 2)), (4, .ref (oa 3)), (5, .ref (oa 4)), (6, .ref (oa 5)), (7, .int 1), (8, .int (nI kb)), (9, .int (sp_L_isSo_L42 M kb n)), (10, .int (nI ko))] → W p l e ({ frames := 7, cells := 0, slots := 0, locals := 161 } : Room) s m ([.ref (ad 0 0), .ref (oa 0), .ref (oa 1), .ref (oa 2), .ref (oa 3), .ref (oa 4), .ref (oa 5)] : List Value).toArray below meth c s.heap [] 0 0 (MQ below (QcV (.int (bI true))) ([.ref (ad 0 0), .ref (oa 0), .ref (oa 1), .ref (oa 2), .ref (oa 3), .ref (oa 4), .ref (oa 5)] : List Value).toArray s 0 0 (fun _ => False)) (F0 m 173 ls [.int 1]) := by
                                intro ls hl
                                refine lv_istore (lv' := [(7, .int 1), (0, .ref (ad 0 0)), (1, .ref (oa 0)), (2, .ref (oa 1)), (3, .ref (oa 2)), (4, .ref (oa 3)), (5, .ref (oa 4)), (6, .ref (oa 5)), (8, .int (nI kb)), (9, .int (sp_L_isSo_L42 M kb n)), (10, .int (nI ko))]) hx hb dL_isSo_173 hl (by decide) rfl (fun ls hl => ?_)
                                refine lv_iconst (v := 0) hx hb dL_isSo_175 (by decide) ?_
                                refine lv_istore (lv' := [(11, .int 0), (7, .int 1), (0, .ref (ad 0 0)), (1, .ref (oa 0)), (2, .ref (oa 1)), (3, .ref (oa 2)), (4, .ref (oa 3)), (5, .ref (oa 4)), (6, .ref (oa 5)), (8, .int (nI kb)), (9, .int (sp_L_isSo_L42 M kb n)), (10, .int (nI ko))]) hx hb dL_isSo_176 hl (by decide) rfl (fun ls hl => ?_)
                                have hloop_178 : ∀ (n178 kn : Nat), kn ≤ n → n + 1 ≤ kn + n178 → ∀ (x178 : Int32) (ls : Array Slot), x178 = nI kn → lv_has ls 12 [(0, .ref (ad 0 0)), (1, .ref (oa 0)), (2, .ref (oa 1)), (3, .ref (oa 2)), (4, .ref (oa 3)), (5, .ref (oa 4)), (6, .ref (oa 5)), (7, .int 1), (8, .int (nI kb)), (9, .int (sp_L_isSo_L42 M kb n)), (10, .int (nI ko)), (11, .int x178)] → W p l e ({ frames := 7, cells := 0, slots := 0, locals := 161 } : Room) s m ([.ref (ad 0 0), .ref (oa 0), .ref (oa 1), .ref (oa 2), .ref (oa 3), .ref (oa 4), .ref (oa 5)] : List Value).toArray below meth c s.heap [] 0 0 (MQ below (QcV (.int (bI true))) ([.ref (ad 0 0), .ref (oa 0), .ref (oa 1), .ref (oa 2), .ref (oa 3), .ref (oa 4), .ref (oa 5)] : List Value).toArray s 0 0 (fun _ => False)) (F0 m 178 ls []) := by
                                  intro n178
                                  induction n178 with
                                  | zero => intro kn h1 h2; exact absurd h2 (by omega)
                                  | succ n178 ih_178 =>
                                    intro kn hk_178 hn_178 x178 ls ex178 hl
                                    subst ex178
                                    refine lv_iload hx hb dL_isSo_178 (lv_at hl 11 rfl) ?_
                                    refine lv_aload_n hx hb dL_isSo_180 rfl (lv_at hl 1 rfl) ?_
                                    refine lv_iconst (v := 0) hx hb dL_isSo_181 (by decide) ?_
                                    refine va_iald hx hb hK hP 0 0 (cA := K 0) rfl rfl ((show vp_in 0 7 from vp_in_nI (n := 0) (by decide) (by decide))) dL_isSo_182 ?_
                                    refine W.eq (g2 := F0 m 183 ls [.int (M 0 0), .int (nI kn)]) rfl ?_
                                    refine lv_icmp_ge (tgt := 237) hx hb dL_isSo_183 (by decide) (fun c_183 => ?_) (fun c_183 => ?_)
                                    · skip
                                      have hke_178 : n = kn := (lp_end hn c_183 hk_178 (by omega)).symm
                                      subst hke_178
                                      refine lv_iinc (v := (nI ko) + 1) (lv' := [(10, .int ((nI ko) + 1)), (0, .ref (ad 0 0)), (1, .ref (oa 0)), (2, .ref (oa 1)), (3, .ref (oa 2)), (4, .ref (oa 3)), (5, .ref (oa 4)), (6, .ref (oa 5)), (7, .int 1), (8, .int (nI kb)), (9, .int (sp_L_isSo_L42 M kb n)), (11, .int (nI n))]) hx hb dL_isSo_237 hl (k := 10) rfl (rfl) (by decide) rfl (fun ls hl => ?_)
                                      refine lv_goto (tgt := 127) hx hb dL_isSo_240 (by decide) ?_
                                      exact ih_127 (ko + 1) hlt_127 (by omega) _ ls  (nI_1 ko) (lv_sub hl [1, 2, 3, 4, 5, 6, 7, 8, 9, 10, 0] rfl)
                                    · skip
                                      have hlt_178 : kn < n := lp_in hn c_183 hk_178 (by omega)
                                      refine W.eq (g2 := F0 m 186 ls []) rfl ?_
                                      refine lv_iload hx hb dL_isSo_186 (lv_at hl 7 rfl) ?_
                                      refine lv_if_eq (tgt := 237) hx hb dL_isSo_188 (by decide) (fun c_188 => ?_) (fun c_188 => ?_)
                                      · skip
                                        exact absurd c_188 (by decide)
                                      · skip
                                        refine lv_iload hx hb dL_isSo_191 (lv_at hl 10 rfl) ?_
                                        refine lv_iload hx hb dL_isSo_193 (lv_at hl 8 rfl) ?_
                                        refine lv_icmp_eq (tgt := 237) hx hb dL_isSo_195 (by decide) (fun c_195 => ?_) (fun c_195 => ?_)
                                        · skip
                                          refine lv_iinc (v := (nI ko) + 1) (lv' := [(10, .int ((nI ko) + 1)), (0, .ref (ad 0 0)), (1, .ref (oa 0)), (2, .ref (oa 1)), (3, .ref (oa 2)), (4, .ref (oa 3)), (5, .ref (oa 4)), (6, .ref (oa 5)), (7, .int 1), (8, .int (nI kb)), (9, .int (sp_L_isSo_L42 M kb n)), (11, .int (nI kn))]) hx hb dL_isSo_237 hl (k := 10) rfl (rfl) (by decide) rfl (fun ls hl => ?_)
                                          refine lv_goto (tgt := 127) hx hb dL_isSo_240 (by decide) ?_
                                          exact ih_127 (ko + 1) hlt_127 (by omega) _ ls  (nI_1 ko) (lv_sub hl [1, 2, 3, 4, 5, 6, 7, 8, 9, 10, 0] rfl)
                                        · skip
                                          refine lv_aload_n hx hb dL_isSo_198 rfl (lv_at hl 0 rfl) ?_
                                          refine lv_iload hx hb dL_isSo_199 (lv_at hl 11 rfl) ?_
                                          refine lv_iload hx hb dL_isSo_201 (lv_at hl 8 rfl) ?_
                                          refine W.eq (g2 := F0 m 203 ls [.int (nI kb), .int (nI kn), .ref (ad 0 0)]) rfl ?_
                                          refine lv_iload hx hb dL_isSo_203 (lv_at hl 10 rfl) ?_
                                          refine pu_V (As := [.int (nI kn), .int (nI kb), .int (nI ko)]) (rest := []) hc (c_X2_sign l D K ad n d S (nI kn) (nI kb) (nI ko) (tIn_of hlt_178 R.n31) (pairX (by omega) (by omega) (fun h => c_195 (by rw [h])))) (cwV 3 hts gL_isSo_X2_sign rfl rfl rfl (by decide +kernel) ⟨Nat.le_of_ble_eq_true rfl, Nat.le_of_ble_eq_true rfl⟩) hXP hK hE (va_recv hK hXW (ci := 2) (q0 := 0) rfl rfl) rfl rfl hl.1 (Nat.le_of_ble_eq_true rfl) dL_isSo_205 ⟨Nat.le_of_ble_eq_true rfl, Nat.le_of_ble_eq_true rfl⟩ ?_
                                          refine lv_iload hx hb dL_isSo_208 (lv_at hl 11 rfl) ?_
                                          refine lv_iload hx hb dL_isSo_210 (lv_at hl 8 rfl) ?_
                                          refine lv_iload hx hb dL_isSo_212 (lv_at hl 10 rfl) ?_
                                          refine lv_aload_n hx hb dL_isSo_214 rfl (lv_at hl 2 rfl) ?_
                                          refine lv_aload_n hx hb dL_isSo_215 rfl (lv_at hl 3 rfl) ?_
                                          refine lv_aload hx hb dL_isSo_216 (lv_at hl 4 rfl) ?_
                                          refine W.eq (g2 := F0 m 218 ls [.ref (oa 3), .ref (oa 2), .ref (oa 1), .int (nI ko), .int (nI kb), .int (nI kn), .int (sp_X2_sign n S (nI kn) (nI kb) (nI ko))]) rfl ?_
                                          refine pu_S (As := [.int (nI kn), .int (nI kb), .int (nI ko), .ref (oa 1), .ref (oa 2), .ref (oa 3)]) (rest := [.int (sp_X2_sign n S (nI kn) (nI kb) (nI ko))]) hc (c_L_sign l D K oa M (nI kn) (nI kb) (nI ko) (vp_in_nI (Nat.lt_of_lt_of_le hlt_178 hn8) (by decide)) (vp_in_nI hlt_25 (by decide)) (vp_in_nI hlt_127 (by decide))) (va_cwS 6 hts gL_isSo_L_sign rfl rfl rfl (by decide +kernel) ⟨Nat.le_of_ble_eq_true rfl, Nat.le_of_ble_eq_true rfl⟩) hP hK hE rfl rfl hl.1 (Nat.le_of_ble_eq_true rfl) dL_isSo_218 ⟨Nat.le_of_ble_eq_true rfl, Nat.le_of_ble_eq_true rfl⟩ ?_
                                          refine lv_icmp_ne (tgt := 228) hx hb dL_isSo_221 (by decide) (fun c_221 => ?_) (fun c_221 => ?_)
                                          · skip
                                            exact absurd (R.sign hlt_178 hlt_25 hlt_127 (fun h => c_195 (by rw [h]))) c_221
                                          · skip
                                            refine lv_iconst (v := 1) hx hb dL_isSo_224 (by decide) ?_
                                            refine lv_goto (tgt := 229) hx hb dL_isSo_225 (by decide) ?_
                                            refine lv_istore (lv' := [(7, .int 1), (0, .ref (ad 0 0)), (1, .ref (oa 0)), (2, .ref (oa 1)), (3, .ref (oa 2)), (4, .ref (oa 3)), (5, .ref (oa 4)), (6, .ref (oa 5)), (8, .int (nI kb)), (9, .int (sp_L_isSo_L42 M kb n)), (10, .int (nI ko)), (11, .int (nI kn))]) hx hb dL_isSo_229 hl (by decide) rfl (fun ls hl => ?_)
                                            refine lv_iinc (v := (nI kn) + 1) (lv' := [(11, .int ((nI kn) + 1)), (7, .int 1), (0, .ref (ad 0 0)), (1, .ref (oa 0)), (2, .ref (oa 1)), (3, .ref (oa 2)), (4, .ref (oa 3)), (5, .ref (oa 4)), (6, .ref (oa 5)), (8, .int (nI kb)), (9, .int (sp_L_isSo_L42 M kb n)), (10, .int (nI ko))]) hx hb dL_isSo_231 hl (k := 11) rfl (rfl) (by decide) rfl (fun ls hl => ?_)
                                            refine lv_goto (tgt := 178) hx hb dL_isSo_234 (by decide) ?_
                                            exact ih_178 (kn + 1) hlt_178 (by omega) _ ls  (nI_1 kn) (lv_sub hl [2, 3, 4, 5, 6, 7, 8, 1, 9, 10, 11, 0] rfl)
                                exact hloop_178 (n + 1) 0 (Nat.zero_le _) (by omega) _ ls  nI_0.symm (lv_sub hl [2, 3, 4, 5, 6, 7, 8, 1, 9, 10, 11, 0] rfl)
                              refine lv_icmp_eq (tgt := 168) hx hb dL_isSo_142 (by decide) (fun c_142 => ?_) (fun c_142 => ?_)
                              · skip
                                refine lv_iconst (v := 1) hx hb dL_isSo_168 (by decide) ?_
                                refine lv_goto (tgt := 173) hx hb dL_isSo_169 (by decide) ?_
                                exact hj_142 ls (lv_sub hl [0, 1, 2, 3, 4, 5, 6, 7, 8, 9, 10] rfl)
                              · skip
                                refine lv_aload_n hx hb dL_isSo_145 rfl (lv_at hl 0 rfl) ?_
                                refine lv_iload hx hb dL_isSo_146 (lv_at hl 8 rfl) ?_
                                refine lv_iload hx hb dL_isSo_148 (lv_at hl 10 rfl) ?_
                                refine pu_V (As := [.int (nI kb), .int (nI ko)]) (rest := []) hc (c_X2_suspicion l D K ad n d S (nI kb) (nI ko) (pairX (by omega) (by omega) (fun h => c_142 (by rw [h])))) (cwV 2 hts gL_isSo_X2_suspicion rfl rfl rfl (by decide +kernel) ⟨Nat.le_of_ble_eq_true rfl, Nat.le_of_ble_eq_true rfl⟩) hXP hK hE (va_recv hK hXW (ci := 2) (q0 := 0) rfl rfl) rfl rfl hl.1 (Nat.le_of_ble_eq_true rfl) dL_isSo_150 ⟨Nat.le_of_ble_eq_true rfl, Nat.le_of_ble_eq_true rfl⟩ ?_
                                refine lv_iload hx hb dL_isSo_153 (lv_at hl 8 rfl) ?_
                                refine lv_iload hx hb dL_isSo_155 (lv_at hl 10 rfl) ?_
                                refine lv_aload_n hx hb dL_isSo_157 rfl (lv_at hl 1 rfl) ?_
                                refine W.eq (g2 := F0 m 158 ls [.ref (oa 0), .int (nI ko), .int (nI kb), .int (sp_X2_suspicion n S (nI kb) (nI ko))]) rfl ?_
                                refine lv_aload_n hx hb dL_isSo_158 rfl (lv_at hl 2 rfl) ?_
                                refine lv_aload_n hx hb dL_isSo_159 rfl (lv_at hl 3 rfl) ?_
                                refine lv_aload hx hb dL_isSo_160 (lv_at hl 4 rfl) ?_
                                refine pu_S (As := [.int (nI kb), .int (nI ko), .ref (oa 0), .ref (oa 1), .ref (oa 2), .ref (oa 3)]) (rest := [.int (sp_X2_suspicion n S (nI kb) (nI ko))]) hc (c_L_suspicion l D K oa M n (nI kb) (nI ko) hn hn8 (vp_in_nI hlt_25 (by decide)) (vp_in_nI hlt_127 (by decide))) (va_cwS 6 hts gL_isSo_L_suspicion rfl rfl rfl (by decide +kernel) ⟨Nat.le_of_ble_eq_true rfl, Nat.le_of_ble_eq_true rfl⟩) hP hK hE rfl rfl hl.1 (Nat.le_of_ble_eq_true rfl) dL_isSo_162 ⟨Nat.le_of_ble_eq_true rfl, Nat.le_of_ble_eq_true rfl⟩ ?_
                                refine lv_icmp_ne (tgt := 172) hx hb dL_isSo_165 (by decide) (fun c_165 => ?_) (fun c_165 => ?_)
                                · skip
                                  exact absurd (R.susp hlt_25 hlt_127 (fun h => c_142 (by rw [h]))) c_165
                                · skip
                                  refine lv_iconst (v := 1) hx hb dL_isSo_168 (by decide) ?_
                                  refine lv_goto (tgt := 173) hx hb dL_isSo_169 (by decide) ?_
                                  exact hj_142 ls (lv_sub hl [0, 1, 2, 3, 4, 5, 6, 7, 8, 9, 10] rfl)
                      exact hloop_127 (4 + 1) 0 (Nat.zero_le _) (by omega) _ ls  nI_0.symm (lv_sub hl [2, 3, 4, 5, 6, 7, 8, 1, 9, 10, 0] rfl)
                · skip
                  have hlt_42 : kw < n := lp_in hn c_47 hk_42 (by omega)
                  refine lv_iload hx hb dL_isSo_50 (lv_at hl 9 rfl) ?_
                  refine lv_aload_n hx hb dL_isSo_52 rfl (lv_at hl 2 rfl) ?_
                  refine lv_iconst (v := 4) hx hb dL_isSo_53 (by decide) ?_
                  refine lv_iload hx hb dL_isSo_54 (lv_at hl 10 rfl) ?_
                  refine lv_imul hx hb dL_isSo_56 ?_
                  refine va_iald hx hb hK hP 1 0 (cA := K 0) rfl rfl (i40 (vp_in_nI (Nat.lt_of_lt_of_le hlt_42 hn8) (by decide))) dL_isSo_57 ?_
                  refine lv_iconst (v := 1) hx hb dL_isSo_58 (by decide) ?_
                  refine W.eq (g2 := F0 m 59 ls [.int 1, .int (M 1 ((4 * (nI kw)).toNatClampNeg)), .int (sp_L_isSo_L42 M kb kw)]) rfl ?_
                  have hj_59 : ∀ (v59_0 : Int32) (ls : Array Slot), v59_0 = sp_L_isSo_j59s0 M kb kw → lv_has ls 12 [(0, .ref (ad 0 0)), (1, .ref (oa 0)), (2, .ref (oa 1)), (3, .ref (oa 2)), (4, .ref (oa 3)), (5, .ref (oa 4)), (6, .ref (oa 5)), (7, .int 1), (8, .int (nI kb)), (9, .int (sp_L_isSo_L42 M kb kw)), (10, .int (nI kw))] → W p l e ({ frames := 7, cells := 0, slots := 0, locals := 161 } : Room) s m ([.ref (ad 0 0), .ref (oa 0), .ref (oa 1), .ref (oa 2), .ref (oa 3), .ref (oa 4), .ref (oa 5)] : List Value).toArray below meth c s.heap [] 0 0 (MQ below (QcV (.int (bI true))) ([.ref (ad 0 0), .ref (oa 0), .ref (oa 1), .ref (oa 2), .ref (oa 3), .ref (oa 4), .ref (oa 5)] : List Value).toArray s 0 0 (fun _ => False)) (F0 m 80 ls [.int v59_0, .int (sp_L_isSo_L42 M kb kw)]) := by
                    intro v59_0 ls ev59_0 hl
                    subst ev59_0
                    refine lv_iadd hx hb dL_isSo_80 ?_
                    refine lv_istore (lv' := [(9, .int ((sp_L_isSo_L42 M kb kw) + (sp_L_isSo_j59s0 M kb kw))), (0, .ref (ad 0 0)), (1, .ref (oa 0)), (2, .ref (oa 1)), (3, .ref (oa 2)), (4, .ref (oa 3)), (5, .ref (oa 4)), (6, .ref (oa 5)), (7, .int 1), (8, .int (nI kb)), (10, .int (nI kw))]) hx hb dL_isSo_81 hl (by decide) rfl (fun ls hl => ?_)
                    refine lv_iinc (v := (nI kw) + 1) (lv' := [(10, .int ((nI kw) + 1)), (9, .int ((sp_L_isSo_L42 M kb kw) + (sp_L_isSo_j59s0 M kb kw))), (0, .ref (ad 0 0)), (1, .ref (oa 0)), (2, .ref (oa 1)), (3, .ref (oa 2)), (4, .ref (oa 3)), (5, .ref (oa 4)), (6, .ref (oa 5)), (7, .int 1), (8, .int (nI kb))]) hx hb dL_isSo_83 hl (k := 10) rfl (rfl) (by decide) rfl (fun ls hl => ?_)
                    refine lv_goto (tgt := 42) hx hb dL_isSo_86 (by decide) ?_
                    exact ih_42 (kw + 1) hlt_42 (by omega) _ _ ls (Eq.symm (rfl)) (nI_1 kw) (lv_sub hl [2, 3, 4, 5, 6, 7, 8, 9, 10, 1, 0] rfl)
                  refine lv_icmp_ne (tgt := 79) hx hb dL_isSo_59 (by decide) (fun c_59 => ?_) (fun c_59 => ?_)
                  · skip
                    refine lv_iconst (v := 0) hx hb dL_isSo_79 (by decide) ?_
                    exact hj_59 _ ls (Eq.symm (Eq.trans (if_neg c_59) (rfl))) (lv_sub hl [0, 1, 2, 3, 4, 5, 6, 7, 8, 9, 10] rfl)
                  · skip
                    refine lv_aload_n hx hb dL_isSo_62 rfl (lv_at hl 2 rfl) ?_
                    refine lv_iconst (v := 4) hx hb dL_isSo_63 (by decide) ?_
                    refine lv_iload hx hb dL_isSo_64 (lv_at hl 10 rfl) ?_
                    refine lv_imul hx hb dL_isSo_66 ?_
                    refine lv_iconst (v := 1) hx hb dL_isSo_67 (by decide) ?_
                    refine lv_iadd hx hb dL_isSo_68 ?_
                    refine va_iald hx hb hK hP 1 0 (cA := K 0) rfl rfl (i4 (vp_in_nI (Nat.lt_of_lt_of_le hlt_42 hn8) (by decide)) (show vp_in 1 4 from vp_in_nI (n := 1) (by decide) (by decide))) dL_isSo_69 ?_
                    refine W.eq (g2 := F0 m 70 ls [.int (M 1 (((4 * (nI kw)) + 1).toNatClampNeg)), .int (sp_L_isSo_L42 M kb kw)]) rfl ?_
                    refine lv_iload hx hb dL_isSo_70 (lv_at hl 8 rfl) ?_
                    refine lv_icmp_ne (tgt := 79) hx hb dL_isSo_72 (by decide) (fun c_72 => ?_) (fun c_72 => ?_)
                    · skip
                      refine lv_iconst (v := 0) hx hb dL_isSo_79 (by decide) ?_
                      exact hj_59 _ ls (Eq.symm (Eq.trans (if_pos c_59) (Eq.trans (if_neg c_72) (rfl)))) (lv_sub hl [0, 1, 2, 3, 4, 5, 6, 7, 8, 9, 10] rfl)
                    · skip
                      refine lv_iconst (v := 1) hx hb dL_isSo_75 (by decide) ?_
                      refine lv_goto (tgt := 80) hx hb dL_isSo_76 (by decide) ?_
                      exact hj_59 _ ls (Eq.symm (Eq.trans (if_pos c_59) (Eq.trans (if_pos c_72) (rfl)))) (lv_sub hl [0, 1, 2, 3, 4, 5, 6, 7, 8, 9, 10] rfl)
            exact hloop_42 (n + 1) 0 (Nat.zero_le _) (by omega) _ _ ls rfl nI_0.symm (lv_sub hl [2, 3, 4, 5, 6, 7, 8, 9, 10, 1, 0] rfl)
    exact hloop_25 (4 + 1) 0 (Nat.zero_le _) (by omega) _ ls  nI_0.symm (lv_sub hl [2, 3, 4, 5, 6, 7, 8, 1, 0] rfl)
