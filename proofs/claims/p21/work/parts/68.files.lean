set_option maxHeartbeats 8000000 in
set_option maxRecDepth 100000 in
theorem c_L_files (l : Launch) (hl0 : l.stackTraces = false) (D : va_G) (K : Nat → ClassId) (sz : Nat) (ad : Nat → Nat → Nat) (n d : Nat) (S : Nat → Nat → Nat → Int32) (oa : Nat → Nat) (M : Nat → Nat → Int32) (cn : Nat) (p0 p1 : Int32) (hSep : Sep ad oa n d) (R : Rel n d S M cn) (hn0 : ¬ n = 0) (hcn : cn < 1000) : GMet l yL_files wsL_files 8 186 D K [.ref (ad 0 0), .int p0, .int p1, .ref (oa 0), .ref (oa 1), .ref (oa 2), .ref (oa 3), .ref (oa 4), .ref (oa 5)] sz ad oa (LPH D K ad oa n d S M) (GB ad oa sz D K (cn + 1)) := by
  refine Met.ofW (cc := cL_files) (maxL := 16) (ret := (some .boolean)) (by decide) rfl ?_
  intro p e s m args below meth c s₁ B hml hv
  obtain ⟨rfl, ⟨hsz, hZ, hX, hP, hK, hE⟩, hN⟩ := hv
  have hx := B.exec
  have hb := B.bytes
  have hr := B.returns
  have hts := atoms_spec (ws := wsL_files) B.pre
  have hown : s.vm.findClass RL = some m.cls := findClass_of_methodNamed B.named
  have hlocks := B.notSynchronized
  have hc : CallFix p m c cL_files 16 s ([.ref (ad 0 0), .int p0, .int p1, .ref (oa 0), .ref (oa 1), .ref (oa 2), .ref (oa 3), .ref (oa 4), .ref (oa 5)] : List Value).toArray wsL_files RL := ⟨hx, hb, hml, hown, hts⟩
  subst hsz
  obtain ⟨hXP, hP⟩ := hP
  obtain ⟨hDJ, hsep, hOA⟩ := hSep
  have hD : va_D (GA ad oa s.heap.size) (aW K oa M) := aW_D hOA (fun j => Or.inr ⟨j, rfl⟩)
  have hS : va_S (GA ad oa s.heap.size) s.heap s.heap [] := va_S.rf
  have hPm := hP
  have hP : va_P D vwCl [(oa 0, .inl (K 0, 7, .inl (M 0))), (oa 1, .inl (K 0, 32, .inl (M 1))), (oa 2, .inl (K 0, 32, .inl (M 2))), (oa 3, .inl (K 0, 8, .inl (M 3))), (oa 4, .inl (K 0, 48, .inl (M 4))), (oa 5, .inl (K 0, 12, .inl (M 5)))] s.heap := hP
  have hD : va_D (GA ad oa s.heap.size) [(oa 0, .inl (K 0, 7, .inl (M 0))), (oa 1, .inl (K 0, 32, .inl (M 1))), (oa 2, .inl (K 0, 32, .inl (M 2))), (oa 3, .inl (K 0, 8, .inl (M 3))), (oa 4, .inl (K 0, 48, .inl (M 4))), (oa 5, .inl (K 0, 12, .inl (M 5)))] := hD
  have hn := R.n0
  have hn8 := R.n8
  have hd2 := R.d2
  have hd6 := R.d6
  have hl := lv_entry ([.ref (ad 0 0), .int p0, .int p1, .ref (oa 0), .ref (oa 1), .ref (oa 2), .ref (oa 3), .ref (oa 4), .ref (oa 5)]) (n := 16) (Nat.le_of_ble_eq_true rfl)
  rw [lg_entry_eq]
  generalize (lg_sl ([.ref (ad 0 0), .int p0, .int p1, .ref (oa 0), .ref (oa 1), .ref (oa 2), .ref (oa 3), .ref (oa 4), .ref (oa 5)]) ++ List.replicate (16 - (lg_sl ([.ref (ad 0 0), .int p0, .int p1, .ref (oa 0), .ref (oa 1), .ref (oa 2), .ref (oa 3), .ref (oa 4), .ref (oa 5)])).length) Slot.unset).toArray = ls at hl ⊢
  have hl : lv_has ls 16 [(0, .ref (ad 0 0)), (1, .int p0), (2, .int p1), (3, .ref (oa 0)), (4, .ref (oa 1)), (5, .ref (oa 2)), (6, .ref (oa 3)), (7, .ref (oa 4)), (8, .ref (oa 5))] := hl
  refine lv_iload_n hx hb dL_files_0 rfl (lv_at hl 1 rfl) ?_
  refine lv_if_eq (tgt := 10) hx hb dL_files_1 (by decide) (fun c_1 => ?_) (fun c_1 => ?_)
  · skip
    refine lv_iload_n hx hb dL_files_10 rfl (lv_at hl 2 rfl) ?_
    refine lv_iconst (v := 4) hx hb dL_files_11 (by decide) ?_
    refine pu_S (As := [.int p1, .int 4]) (rest := []) hc (c_L_low l D K p1 4 (by decide)) (va_cwS 2 hts gL_files_L_low rfl rfl rfl (by decide +kernel) ⟨Nat.le_of_ble_eq_true rfl, Nat.le_of_ble_eq_true rfl⟩) trivial hK hE rfl rfl hl.1 (Nat.le_of_ble_eq_true rfl) dL_files_12 ⟨Nat.le_of_ble_eq_true rfl, Nat.le_of_ble_eq_true rfl⟩ ?_
    obtain ⟨a, ha4, ea⟩ : ∃ r, r < 4 ∧ sp_L_low p1 4 = nI r := low_ex _ 4 (by decide) (by decide)
    refine W.eq (g2 := F0 m 15 ls [.int (nI a)]) (by rw [ea]) ?_
    clear ea
    refine lv_istore (lv' := [(9, .int (nI a)), (0, .ref (ad 0 0)), (1, .int p0), (2, .int p1), (3, .ref (oa 0)), (4, .ref (oa 1)), (5, .ref (oa 2)), (6, .ref (oa 3)), (7, .ref (oa 4)), (8, .ref (oa 5))]) hx hb dL_files_15 hl (by decide) rfl (fun ls hl => ?_)
    refine lv_iload_n hx hb dL_files_17 rfl (lv_at hl 3 rfl) ?_
    refine lv_iconst (v := 3) hx hb dL_files_18 (by decide) ?_
    refine lv_ishr hx hb dL_files_19 ?_
    refine lv_iconst (v := 4) hx hb dL_files_20 (by decide) ?_
    refine W.eq (g2 := F0 m 21 ls [.int 4, .int (p1 >>> (3 &&& 31))]) rfl ?_
    refine pu_S (As := [.int (p1 >>> (3 &&& 31)), .int 4]) (rest := []) hc (c_L_low l D K (p1 >>> (3 &&& 31)) 4 (by decide)) (va_cwS 2 hts gL_files_L_low rfl rfl rfl (by decide +kernel) ⟨Nat.le_of_ble_eq_true rfl, Nat.le_of_ble_eq_true rfl⟩) trivial hK hE rfl rfl hl.1 (Nat.le_of_ble_eq_true rfl) dL_files_21 ⟨Nat.le_of_ble_eq_true rfl, Nat.le_of_ble_eq_true rfl⟩ ?_
    obtain ⟨b, hb4, eb⟩ : ∃ r, r < 4 ∧ sp_L_low (p1 >>> (3 &&& 31)) 4 = nI r := low_ex _ 4 (by decide) (by decide)
    refine W.eq (g2 := F0 m 24 ls [.int (nI b)]) (by rw [eb]) ?_
    clear eb
    refine lv_istore (lv' := [(10, .int (nI b)), (9, .int (nI a)), (0, .ref (ad 0 0)), (1, .int p0), (2, .int p1), (3, .ref (oa 0)), (4, .ref (oa 1)), (5, .ref (oa 2)), (6, .ref (oa 3)), (7, .ref (oa 4)), (8, .ref (oa 5))]) hx hb dL_files_24 hl (by decide) rfl (fun ls hl => ?_)
    refine lv_iconst (v := 0) hx hb dL_files_26 (by decide) ?_
    refine lv_istore (lv' := [(11, .int 0), (10, .int (nI b)), (9, .int (nI a)), (0, .ref (ad 0 0)), (1, .int p0), (2, .int p1), (3, .ref (oa 0)), (4, .ref (oa 1)), (5, .ref (oa 2)), (6, .ref (oa 3)), (7, .ref (oa 4)), (8, .ref (oa 5))]) hx hb dL_files_27 hl (by decide) rfl (fun ls hl => ?_)
    refine lv_iconst (v := 0) hx hb dL_files_29 (by decide) ?_
    refine lv_istore (lv' := [(12, .int 0), (11, .int 0), (10, .int (nI b)), (9, .int (nI a)), (0, .ref (ad 0 0)), (1, .int p0), (2, .int p1), (3, .ref (oa 0)), (4, .ref (oa 1)), (5, .ref (oa 2)), (6, .ref (oa 3)), (7, .ref (oa 4)), (8, .ref (oa 5))]) hx hb dL_files_30 hl (by decide) rfl (fun ls hl => ?_)
    have hloop_32 : ∀ (n32 kf : Nat), kf ≤ d → d + 1 ≤ kf + n32 → ∀ (a32_11 x32 : Int32) (ls : Array Slot), a32_11 = sp_L_files_L32 M a b kf → x32 = nI kf → lv_has ls 16 [(0, .ref (ad 0 0)), (1, .int p0), (2, .int p1), (3, .ref (oa 0)), (4, .ref (oa 1)), (5, .ref (oa 2)), (6, .ref (oa 3)), (7, .ref (oa 4)), (8, .ref (oa 5)), (9, .int (nI a)), (10, .int (nI b)), (11, .int a32_11), (12, .int x32)] → W p l e ({ frames := 8, cells := 4, slots := 60, locals := 186 } : Room) s m ([.ref (ad 0 0), .int p0, .int p1, .ref (oa 0), .ref (oa 1), .ref (oa 2), .ref (oa 3), .ref (oa 4), .ref (oa 5)] : List Value).toArray below meth c s.heap [] 0 0 (MQ below (va_Qi (fun x (_ : Unit) => x = 1) (fun _ t => GB ad oa s.heap.size D K (cn + 1) t.heap) (GA ad oa s.heap.size)) ([.ref (ad 0 0), .int p0, .int p1, .ref (oa 0), .ref (oa 1), .ref (oa 2), .ref (oa 3), .ref (oa 4), .ref (oa 5)] : List Value).toArray s 4 60 (GA ad oa s.heap.size)) (F0 m 32 ls []) := by
      intro n32
      induction n32 with
      | zero => intro kf h1 h2; exact absurd h2 (by omega)
      | succ n32 ih_32 =>
        intro kf hk_32 hn_32 a32_11 x32 ls ea32_11 ex32 hl
        subst ea32_11
        subst ex32
        refine lv_iload hx hb dL_files_32 (lv_at hl 12 rfl) ?_
        refine lv_aload_n hx hb dL_files_34 rfl (lv_at hl 3 rfl) ?_
        refine W.eq (g2 := F0 m 35 ls [.ref (oa 0), .int (nI kf)]) rfl ?_
        refine lv_iconst (v := 2) hx hb dL_files_35 (by decide) ?_
        refine va_iald hx hb hK hP 0 0 (cA := K 0) rfl rfl ((show vp_in 2 7 from vp_in_nI (n := 2) (by decide) (by decide))) dL_files_36 ?_
        refine W.eq (g2 := F0 m 37 ls [.int (M 0 2), .int (nI kf)]) rfl ?_
        refine lv_icmp_ge (tgt := 111) hx hb dL_files_37 (by decide) (fun c_37 => ?_) (fun c_37 => ?_)
        · skip
          have hke_32 : d = kf := (lp_end hd2 c_37 hk_32 (by omega)).symm
          subst hke_32
          refine lv_iload hx hb dL_files_111 (lv_at hl 9 rfl) ?_
          refine lv_iload hx hb dL_files_113 (lv_at hl 10 rfl) ?_
          have hj_115 : ∀ (v115_0 : Int32) (ls : Array Slot), v115_0 = sp_L_files_j115s0 n M d a b → lv_has ls 16 [(0, .ref (ad 0 0)), (1, .int p0), (2, .int p1), (3, .ref (oa 0)), (4, .ref (oa 1)), (5, .ref (oa 2)), (6, .ref (oa 3)), (7, .ref (oa 4)), (8, .ref (oa 5)), (9, .int (nI a)), (10, .int (nI b)), (11, .int (sp_L_files_L32 M a b d)), (12, .int (nI d))] → W p l e ({ frames := 8, cells := 4, slots := 60, locals := 186 } : Room) s m ([.ref (ad 0 0), .int p0, .int p1, .ref (oa 0), .ref (oa 1), .ref (oa 2), .ref (oa 3), .ref (oa 4), .ref (oa 5)] : List Value).toArray below meth c s.heap [] 0 0 (MQ below (va_Qi (fun x (_ : Unit) => x = 1) (fun _ t => GB ad oa s.heap.size D K (cn + 1) t.heap) (GA ad oa s.heap.size)) ([.ref (ad 0 0), .int p0, .int p1, .ref (oa 0), .ref (oa 1), .ref (oa 2), .ref (oa 3), .ref (oa 4), .ref (oa 5)] : List Value).toArray s 4 60 (GA ad oa s.heap.size)) (F0 m 148 ls [.int v115_0]) := by
            intro v115_0 ls ev115_0 hl
            subst ev115_0
            refine lv_istore (lv' := [(12, .int (sp_L_files_j115s0 n M d a b)), (0, .ref (ad 0 0)), (1, .int p0), (2, .int p1), (3, .ref (oa 0)), (4, .ref (oa 1)), (5, .ref (oa 2)), (6, .ref (oa 3)), (7, .ref (oa 4)), (8, .ref (oa 5)), (9, .int (nI a)), (10, .int (nI b)), (11, .int (sp_L_files_L32 M a b d))]) hx hb dL_files_148 hl (by decide) rfl (fun ls hl => ?_)
            refine lv_iload hx hb dL_files_150 (lv_at hl 10 rfl) ?_
            refine lv_iload hx hb dL_files_152 (lv_at hl 11 rfl) ?_
            refine lv_icmp_ne (tgt := 162) hx hb dL_files_154 (by decide) (fun c_154 => ?_) (fun c_154 => ?_)
            · skip
              refine lv_iload hx hb dL_files_162 (lv_at hl 0 rfl) ?_
              refine lv_if_eq (tgt := 173) hx hb dL_files_164 (by decide) (fun c_164 => ?_) (fun c_164 => ?_)
              · skip
                refine lv_bipush (v := -3) hx hb dL_files_173 (by decide) ?_
                refine lv_istore (lv' := [(13, .int (-3)), (12, .int (sp_L_files_j115s0 n M d a b)), (0, .ref (ad 0 0)), (1, .int p0), (2, .int p1), (3, .ref (oa 0)), (4, .ref (oa 1)), (5, .ref (oa 2)), (6, .ref (oa 3)), (7, .ref (oa 4)), (8, .ref (oa 5)), (9, .int (nI a)), (10, .int (nI b)), (11, .int (sp_L_files_L32 M a b d))]) hx hb dL_files_175 hl (by decide) rfl (fun ls hl => ?_)
                refine lv_iload hx hb dL_files_177 (lv_at hl 0 rfl) ?_
                refine lv_if_lt (tgt := 298) hx hb dL_files_179 (by decide) (fun c_179 => ?_) (fun c_179 => ?_)
                · skip
                  refine lv_aload_n hx hb dL_files_298 rfl (lv_at hl 2 rfl) ?_
                  refine lv_iconst (v := 4) hx hb dL_files_299 (by decide) ?_
                  refine lv_iload hx hb dL_files_300 (lv_at hl 11 rfl) ?_
                  refine lv_iload hx hb dL_files_302 (lv_at hl 12 rfl) ?_
                  refine lv_iconst (v := 0) hx hb dL_files_304 (by decide) ?_
                  have hz0 := hS.1
                  have hst := st_file1 R ha4 hb4 c_154 c_164
                  refine gc_S (As := [.ref (ad 0 0), .int 4, .int (nI a), .int (nI b), .int 0]) (rest := []) (M := M) hc (c_L_calls_file l hl0 D K s.heap.size ad n d S (nI a) (nI b) 0 hDJ) (vx_cwSW 5 hts gL_files_L_calls rfl rfl rfl (by decide +kernel) ⟨Nat.le_of_ble_eq_true rfl, Nat.le_of_ble_eq_true rfl⟩) hK hE hX hN hZ hXP hPm hsep hS rfl rfl hl.1 (Nat.le_of_ble_eq_true rfl) dL_files_305 ⟨Nat.le_of_ble_eq_true rfl, Nat.le_of_ble_eq_true rfl⟩ (fun H locs hz1 hB hPm hS => ?_)
                  refine W.eq (g2 := F0 m 308 ls [.int (if (sp_X2_file n d S (nI a) (nI b)).1 = 0 then (sp_X2_file n d S (nI a) (nI b)).2.1 else if (sp_X2_file n d S (nI a) (nI b)).1 = 1 then -2 else -3)]) rfl ?_
                  refine lv_iload hx hb dL_files_308 (lv_at hl 0 rfl) ?_
                  refine lv_icmp_ne (tgt := 317) hx hb dL_files_310 (by decide) (fun c_310 => ?_) (fun c_310 => ?_)
                  · skip
                    exact absurd hst.1 c_310
                  · skip
                    refine W.eq (g2 := F0 m 313 ls []) rfl ?_
                    refine lv_iconst (v := 1) hx hb dL_files_313 (by decide) ?_
                    refine lv_goto (tgt := 318) hx hb dL_files_314 (by decide) ?_
                    refine W.widen (k := 4) (n := 60) (Nat.le_of_ble_eq_true rfl) (Nat.le_of_ble_eq_true rfl) ?_
                    exact W.zret (v := 1) hx hb hr rfl (fun t9 ht9 hW => ⟨⟨_, (), rfl, rfl, by dsimp only; rw [ht9]; exact gb_f hz0 hDJ hst hB hPm⟩, hS.F ht9⟩) hS.2.2 dL_files_318
                · skip
                  exact absurd (by decide) c_179
              · skip
                refine lv_aload_n hx hb dL_files_167 rfl (lv_at hl 4 rfl) ?_
                refine lv_iconst (v := 2) hx hb dL_files_168 (by decide) ?_
                refine va_iald hx hb hK hP 0 0 (cA := K 0) rfl rfl ((show vp_in 2 7 from vp_in_nI (n := 2) (by decide) (by decide))) dL_files_169 ?_
                refine W.eq (g2 := F0 m 170 ls [.int (M 0 2)]) rfl ?_
                refine lv_goto (tgt := 175) hx hb dL_files_170 (by decide) ?_
                refine lv_istore (lv' := [(13, .int (M 0 2)), (12, .int (sp_L_files_j115s0 n M d a b)), (0, .ref (ad 0 0)), (1, .int p0), (2, .int p1), (3, .ref (oa 0)), (4, .ref (oa 1)), (5, .ref (oa 2)), (6, .ref (oa 3)), (7, .ref (oa 4)), (8, .ref (oa 5)), (9, .int (nI a)), (10, .int (nI b)), (11, .int (sp_L_files_L32 M a b d))]) hx hb dL_files_175 hl (by decide) rfl (fun ls hl => ?_)
                refine lv_iload hx hb dL_files_177 (lv_at hl 0 rfl) ?_
                refine lv_if_lt (tgt := 298) hx hb dL_files_179 (by decide) (fun c_179 => ?_) (fun c_179 => ?_)
                · skip
                  exact absurd c_179 (by rw [hd2]; exact nI_pos (by omega))
                · skip
                  refine lv_bipush (v := 8) hx hb dL_files_182 (by decide) ?_
                  refine lv_aload_n hx hb dL_files_184 rfl (lv_at hl 5 rfl) ?_
                  refine lv_iconst (v := 2) hx hb dL_files_185 (by decide) ?_
                  refine va_iald hx hb hK hP 0 0 (cA := K 0) rfl rfl ((show vp_in 2 7 from vp_in_nI (n := 2) (by decide) (by decide))) dL_files_186 ?_
                  refine W.eq (g2 := F0 m 187 ls [.int (M 0 2), .int 8]) rfl ?_
                  refine lv_imul hx hb dL_files_187 ?_
                  refine W.eq (g2 := F0 m 188 ls [.int (8 * (nI d))]) (by rw [hd2]) ?_
                  have hd60 : d < 6 := file_d6 R ha4 hb4 c_164
                  refine W.eq (g2 := F0 m 188 ls [.int (8 * (nI d))]) rfl ?_
                  refine lv_istore (lv' := [(14, .int (8 * (nI d))), (13, .int (M 0 2)), (12, .int (sp_L_files_j115s0 n M d a b)), (0, .ref (ad 0 0)), (1, .int p0), (2, .int p1), (3, .ref (oa 0)), (4, .ref (oa 1)), (5, .ref (oa 2)), (6, .ref (oa 3)), (7, .ref (oa 4)), (8, .ref (oa 5)), (9, .int (nI a)), (10, .int (nI b)), (11, .int (sp_L_files_L32 M a b d))]) hx hb dL_files_188 hl (by decide) rfl (fun ls hl => ?_)
                  refine lv_aload hx hb dL_files_190 (lv_at hl 10 rfl) ?_
                  refine lv_iload hx hb dL_files_192 (lv_at hl 0 rfl) ?_
                  refine lv_iload hx hb dL_files_194 (lv_at hl 12 rfl) ?_
                  refine lv_iload hx hb dL_files_196 (lv_at hl 13 rfl) ?_
                  have hj_198 : ∀ (v198_0 : Int32) (ls : Array Slot), v198_0 = sp_L_files_j198s0 a b → lv_has ls 16 [(0, .ref (ad 0 0)), (1, .int p0), (2, .int p1), (3, .ref (oa 0)), (4, .ref (oa 1)), (5, .ref (oa 2)), (6, .ref (oa 3)), (7, .ref (oa 4)), (8, .ref (oa 5)), (9, .int (nI a)), (10, .int (nI b)), (11, .int (sp_L_files_L32 M a b d)), (12, .int (sp_L_files_j115s0 n M d a b)), (13, .int (M 0 2)), (14, .int (8 * (nI d)))] → W p l e ({ frames := 8, cells := 4, slots := 60, locals := 186 } : Room) s m ([.ref (ad 0 0), .int p0, .int p1, .ref (oa 0), .ref (oa 1), .ref (oa 2), .ref (oa 3), .ref (oa 4), .ref (oa 5)] : List Value).toArray below meth c s.heap [] 0 0 (MQ below (va_Qi (fun x (_ : Unit) => x = 1) (fun _ t => GB ad oa s.heap.size D K (cn + 1) t.heap) (GA ad oa s.heap.size)) ([.ref (ad 0 0), .int p0, .int p1, .ref (oa 0), .ref (oa 1), .ref (oa 2), .ref (oa 3), .ref (oa 4), .ref (oa 5)] : List Value).toArray s 4 60 (GA ad oa s.heap.size)) (F0 m 208 ls [.int v198_0, .int (8 * (nI d)), .ref (oa 4)]) := by
                    intro v198_0 ls ev198_0 hl
                    subst ev198_0
                    refine vo_iast hx hb hK hP hD hS 4 (n := 48) (f := (M 4)) rfl (i80 (vp_in_nI hd60 (by decide))) dL_files_208 (fun H locs hP hD hS oq => ?_)
                    have hP : va_P D vwCl [(oa 0, .inl (K 0, 7, .inl (M 0))), (oa 1, .inl (K 0, 32, .inl (M 1))), (oa 2, .inl (K 0, 32, .inl (M 2))), (oa 3, .inl (K 0, 8, .inl (M 3))), (oa 4, .inl (K 0, 48, .inl (upd (M 4) ((8 * (nI d)).toNatClampNeg) (sp_L_files_j198s0 a b)))), (oa 5, .inl (K 0, 12, .inl (M 5)))] H := hP
                    have hD : va_D (GA ad oa s.heap.size) [(oa 0, .inl (K 0, 7, .inl (M 0))), (oa 1, .inl (K 0, 32, .inl (M 1))), (oa 2, .inl (K 0, 32, .inl (M 2))), (oa 3, .inl (K 0, 8, .inl (M 3))), (oa 4, .inl (K 0, 48, .inl (upd (M 4) ((8 * (nI d)).toNatClampNeg) (sp_L_files_j198s0 a b)))), (oa 5, .inl (K 0, 12, .inl (M 5)))] := hD
                    have hXP := XP_off (fun k9 i9 => hsep k9 i9 4) hXP oq
                    have hPm := (fun (f4 : Nat → Int32) (h : va_P D vwCl [(oa 0, .inl (K 0, 7, .inl (M 0))), (oa 1, .inl (K 0, 32, .inl (M 1))), (oa 2, .inl (K 0, 32, .inl (M 2))), (oa 3, .inl (K 0, 8, .inl (M 3))), (oa 4, .inl (K 0, 48, .inl f4)), (oa 5, .inl (K 0, 12, .inl (M 5)))] H) => (show va_P D vwCl (aW K oa (um M 4 f4)) H from h)) (upd (M 4) ((8 * (nI d)).toNatClampNeg) (sp_L_files_j198s0 a b)) hP
                    refine lv_aload hx hb dL_files_209 (lv_at hl 7 rfl) ?_
                    refine lv_iload hx hb dL_files_211 (lv_at hl 14 rfl) ?_
                    refine lv_iconst (v := 1) hx hb dL_files_213 (by decide) ?_
                    refine lv_iadd hx hb dL_files_214 ?_
                    refine lv_iload hx hb dL_files_215 (lv_at hl 9 rfl) ?_
                    refine lv_iload hx hb dL_files_217 (lv_at hl 10 rfl) ?_
                    have hj_219 : ∀ (v219_0 : Int32) (ls : Array Slot), v219_0 = sp_L_files_j219s0 a b → lv_has ls 16 [(0, .ref (ad 0 0)), (1, .int p0), (2, .int p1), (3, .ref (oa 0)), (4, .ref (oa 1)), (5, .ref (oa 2)), (6, .ref (oa 3)), (7, .ref (oa 4)), (8, .ref (oa 5)), (9, .int (nI a)), (10, .int (nI b)), (11, .int (sp_L_files_L32 M a b d)), (12, .int (sp_L_files_j115s0 n M d a b)), (13, .int (M 0 2)), (14, .int (8 * (nI d)))] → W p l e ({ frames := 8, cells := 4, slots := 60, locals := 186 } : Room) s m ([.ref (ad 0 0), .int p0, .int p1, .ref (oa 0), .ref (oa 1), .ref (oa 2), .ref (oa 3), .ref (oa 4), .ref (oa 5)] : List Value).toArray below meth c H locs 0 0 (MQ below (va_Qi (fun x (_ : Unit) => x = 1) (fun _ t => GB ad oa s.heap.size D K (cn + 1) t.heap) (GA ad oa s.heap.size)) ([.ref (ad 0 0), .int p0, .int p1, .ref (oa 0), .ref (oa 1), .ref (oa 2), .ref (oa 3), .ref (oa 4), .ref (oa 5)] : List Value).toArray s 4 60 (GA ad oa s.heap.size)) (F0 m 229 ls [.int v219_0, .int ((8 * (nI d)) + 1), .ref (oa 4)]) := by
                      intro v219_0 ls ev219_0 hl
                      subst ev219_0
                      refine vo_iast hx hb hK hP hD hS 4 (n := 48) (f := (upd (M 4) ((8 * (nI d)).toNatClampNeg) (sp_L_files_j198s0 a b))) rfl (i8 (vp_in_nI hd60 (by decide)) (show vp_in 1 8 from vp_in_nI (n := 1) (by decide) (by decide))) dL_files_229 (fun H locs hP hD hS oq => ?_)
                      have hP : va_P D vwCl [(oa 0, .inl (K 0, 7, .inl (M 0))), (oa 1, .inl (K 0, 32, .inl (M 1))), (oa 2, .inl (K 0, 32, .inl (M 2))), (oa 3, .inl (K 0, 8, .inl (M 3))), (oa 4, .inl (K 0, 48, .inl (upd (upd (M 4) ((8 * (nI d)).toNatClampNeg) (sp_L_files_j198s0 a b)) (((8 * (nI d)) + 1).toNatClampNeg) (sp_L_files_j219s0 a b)))), (oa 5, .inl (K 0, 12, .inl (M 5)))] H := hP
                      have hD : va_D (GA ad oa s.heap.size) [(oa 0, .inl (K 0, 7, .inl (M 0))), (oa 1, .inl (K 0, 32, .inl (M 1))), (oa 2, .inl (K 0, 32, .inl (M 2))), (oa 3, .inl (K 0, 8, .inl (M 3))), (oa 4, .inl (K 0, 48, .inl (upd (upd (M 4) ((8 * (nI d)).toNatClampNeg) (sp_L_files_j198s0 a b)) (((8 * (nI d)) + 1).toNatClampNeg) (sp_L_files_j219s0 a b)))), (oa 5, .inl (K 0, 12, .inl (M 5)))] := hD
                      have hXP := XP_off (fun k9 i9 => hsep k9 i9 4) hXP oq
                      have hPm := (fun (f4 : Nat → Int32) (h : va_P D vwCl [(oa 0, .inl (K 0, 7, .inl (M 0))), (oa 1, .inl (K 0, 32, .inl (M 1))), (oa 2, .inl (K 0, 32, .inl (M 2))), (oa 3, .inl (K 0, 8, .inl (M 3))), (oa 4, .inl (K 0, 48, .inl f4)), (oa 5, .inl (K 0, 12, .inl (M 5)))] H) => (show va_P D vwCl (aW K oa (um M 4 f4)) H from h)) (upd (upd (M 4) ((8 * (nI d)).toNatClampNeg) (sp_L_files_j198s0 a b)) (((8 * (nI d)) + 1).toNatClampNeg) (sp_L_files_j219s0 a b)) hP
                      refine lv_iconst (v := 0) hx hb dL_files_230 (by decide) ?_
                      refine lv_istore (lv' := [(15, .int 0), (0, .ref (ad 0 0)), (1, .int p0), (2, .int p1), (3, .ref (oa 0)), (4, .ref (oa 1)), (5, .ref (oa 2)), (6, .ref (oa 3)), (7, .ref (oa 4)), (8, .ref (oa 5)), (9, .int (nI a)), (10, .int (nI b)), (11, .int (sp_L_files_L32 M a b d)), (12, .int (sp_L_files_j115s0 n M d a b)), (13, .int (M 0 2)), (14, .int (8 * (nI d)))]) hx hb dL_files_231 hl (by decide) rfl (fun ls hl => ?_)
                      have hloop_233 : ∀ (n233 k : Nat), k ≤ n → n + 1 ≤ k + n233 → ∀ (H : Heap) (locs : List Loc) (g x233 : Int32) (ls : Array Slot), g = sp_L_files_G M d a b k → x233 = nI k → XP D K ad n d S H → va_P D vwCl [(oa 0, .inl (K 0, 7, .inl (M 0))), (oa 1, .inl (K 0, 32, .inl (M 1))), (oa 2, .inl (K 0, 32, .inl (M 2))), (oa 3, .inl (K 0, 8, .inl (M 3))), (oa 4, .inl (K 0, 48, .inl (upd (upd (upd (M 4) ((8 * (nI d)).toNatClampNeg) (sp_L_files_j198s0 a b)) (((8 * (nI d)) + 1).toNatClampNeg) (sp_L_files_j219s0 a b)) (((8 * (nI d)) + 2).toNatClampNeg) g))), (oa 5, .inl (K 0, 12, .inl (M 5)))] H → va_D (GA ad oa s.heap.size) [(oa 0, .inl (K 0, 7, .inl (M 0))), (oa 1, .inl (K 0, 32, .inl (M 1))), (oa 2, .inl (K 0, 32, .inl (M 2))), (oa 3, .inl (K 0, 8, .inl (M 3))), (oa 4, .inl (K 0, 48, .inl (upd (upd (upd (M 4) ((8 * (nI d)).toNatClampNeg) (sp_L_files_j198s0 a b)) (((8 * (nI d)) + 1).toNatClampNeg) (sp_L_files_j219s0 a b)) (((8 * (nI d)) + 2).toNatClampNeg) g))), (oa 5, .inl (K 0, 12, .inl (M 5)))] → va_S (GA ad oa s.heap.size) s.heap H locs → lv_has ls 16 [(0, .ref (ad 0 0)), (1, .int p0), (2, .int p1), (3, .ref (oa 0)), (4, .ref (oa 1)), (5, .ref (oa 2)), (6, .ref (oa 3)), (7, .ref (oa 4)), (8, .ref (oa 5)), (9, .int (nI a)), (10, .int (nI b)), (11, .int (sp_L_files_L32 M a b d)), (12, .int (sp_L_files_j115s0 n M d a b)), (13, .int (M 0 2)), (14, .int (8 * (nI d))), (15, .int x233)] → W p l e ({ frames := 8, cells := 4, slots := 60, locals := 186 } : Room) s m ([.ref (ad 0 0), .int p0, .int p1, .ref (oa 0), .ref (oa 1), .ref (oa 2), .ref (oa 3), .ref (oa 4), .ref (oa 5)] : List Value).toArray below meth c H locs 0 0 (MQ below (va_Qi (fun x (_ : Unit) => x = 1) (fun _ t => GB ad oa s.heap.size D K (cn + 1) t.heap) (GA ad oa s.heap.size)) ([.ref (ad 0 0), .int p0, .int p1, .ref (oa 0), .ref (oa 1), .ref (oa 2), .ref (oa 3), .ref (oa 4), .ref (oa 5)] : List Value).toArray s 4 60 (GA ad oa s.heap.size)) (F0 m 233 ls []) := by
                        intro n233
                        induction n233 with
                        | zero => intro k h1 h2; exact absurd h2 (by omega)
                        | succ n233 ih_233 =>
                          intro k hk_233 hn_233 H locs g x233 ls eg ex233 hXP hP hD hS hl
                          subst ex233
                          refine lv_iload hx hb dL_files_233 (lv_at hl 15 rfl) ?_
                          refine lv_aload_n hx hb dL_files_235 rfl (lv_at hl 3 rfl) ?_
                          refine lv_iconst (v := 0) hx hb dL_files_236 (by decide) ?_
                          refine va_iald hx hb hK hP 0 0 (cA := K 0) rfl rfl ((show vp_in 0 7 from vp_in_nI (n := 0) (by decide) (by decide))) dL_files_237 ?_
                          refine W.eq (g2 := F0 m 238 ls [.int (M 0 0), .int (nI k)]) rfl ?_
                          refine lv_icmp_ge (tgt := 283) hx hb dL_files_238 (by decide) (fun c_238 => ?_) (fun c_238 => ?_)
                          · skip
                            have hke_233 : k = n := lp_end hn c_238 hk_233 (by omega)
                            rw [hke_233] at eg hl
                            rw [eg] at hP hD
                            clear eg
                            have hPm := (fun (f4 : Nat → Int32) (h : va_P D vwCl [(oa 0, .inl (K 0, 7, .inl (M 0))), (oa 1, .inl (K 0, 32, .inl (M 1))), (oa 2, .inl (K 0, 32, .inl (M 2))), (oa 3, .inl (K 0, 8, .inl (M 3))), (oa 4, .inl (K 0, 48, .inl f4)), (oa 5, .inl (K 0, 12, .inl (M 5)))] H) => (show va_P D vwCl (aW K oa (um M 4 f4)) H from h)) (upd (upd (upd (M 4) ((8 * (nI d)).toNatClampNeg) (sp_L_files_j198s0 a b)) (((8 * (nI d)) + 1).toNatClampNeg) (sp_L_files_j219s0 a b)) (((8 * (nI d)) + 2).toNatClampNeg) (sp_L_files_G M d a b n)) hP
                            refine lv_aload hx hb dL_files_283 (lv_at hl 7 rfl) ?_
                            refine lv_iload hx hb dL_files_285 (lv_at hl 14 rfl) ?_
                            refine lv_iconst (v := 4) hx hb dL_files_287 (by decide) ?_
                            refine lv_iadd hx hb dL_files_288 ?_
                            refine lv_iconst (v := -1) hx hb dL_files_289 (by decide) ?_
                            refine vo_iast hx hb hK hP hD hS 4 (n := 48) (f := (upd (upd (upd (M 4) ((8 * (nI d)).toNatClampNeg) (sp_L_files_j198s0 a b)) (((8 * (nI d)) + 1).toNatClampNeg) (sp_L_files_j219s0 a b)) (((8 * (nI d)) + 2).toNatClampNeg) (sp_L_files_G M d a b n))) rfl (i8 (vp_in_nI hd60 (by decide)) (show vp_in 4 8 from vp_in_nI (n := 4) (by decide) (by decide))) dL_files_290 (fun H locs hP hD hS oq => ?_)
                            have hP : va_P D vwCl [(oa 0, .inl (K 0, 7, .inl (M 0))), (oa 1, .inl (K 0, 32, .inl (M 1))), (oa 2, .inl (K 0, 32, .inl (M 2))), (oa 3, .inl (K 0, 8, .inl (M 3))), (oa 4, .inl (K 0, 48, .inl (upd (upd (upd (upd (M 4) ((8 * (nI d)).toNatClampNeg) (sp_L_files_j198s0 a b)) (((8 * (nI d)) + 1).toNatClampNeg) (sp_L_files_j219s0 a b)) (((8 * (nI d)) + 2).toNatClampNeg) (sp_L_files_G M d a b n)) (((8 * (nI d)) + 4).toNatClampNeg) (-1)))), (oa 5, .inl (K 0, 12, .inl (M 5)))] H := hP
                            have hD : va_D (GA ad oa s.heap.size) [(oa 0, .inl (K 0, 7, .inl (M 0))), (oa 1, .inl (K 0, 32, .inl (M 1))), (oa 2, .inl (K 0, 32, .inl (M 2))), (oa 3, .inl (K 0, 8, .inl (M 3))), (oa 4, .inl (K 0, 48, .inl (upd (upd (upd (upd (M 4) ((8 * (nI d)).toNatClampNeg) (sp_L_files_j198s0 a b)) (((8 * (nI d)) + 1).toNatClampNeg) (sp_L_files_j219s0 a b)) (((8 * (nI d)) + 2).toNatClampNeg) (sp_L_files_G M d a b n)) (((8 * (nI d)) + 4).toNatClampNeg) (-1)))), (oa 5, .inl (K 0, 12, .inl (M 5)))] := hD
                            have hXP := XP_off (fun k9 i9 => hsep k9 i9 4) hXP oq
                            have hPm := (fun (f4 : Nat → Int32) (h : va_P D vwCl [(oa 0, .inl (K 0, 7, .inl (M 0))), (oa 1, .inl (K 0, 32, .inl (M 1))), (oa 2, .inl (K 0, 32, .inl (M 2))), (oa 3, .inl (K 0, 8, .inl (M 3))), (oa 4, .inl (K 0, 48, .inl f4)), (oa 5, .inl (K 0, 12, .inl (M 5)))] H) => (show va_P D vwCl (aW K oa (um M 4 f4)) H from h)) (upd (upd (upd (upd (M 4) ((8 * (nI d)).toNatClampNeg) (sp_L_files_j198s0 a b)) (((8 * (nI d)) + 1).toNatClampNeg) (sp_L_files_j219s0 a b)) (((8 * (nI d)) + 2).toNatClampNeg) (sp_L_files_G M d a b n)) (((8 * (nI d)) + 4).toNatClampNeg) (-1)) hP
                            refine lv_aload_n hx hb dL_files_291 rfl (lv_at hl 3 rfl) ?_
                            refine lv_iconst (v := 2) hx hb dL_files_292 (by decide) ?_
                            refine W.eq (g2 := F0 m 293 ls [.int 2, .ref (oa 0)]) rfl ?_
                            refine lv_dup2_11 hx hb dL_files_293 rfl rfl ?_
                            refine va_iald hx hb hK hP 0 0 (cA := K 0) rfl rfl ((show vp_in 2 7 from vp_in_nI (n := 2) (by decide) (by decide))) dL_files_294 ?_
                            refine W.eq (g2 := F0 m 295 ls [.int (M 0 2), .int 2, .ref (oa 0)]) rfl ?_
                            refine lv_iconst (v := 1) hx hb dL_files_295 (by decide) ?_
                            refine lv_iadd hx hb dL_files_296 ?_
                            refine vo_iast hx hb hK hP hD hS 0 (n := 7) (f := (M 0)) rfl ((show vp_in 2 7 from vp_in_nI (n := 2) (by decide) (by decide))) dL_files_297 (fun H locs hP hD hS oq => ?_)
                            have hP : va_P D vwCl [(oa 0, .inl (K 0, 7, .inl (upd (M 0) 2 ((M 0 2) + 1)))), (oa 1, .inl (K 0, 32, .inl (M 1))), (oa 2, .inl (K 0, 32, .inl (M 2))), (oa 3, .inl (K 0, 8, .inl (M 3))), (oa 4, .inl (K 0, 48, .inl (upd (upd (upd (upd (M 4) ((8 * (nI d)).toNatClampNeg) (sp_L_files_j198s0 a b)) (((8 * (nI d)) + 1).toNatClampNeg) (sp_L_files_j219s0 a b)) (((8 * (nI d)) + 2).toNatClampNeg) (sp_L_files_G M d a b n)) (((8 * (nI d)) + 4).toNatClampNeg) (-1)))), (oa 5, .inl (K 0, 12, .inl (M 5)))] H := hP
                            have hD : va_D (GA ad oa s.heap.size) [(oa 0, .inl (K 0, 7, .inl (upd (M 0) 2 ((M 0 2) + 1)))), (oa 1, .inl (K 0, 32, .inl (M 1))), (oa 2, .inl (K 0, 32, .inl (M 2))), (oa 3, .inl (K 0, 8, .inl (M 3))), (oa 4, .inl (K 0, 48, .inl (upd (upd (upd (upd (M 4) ((8 * (nI d)).toNatClampNeg) (sp_L_files_j198s0 a b)) (((8 * (nI d)) + 1).toNatClampNeg) (sp_L_files_j219s0 a b)) (((8 * (nI d)) + 2).toNatClampNeg) (sp_L_files_G M d a b n)) (((8 * (nI d)) + 4).toNatClampNeg) (-1)))), (oa 5, .inl (K 0, 12, .inl (M 5)))] := hD
                            have hXP := XP_off (fun k9 i9 => hsep k9 i9 0) hXP oq
                            have hPm := (fun (f0 : Nat → Int32) (f4 : Nat → Int32) (h : va_P D vwCl [(oa 0, .inl (K 0, 7, .inl f0)), (oa 1, .inl (K 0, 32, .inl (M 1))), (oa 2, .inl (K 0, 32, .inl (M 2))), (oa 3, .inl (K 0, 8, .inl (M 3))), (oa 4, .inl (K 0, 48, .inl f4)), (oa 5, .inl (K 0, 12, .inl (M 5)))] H) => (show va_P D vwCl (aW K oa (um (um M 0 f0) 4 f4)) H from h)) (upd (M 0) 2 ((M 0 2) + 1)) (upd (upd (upd (upd (M 4) ((8 * (nI d)).toNatClampNeg) (sp_L_files_j198s0 a b)) (((8 * (nI d)) + 1).toNatClampNeg) (sp_L_files_j219s0 a b)) (((8 * (nI d)) + 2).toNatClampNeg) (sp_L_files_G M d a b n)) (((8 * (nI d)) + 4).toNatClampNeg) (-1)) hP
                            refine lv_aload_n hx hb dL_files_298 rfl (lv_at hl 0 rfl) ?_
                            refine lv_iconst (v := 4) hx hb dL_files_299 (by decide) ?_
                            refine lv_iload hx hb dL_files_300 (lv_at hl 9 rfl) ?_
                            refine W.eq (g2 := F0 m 302 ls [.int (nI a), .int 4, .ref (ad 0 0)]) rfl ?_
                            refine lv_iload hx hb dL_files_302 (lv_at hl 10 rfl) ?_
                            refine lv_iconst (v := 0) hx hb dL_files_304 (by decide) ?_
                            have hz0 := hS.1
                            have hst := st_file2 R ha4 hb4 c_154 c_164
                            refine gc_S (As := [.ref (ad 0 0), .int 4, .int (nI a), .int (nI b), .int 0]) (rest := []) (M := (um (um M 0 (upd (M 0) 2 ((M 0 2) + 1))) 4 (upd (upd (upd (upd (M 4) ((8 * (nI d)).toNatClampNeg) (sp_L_files_j198s0 a b)) (((8 * (nI d)) + 1).toNatClampNeg) (sp_L_files_j219s0 a b)) (((8 * (nI d)) + 2).toNatClampNeg) (sp_L_files_G M d a b n)) (((8 * (nI d)) + 4).toNatClampNeg) (-1)))) hc (c_L_calls_file l hl0 D K H.size ad n d S (nI a) (nI b) 0 hDJ) (vx_cwSW 5 hts gL_files_L_calls rfl rfl rfl (by decide +kernel) ⟨Nat.le_of_ble_eq_true rfl, Nat.le_of_ble_eq_true rfl⟩) hK hE hX hN hZ hXP hPm hsep hS rfl rfl hl.1 (Nat.le_of_ble_eq_true rfl) dL_files_305 ⟨Nat.le_of_ble_eq_true rfl, Nat.le_of_ble_eq_true rfl⟩ (fun H locs hz1 hB hPm hS => ?_)
                            refine W.eq (g2 := F0 m 308 ls [.int (if (sp_X2_file n d S (nI a) (nI b)).1 = 0 then (sp_X2_file n d S (nI a) (nI b)).2.1 else if (sp_X2_file n d S (nI a) (nI b)).1 = 1 then -2 else -3)]) rfl ?_
                            refine lv_iload hx hb dL_files_308 (lv_at hl 13 rfl) ?_
                            refine lv_icmp_ne (tgt := 317) hx hb dL_files_310 (by decide) (fun c_310 => ?_) (fun c_310 => ?_)
                            · skip
                              exact absurd hst.1 c_310
                            · skip
                              refine lv_iconst (v := 1) hx hb dL_files_313 (by decide) ?_
                              refine lv_goto (tgt := 318) hx hb dL_files_314 (by decide) ?_
                              refine W.widen (k := 4) (n := 60) (Nat.le_of_ble_eq_true rfl) (Nat.le_of_ble_eq_true rfl) ?_
                              exact W.zret (v := 1) hx hb hr rfl (fun t9 ht9 hW => ⟨⟨_, (), rfl, rfl, by dsimp only; rw [ht9]; exact gb_f hz0 hDJ hst hB hPm⟩, hS.F ht9⟩) hS.2.2 dL_files_318
                          · skip
                            have hlt_233 : k < n := lp_in hn c_238 hk_233 (by omega)
                            have hPm := (fun (f4 : Nat → Int32) (h : va_P D vwCl [(oa 0, .inl (K 0, 7, .inl (M 0))), (oa 1, .inl (K 0, 32, .inl (M 1))), (oa 2, .inl (K 0, 32, .inl (M 2))), (oa 3, .inl (K 0, 8, .inl (M 3))), (oa 4, .inl (K 0, 48, .inl f4)), (oa 5, .inl (K 0, 12, .inl (M 5)))] H) => (show va_P D vwCl (aW K oa (um M 4 f4)) H from h)) (upd (upd (upd (M 4) ((8 * (nI d)).toNatClampNeg) (sp_L_files_j198s0 a b)) (((8 * (nI d)) + 1).toNatClampNeg) (sp_L_files_j219s0 a b)) (((8 * (nI d)) + 2).toNatClampNeg) g) hP
                            refine W.eq (g2 := F0 m 241 ls []) rfl ?_
                            refine lv_aload hx hb dL_files_241 (lv_at hl 7 rfl) ?_
                            refine lv_iload hx hb dL_files_243 (lv_at hl 14 rfl) ?_
                            refine lv_iconst (v := 2) hx hb dL_files_245 (by decide) ?_
                            refine lv_iadd hx hb dL_files_246 ?_
                            refine lv_dup2_11 hx hb dL_files_247 rfl rfl ?_
                            refine va_iald hx hb hK hP 4 0 (cA := K 0) rfl rfl (i8 (vp_in_nI hd60 (by decide)) (show vp_in 2 8 from vp_in_nI (n := 2) (by decide) (by decide))) dL_files_248 ?_
                            refine lv_iload hx hb dL_files_249 (lv_at hl 15 rfl) ?_
                            refine lv_iload hx hb dL_files_251 (lv_at hl 9 rfl) ?_
                            refine W.eq (g2 := F0 m 253 ls [.int (nI a), .int (nI k), .int ((upd (upd (upd (M 4) ((8 * (nI d)).toNatClampNeg) (sp_L_files_j198s0 a b)) (((8 * (nI d)) + 1).toNatClampNeg) (sp_L_files_j219s0 a b)) (((8 * (nI d)) + 2).toNatClampNeg) g) (((8 * (nI d)) + 2).toNatClampNeg)), .int ((8 * (nI d)) + 2), .ref (oa 4)]) rfl ?_
                            refine lv_iload hx hb dL_files_253 (lv_at hl 10 rfl) ?_
                            refine lv_aload hx hb dL_files_255 (lv_at hl 4 rfl) ?_
                            refine lv_aload hx hb dL_files_257 (lv_at hl 5 rfl) ?_
                            refine lv_aload hx hb dL_files_259 (lv_at hl 6 rfl) ?_
                            refine pu_S (As := [.int (nI k), .int (nI a), .int (nI b), .ref (oa 1), .ref (oa 2), .ref (oa 3)]) (rest := [.int ((upd (upd (upd (M 4) ((8 * (nI d)).toNatClampNeg) (sp_L_files_j198s0 a b)) (((8 * (nI d)) + 1).toNatClampNeg) (sp_L_files_j219s0 a b)) (((8 * (nI d)) + 2).toNatClampNeg) g) (((8 * (nI d)) + 2).toNatClampNeg)), .int ((8 * (nI d)) + 2), .ref (oa 4)]) hc (c_L_sign l D K oa (um M 4 (upd (upd (upd (M 4) ((8 * (nI d)).toNatClampNeg) (sp_L_files_j198s0 a b)) (((8 * (nI d)) + 1).toNatClampNeg) (sp_L_files_j219s0 a b)) (((8 * (nI d)) + 2).toNatClampNeg) g)) (nI k) (nI a) (nI b) (vp_in_nI (Nat.lt_of_lt_of_le hlt_233 hn8) (by decide)) (vp_in_nI ha4 (by decide)) (vp_in_nI hb4 (by decide))) (va_cwS 6 hts gL_files_L_sign rfl rfl rfl (by decide +kernel) ⟨Nat.le_of_ble_eq_true rfl, Nat.le_of_ble_eq_true rfl⟩) hPm hK hE rfl rfl hl.1 (Nat.le_of_ble_eq_true rfl) dL_files_261 ⟨Nat.le_of_ble_eq_true rfl, Nat.le_of_ble_eq_true rfl⟩ ?_
                            refine W.eq (g2 := F0 m 264 ls [.int (sp_L_sign M (nI k) (nI a) (nI b)), .int ((upd (upd (upd (M 4) ((8 * (nI d)).toNatClampNeg) (sp_L_files_j198s0 a b)) (((8 * (nI d)) + 1).toNatClampNeg) (sp_L_files_j219s0 a b)) (((8 * (nI d)) + 2).toNatClampNeg) g) (((8 * (nI d)) + 2).toNatClampNeg)), .int ((8 * (nI d)) + 2), .ref (oa 4)]) (by rw [sign_um4]) ?_
                            have hj_264 : ∀ (v264_0 : Int32) (ls : Array Slot), v264_0 = sp_L_files_j264s0 M a b k → lv_has ls 16 [(0, .ref (ad 0 0)), (1, .int p0), (2, .int p1), (3, .ref (oa 0)), (4, .ref (oa 1)), (5, .ref (oa 2)), (6, .ref (oa 3)), (7, .ref (oa 4)), (8, .ref (oa 5)), (9, .int (nI a)), (10, .int (nI b)), (11, .int (sp_L_files_L32 M a b d)), (12, .int (sp_L_files_j115s0 n M d a b)), (13, .int (M 0 2)), (14, .int (8 * (nI d))), (15, .int (nI k))] → W p l e ({ frames := 8, cells := 4, slots := 60, locals := 186 } : Room) s m ([.ref (ad 0 0), .int p0, .int p1, .ref (oa 0), .ref (oa 1), .ref (oa 2), .ref (oa 3), .ref (oa 4), .ref (oa 5)] : List Value).toArray below meth c H locs 0 0 (MQ below (va_Qi (fun x (_ : Unit) => x = 1) (fun _ t => GB ad oa s.heap.size D K (cn + 1) t.heap) (GA ad oa s.heap.size)) ([.ref (ad 0 0), .int p0, .int p1, .ref (oa 0), .ref (oa 1), .ref (oa 2), .ref (oa 3), .ref (oa 4), .ref (oa 5)] : List Value).toArray s 4 60 (GA ad oa s.heap.size)) (F0 m 275 ls [.int v264_0, .int ((upd (upd (upd (M 4) ((8 * (nI d)).toNatClampNeg) (sp_L_files_j198s0 a b)) (((8 * (nI d)) + 1).toNatClampNeg) (sp_L_files_j219s0 a b)) (((8 * (nI d)) + 2).toNatClampNeg) g) (((8 * (nI d)) + 2).toNatClampNeg)), .int ((8 * (nI d)) + 2), .ref (oa 4)]) := by
                              intro v264_0 ls ev264_0 hl
                              subst ev264_0
                              refine lv_ior hx hb dL_files_275 ?_
                              refine vo_iast hx hb hK hP hD hS 4 (n := 48) (f := (upd (upd (upd (M 4) ((8 * (nI d)).toNatClampNeg) (sp_L_files_j198s0 a b)) (((8 * (nI d)) + 1).toNatClampNeg) (sp_L_files_j219s0 a b)) (((8 * (nI d)) + 2).toNatClampNeg) g)) rfl (i8 (vp_in_nI hd60 (by decide)) (show vp_in 2 8 from vp_in_nI (n := 2) (by decide) (by decide))) dL_files_276 (fun H locs hP hD hS oq => ?_)
                              have hP : va_P D vwCl [(oa 0, .inl (K 0, 7, .inl (M 0))), (oa 1, .inl (K 0, 32, .inl (M 1))), (oa 2, .inl (K 0, 32, .inl (M 2))), (oa 3, .inl (K 0, 8, .inl (M 3))), (oa 4, .inl (K 0, 48, .inl (upd (upd (upd (upd (M 4) ((8 * (nI d)).toNatClampNeg) (sp_L_files_j198s0 a b)) (((8 * (nI d)) + 1).toNatClampNeg) (sp_L_files_j219s0 a b)) (((8 * (nI d)) + 2).toNatClampNeg) g) (((8 * (nI d)) + 2).toNatClampNeg) (((upd (upd (upd (M 4) ((8 * (nI d)).toNatClampNeg) (sp_L_files_j198s0 a b)) (((8 * (nI d)) + 1).toNatClampNeg) (sp_L_files_j219s0 a b)) (((8 * (nI d)) + 2).toNatClampNeg) g) (((8 * (nI d)) + 2).toNatClampNeg)) ||| (sp_L_files_j264s0 M a b k))))), (oa 5, .inl (K 0, 12, .inl (M 5)))] H := hP
                              have hD : va_D (GA ad oa s.heap.size) [(oa 0, .inl (K 0, 7, .inl (M 0))), (oa 1, .inl (K 0, 32, .inl (M 1))), (oa 2, .inl (K 0, 32, .inl (M 2))), (oa 3, .inl (K 0, 8, .inl (M 3))), (oa 4, .inl (K 0, 48, .inl (upd (upd (upd (upd (M 4) ((8 * (nI d)).toNatClampNeg) (sp_L_files_j198s0 a b)) (((8 * (nI d)) + 1).toNatClampNeg) (sp_L_files_j219s0 a b)) (((8 * (nI d)) + 2).toNatClampNeg) g) (((8 * (nI d)) + 2).toNatClampNeg) (((upd (upd (upd (M 4) ((8 * (nI d)).toNatClampNeg) (sp_L_files_j198s0 a b)) (((8 * (nI d)) + 1).toNatClampNeg) (sp_L_files_j219s0 a b)) (((8 * (nI d)) + 2).toNatClampNeg) g) (((8 * (nI d)) + 2).toNatClampNeg)) ||| (sp_L_files_j264s0 M a b k))))), (oa 5, .inl (K 0, 12, .inl (M 5)))] := hD
                              have hXP := XP_off (fun k9 i9 => hsep k9 i9 4) hXP oq
                              have hPm := (fun (f4 : Nat → Int32) (h : va_P D vwCl [(oa 0, .inl (K 0, 7, .inl (M 0))), (oa 1, .inl (K 0, 32, .inl (M 1))), (oa 2, .inl (K 0, 32, .inl (M 2))), (oa 3, .inl (K 0, 8, .inl (M 3))), (oa 4, .inl (K 0, 48, .inl f4)), (oa 5, .inl (K 0, 12, .inl (M 5)))] H) => (show va_P D vwCl (aW K oa (um M 4 f4)) H from h)) (upd (upd (upd (upd (M 4) ((8 * (nI d)).toNatClampNeg) (sp_L_files_j198s0 a b)) (((8 * (nI d)) + 1).toNatClampNeg) (sp_L_files_j219s0 a b)) (((8 * (nI d)) + 2).toNatClampNeg) g) (((8 * (nI d)) + 2).toNatClampNeg) (((upd (upd (upd (M 4) ((8 * (nI d)).toNatClampNeg) (sp_L_files_j198s0 a b)) (((8 * (nI d)) + 1).toNatClampNeg) (sp_L_files_j219s0 a b)) (((8 * (nI d)) + 2).toNatClampNeg) g) (((8 * (nI d)) + 2).toNatClampNeg)) ||| (sp_L_files_j264s0 M a b k))) hP
                              refine lv_iinc (v := (nI k) + 1) (lv' := [(15, .int ((nI k) + 1)), (0, .ref (ad 0 0)), (1, .int p0), (2, .int p1), (3, .ref (oa 0)), (4, .ref (oa 1)), (5, .ref (oa 2)), (6, .ref (oa 3)), (7, .ref (oa 4)), (8, .ref (oa 5)), (9, .int (nI a)), (10, .int (nI b)), (11, .int (sp_L_files_L32 M a b d)), (12, .int (sp_L_files_j115s0 n M d a b)), (13, .int (M 0 2)), (14, .int (8 * (nI d)))]) hx hb dL_files_277 hl (k := 15) rfl (rfl) (by decide) rfl (fun ls hl => ?_)
                              refine lv_goto (tgt := 233) hx hb dL_files_280 (by decide) ?_
                              rw [upd_upd, upd_at] at hP hD
                              exact ih_233 (k + 1) hlt_233 (by omega) _ _ _ _ ls (by rw [eg]; rfl) (nI_1 k) hXP hP hD hS (lv_sub hl [1, 2, 3, 4, 5, 6, 7, 8, 9, 10, 11, 12, 13, 14, 15, 0] rfl)
                            refine lv_if_le (tgt := 274) hx hb dL_files_264 (by decide) (fun c_264 => ?_) (fun c_264 => ?_)
                            · skip
                              refine lv_iconst (v := 0) hx hb dL_files_274 (by decide) ?_
                              exact hj_264 _ ls (Eq.symm (Eq.trans (if_pos c_264) (rfl))) (lv_sub hl [0, 1, 2, 3, 4, 5, 6, 7, 8, 9, 10, 11, 12, 13, 14, 15] rfl)
                            · skip
                              refine lv_iconst (v := 1) hx hb dL_files_267 (by decide) ?_
                              refine lv_iload hx hb dL_files_268 (lv_at hl 15 rfl) ?_
                              refine lv_ishl hx hb dL_files_270 ?_
                              refine lv_goto (tgt := 275) hx hb dL_files_271 (by decide) ?_
                              exact hj_264 _ ls (Eq.symm (Eq.trans (if_neg c_264) (rfl))) (lv_sub hl [0, 1, 2, 3, 4, 5, 6, 7, 8, 9, 10, 11, 12, 13, 14, 15] rfl)
                      have hu0 : upd (upd (upd (M 4) ((8 * (nI d)).toNatClampNeg) (sp_L_files_j198s0 a b)) (((8 * (nI d)) + 1).toNatClampNeg) (sp_L_files_j219s0 a b)) (((8 * (nI d)) + 2).toNatClampNeg) (sp_L_files_G M d a b 0) = upd (upd (M 4) ((8 * (nI d)).toNatClampNeg) (sp_L_files_j198s0 a b)) (((8 * (nI d)) + 1).toNatClampNeg) (sp_L_files_j219s0 a b) := f_u0 hd60
                      exact hloop_233 (n + 1) 0 (Nat.zero_le _) (by omega) H locs _ _ ls rfl nI_0.symm hXP (by rw [hu0]; exact hP) (by rw [hu0]; exact hD) hS (lv_sub hl [1, 2, 3, 4, 5, 6, 7, 8, 9, 10, 11, 12, 13, 14, 15, 0] rfl)
                    refine lv_icmp_ge (tgt := 227) hx hb dL_files_219 (by decide) (fun c_219 => ?_) (fun c_219 => ?_)
                    · skip
                      refine lv_iload hx hb dL_files_227 (lv_at hl 9 rfl) ?_
                      exact hj_219 _ ls (Eq.symm (Eq.trans (if_pos c_219) (rfl))) (lv_sub hl [0, 1, 2, 3, 4, 5, 6, 7, 8, 9, 10, 11, 12, 13, 14] rfl)
                    · skip
                      refine lv_iload hx hb dL_files_222 (lv_at hl 10 rfl) ?_
                      refine lv_goto (tgt := 229) hx hb dL_files_224 (by decide) ?_
                      exact hj_219 _ ls (Eq.symm (Eq.trans (if_neg c_219) (rfl))) (lv_sub hl [0, 1, 2, 3, 4, 5, 6, 7, 8, 9, 10, 11, 12, 13, 14] rfl)
                  refine lv_icmp_ge (tgt := 206) hx hb dL_files_198 (by decide) (fun c_198 => ?_) (fun c_198 => ?_)
                  · skip
                    refine lv_iload hx hb dL_files_206 (lv_at hl 13 rfl) ?_
                    exact hj_198 _ ls (Eq.symm (Eq.trans (if_pos c_198) (rfl))) (lv_sub hl [3, 4, 5, 6, 7, 8, 9, 10, 11, 12, 13, 14, 2, 1, 0] rfl)
                  · skip
                    refine lv_iload hx hb dL_files_201 (lv_at hl 12 rfl) ?_
                    refine lv_goto (tgt := 208) hx hb dL_files_203 (by decide) ?_
                    exact hj_198 _ ls (Eq.symm (Eq.trans (if_neg c_198) (rfl))) (lv_sub hl [3, 4, 5, 6, 7, 8, 9, 10, 11, 12, 13, 14, 2, 1, 0] rfl)
            · skip
              refine lv_bipush (v := -2) hx hb dL_files_157 (by decide) ?_
              refine lv_goto (tgt := 175) hx hb dL_files_159 (by decide) ?_
              refine lv_istore (lv' := [(13, .int (-2)), (12, .int (sp_L_files_j115s0 n M d a b)), (0, .ref (ad 0 0)), (1, .int p0), (2, .int p1), (3, .ref (oa 0)), (4, .ref (oa 1)), (5, .ref (oa 2)), (6, .ref (oa 3)), (7, .ref (oa 4)), (8, .ref (oa 5)), (9, .int (nI a)), (10, .int (nI b)), (11, .int (sp_L_files_L32 M a b d))]) hx hb dL_files_175 hl (by decide) rfl (fun ls hl => ?_)
              refine lv_iload hx hb dL_files_177 (lv_at hl 0 rfl) ?_
              refine lv_if_lt (tgt := 298) hx hb dL_files_179 (by decide) (fun c_179 => ?_) (fun c_179 => ?_)
              · skip
                refine lv_aload_n hx hb dL_files_298 rfl (lv_at hl 2 rfl) ?_
                refine lv_iconst (v := 4) hx hb dL_files_299 (by decide) ?_
                refine lv_iload hx hb dL_files_300 (lv_at hl 11 rfl) ?_
                refine lv_iload hx hb dL_files_302 (lv_at hl 12 rfl) ?_
                refine lv_iconst (v := 0) hx hb dL_files_304 (by decide) ?_
                have hz0 := hS.1
                have hst := st_file0 R ha4 hb4 c_154
                refine gc_S (As := [.ref (ad 0 0), .int 4, .int (nI a), .int (nI b), .int 0]) (rest := []) (M := M) hc (c_L_calls_file l hl0 D K s.heap.size ad n d S (nI a) (nI b) 0 hDJ) (vx_cwSW 5 hts gL_files_L_calls rfl rfl rfl (by decide +kernel) ⟨Nat.le_of_ble_eq_true rfl, Nat.le_of_ble_eq_true rfl⟩) hK hE hX hN hZ hXP hPm hsep hS rfl rfl hl.1 (Nat.le_of_ble_eq_true rfl) dL_files_305 ⟨Nat.le_of_ble_eq_true rfl, Nat.le_of_ble_eq_true rfl⟩ (fun H locs hz1 hB hPm hS => ?_)
                refine W.eq (g2 := F0 m 308 ls [.int (if (sp_X2_file n d S (nI a) (nI b)).1 = 0 then (sp_X2_file n d S (nI a) (nI b)).2.1 else if (sp_X2_file n d S (nI a) (nI b)).1 = 1 then -2 else -3)]) rfl ?_
                refine lv_iload hx hb dL_files_308 (lv_at hl 0 rfl) ?_
                refine lv_icmp_ne (tgt := 317) hx hb dL_files_310 (by decide) (fun c_310 => ?_) (fun c_310 => ?_)
                · skip
                  exact absurd hst.1 c_310
                · skip
                  refine W.eq (g2 := F0 m 313 ls []) rfl ?_
                  refine lv_iconst (v := 1) hx hb dL_files_313 (by decide) ?_
                  refine lv_goto (tgt := 318) hx hb dL_files_314 (by decide) ?_
                  refine W.widen (k := 4) (n := 60) (Nat.le_of_ble_eq_true rfl) (Nat.le_of_ble_eq_true rfl) ?_
                  exact W.zret (v := 1) hx hb hr rfl (fun t9 ht9 hW => ⟨⟨_, (), rfl, rfl, by dsimp only; rw [ht9]; exact gb_f hz0 hDJ hst hB hPm⟩, hS.F ht9⟩) hS.2.2 dL_files_318
              · skip
                exact absurd (by decide) c_179
          refine lv_icmp_eq (tgt := 147) hx hb dL_files_115 (by decide) (fun c_115 => ?_) (fun c_115 => ?_)
          · skip
            refine lv_iconst (v := 0) hx hb dL_files_147 (by decide) ?_
            exact hj_115 _ ls (Eq.symm (Eq.trans (if_pos c_115) (rfl))) (lv_sub hl [0, 1, 2, 3, 4, 5, 6, 7, 8, 9, 10, 11, 12] rfl)
          · skip
            refine lv_iload hx hb dL_files_118 (lv_at hl 11 rfl) ?_
            refine lv_if_ne (tgt := 147) hx hb dL_files_120 (by decide) (fun c_120 => ?_) (fun c_120 => ?_)
            · skip
              refine lv_iconst (v := 0) hx hb dL_files_147 (by decide) ?_
              exact hj_115 _ ls (Eq.symm (Eq.trans (if_neg c_115) (Eq.trans (if_neg c_120) (rfl)))) (lv_sub hl [0, 1, 2, 3, 4, 5, 6, 7, 8, 9, 10, 11, 12] rfl)
            · skip
              refine lv_iload hx hb dL_files_123 (lv_at hl 9 rfl) ?_
              refine lv_iload hx hb dL_files_125 (lv_at hl 10 rfl) ?_
              refine lv_aload_n hx hb dL_files_127 rfl (lv_at hl 3 rfl) ?_
              refine lv_aload hx hb dL_files_128 (lv_at hl 4 rfl) ?_
              refine lv_aload hx hb dL_files_130 (lv_at hl 5 rfl) ?_
              refine W.eq (g2 := F0 m 132 ls [.ref (oa 2), .ref (oa 1), .ref (oa 0), .int (nI b), .int (nI a)]) rfl ?_
              refine lv_aload hx hb dL_files_132 (lv_at hl 6 rfl) ?_
              refine pu_S (As := [.int (nI a), .int (nI b), .ref (oa 0), .ref (oa 1), .ref (oa 2), .ref (oa 3)]) (rest := []) hc (c_L_suspicion l D K oa M n (nI a) (nI b) hn hn8 (vp_in_nI ha4 (by decide)) (vp_in_nI hb4 (by decide))) (va_cwS 6 hts gL_files_L_suspicion rfl rfl rfl (by decide +kernel) ⟨Nat.le_of_ble_eq_true rfl, Nat.le_of_ble_eq_true rfl⟩) hPm hK hE rfl rfl hl.1 (Nat.le_of_ble_eq_true rfl) dL_files_134 ⟨Nat.le_of_ble_eq_true rfl, Nat.le_of_ble_eq_true rfl⟩ ?_
              refine lv_aload_n hx hb dL_files_137 rfl (lv_at hl 3 rfl) ?_
              refine lv_iconst (v := 1) hx hb dL_files_138 (by decide) ?_
              refine va_iald hx hb hK hP 0 0 (cA := K 0) rfl rfl ((show vp_in 1 7 from vp_in_nI (n := 1) (by decide) (by decide))) dL_files_139 ?_
              refine W.eq (g2 := F0 m 140 ls [.int (M 0 1), .int (sp_L_suspicion M n (nI a) (nI b))]) rfl ?_
              refine lv_icmp_lt (tgt := 147) hx hb dL_files_140 (by decide) (fun c_140 => ?_) (fun c_140 => ?_)
              · skip
                refine lv_iconst (v := 0) hx hb dL_files_147 (by decide) ?_
                exact hj_115 _ ls (Eq.symm (Eq.trans (if_neg c_115) (Eq.trans (if_pos c_120) (Eq.trans (if_pos c_140) (rfl))))) (lv_sub hl [0, 1, 2, 3, 4, 5, 6, 7, 8, 9, 10, 11, 12] rfl)
              · skip
                refine lv_iconst (v := 1) hx hb dL_files_143 (by decide) ?_
                refine lv_goto (tgt := 148) hx hb dL_files_144 (by decide) ?_
                exact hj_115 _ ls (Eq.symm (Eq.trans (if_neg c_115) (Eq.trans (if_pos c_120) (Eq.trans (if_neg c_140) (rfl))))) (lv_sub hl [0, 1, 2, 3, 4, 5, 6, 7, 8, 9, 10, 11, 12] rfl)
        · skip
          have hlt_32 : kf < d := lp_in hd2 c_37 hk_32 (by omega)
          refine lv_iload hx hb dL_files_40 (lv_at hl 11 rfl) ?_
          refine lv_if_ne (tgt := 98) hx hb dL_files_42 (by decide) (fun c_42 => ?_) (fun c_42 => ?_)
          · skip
            refine lv_iconst (v := 1) hx hb dL_files_98 (by decide) ?_
            refine lv_goto (tgt := 103) hx hb dL_files_99 (by decide) ?_
            refine lv_istore (lv' := [(11, .int 1), (0, .ref (ad 0 0)), (1, .int p0), (2, .int p1), (3, .ref (oa 0)), (4, .ref (oa 1)), (5, .ref (oa 2)), (6, .ref (oa 3)), (7, .ref (oa 4)), (8, .ref (oa 5)), (9, .int (nI a)), (10, .int (nI b)), (12, .int (nI kf))]) hx hb dL_files_103 hl (by decide) rfl (fun ls hl => ?_)
            refine lv_iinc (v := (nI kf) + 1) (lv' := [(12, .int ((nI kf) + 1)), (11, .int 1), (0, .ref (ad 0 0)), (1, .int p0), (2, .int p1), (3, .ref (oa 0)), (4, .ref (oa 1)), (5, .ref (oa 2)), (6, .ref (oa 3)), (7, .ref (oa 4)), (8, .ref (oa 5)), (9, .int (nI a)), (10, .int (nI b))]) hx hb dL_files_105 hl (k := 12) rfl (rfl) (by decide) rfl (fun ls hl => ?_)
            refine lv_goto (tgt := 32) hx hb dL_files_108 (by decide) ?_
            exact ih_32 (kf + 1) hlt_32 (by omega) _ _ ls (Eq.symm (Eq.trans (if_neg c_42) (rfl))) (nI_1 kf) (lv_sub hl [2, 3, 4, 5, 6, 7, 8, 9, 10, 11, 12, 1, 0] rfl)
          · skip
            refine lv_aload hx hb dL_files_45 (lv_at hl 7 rfl) ?_
            refine lv_bipush (v := 8) hx hb dL_files_47 (by decide) ?_
            refine lv_iload hx hb dL_files_49 (lv_at hl 12 rfl) ?_
            refine W.eq (g2 := F0 m 51 ls [.int (nI kf), .int 8, .ref (oa 4)]) rfl ?_
            refine lv_imul hx hb dL_files_51 ?_
            refine va_iald hx hb hK hP 4 0 (cA := K 0) rfl rfl (i80 (vp_in_nI (Nat.lt_of_lt_of_le hlt_32 hd6) (by decide))) dL_files_52 ?_
            refine lv_aload hx hb dL_files_53 (lv_at hl 7 rfl) ?_
            refine lv_bipush (v := 8) hx hb dL_files_55 (by decide) ?_
            refine lv_iload hx hb dL_files_57 (lv_at hl 12 rfl) ?_
            refine lv_imul hx hb dL_files_59 ?_
            refine lv_iconst (v := 1) hx hb dL_files_60 (by decide) ?_
            refine lv_iadd hx hb dL_files_61 ?_
            refine W.eq (g2 := F0 m 62 ls [.int ((8 * (nI kf)) + 1), .ref (oa 4), .int (M 4 ((8 * (nI kf)).toNatClampNeg))]) rfl ?_
            refine va_iald hx hb hK hP 4 0 (cA := K 0) rfl rfl (i8 (vp_in_nI (Nat.lt_of_lt_of_le hlt_32 hd6) (by decide)) (show vp_in 1 8 from vp_in_nI (n := 1) (by decide) (by decide))) dL_files_62 ?_
            refine lv_iadd hx hb dL_files_63 ?_
            refine lv_iload hx hb dL_files_64 (lv_at hl 9 rfl) ?_
            refine lv_iload hx hb dL_files_66 (lv_at hl 10 rfl) ?_
            refine lv_iadd hx hb dL_files_68 ?_
            refine lv_icmp_ne (tgt := 102) hx hb dL_files_69 (by decide) (fun c_69 => ?_) (fun c_69 => ?_)
            · skip
              refine lv_iconst (v := 0) hx hb dL_files_102 (by decide) ?_
              refine lv_istore (lv' := [(11, .int 0), (0, .ref (ad 0 0)), (1, .int p0), (2, .int p1), (3, .ref (oa 0)), (4, .ref (oa 1)), (5, .ref (oa 2)), (6, .ref (oa 3)), (7, .ref (oa 4)), (8, .ref (oa 5)), (9, .int (nI a)), (10, .int (nI b)), (12, .int (nI kf))]) hx hb dL_files_103 hl (by decide) rfl (fun ls hl => ?_)
              refine lv_iinc (v := (nI kf) + 1) (lv' := [(12, .int ((nI kf) + 1)), (11, .int 0), (0, .ref (ad 0 0)), (1, .int p0), (2, .int p1), (3, .ref (oa 0)), (4, .ref (oa 1)), (5, .ref (oa 2)), (6, .ref (oa 3)), (7, .ref (oa 4)), (8, .ref (oa 5)), (9, .int (nI a)), (10, .int (nI b))]) hx hb dL_files_105 hl (k := 12) rfl (rfl) (by decide) rfl (fun ls hl => ?_)
              refine lv_goto (tgt := 32) hx hb dL_files_108 (by decide) ?_
              exact ih_32 (kf + 1) hlt_32 (by omega) _ _ ls (Eq.symm (Eq.trans (if_pos c_42) (Eq.trans (if_neg c_69) (rfl)))) (nI_1 kf) (lv_sub hl [2, 3, 4, 5, 6, 7, 8, 9, 10, 11, 12, 1, 0] rfl)
            · skip
              refine lv_aload hx hb dL_files_72 (lv_at hl 7 rfl) ?_
              refine lv_bipush (v := 8) hx hb dL_files_74 (by decide) ?_
              refine W.eq (g2 := F0 m 76 ls [.int 8, .ref (oa 4)]) rfl ?_
              refine lv_iload hx hb dL_files_76 (lv_at hl 12 rfl) ?_
              refine lv_imul hx hb dL_files_78 ?_
              refine va_iald hx hb hK hP 4 0 (cA := K 0) rfl rfl (i80 (vp_in_nI (Nat.lt_of_lt_of_le hlt_32 hd6) (by decide))) dL_files_79 ?_
              refine lv_iload hx hb dL_files_80 (lv_at hl 9 rfl) ?_
              refine lv_icmp_eq (tgt := 98) hx hb dL_files_82 (by decide) (fun c_82 => ?_) (fun c_82 => ?_)
              · skip
                refine lv_iconst (v := 1) hx hb dL_files_98 (by decide) ?_
                refine lv_goto (tgt := 103) hx hb dL_files_99 (by decide) ?_
                refine lv_istore (lv' := [(11, .int 1), (0, .ref (ad 0 0)), (1, .int p0), (2, .int p1), (3, .ref (oa 0)), (4, .ref (oa 1)), (5, .ref (oa 2)), (6, .ref (oa 3)), (7, .ref (oa 4)), (8, .ref (oa 5)), (9, .int (nI a)), (10, .int (nI b)), (12, .int (nI kf))]) hx hb dL_files_103 hl (by decide) rfl (fun ls hl => ?_)
                refine lv_iinc (v := (nI kf) + 1) (lv' := [(12, .int ((nI kf) + 1)), (11, .int 1), (0, .ref (ad 0 0)), (1, .int p0), (2, .int p1), (3, .ref (oa 0)), (4, .ref (oa 1)), (5, .ref (oa 2)), (6, .ref (oa 3)), (7, .ref (oa 4)), (8, .ref (oa 5)), (9, .int (nI a)), (10, .int (nI b))]) hx hb dL_files_105 hl (k := 12) rfl (rfl) (by decide) rfl (fun ls hl => ?_)
                refine lv_goto (tgt := 32) hx hb dL_files_108 (by decide) ?_
                exact ih_32 (kf + 1) hlt_32 (by omega) _ _ ls (Eq.symm (Eq.trans (if_pos c_42) (Eq.trans (if_pos c_69) (Eq.trans (if_pos c_82) (rfl))))) (nI_1 kf) (lv_sub hl [2, 3, 4, 5, 6, 7, 8, 9, 10, 11, 12, 1, 0] rfl)
              · skip
                refine lv_aload hx hb dL_files_85 (lv_at hl 7 rfl) ?_
                refine lv_bipush (v := 8) hx hb dL_files_87 (by decide) ?_
                refine lv_iload hx hb dL_files_89 (lv_at hl 12 rfl) ?_
                refine W.eq (g2 := F0 m 91 ls [.int (nI kf), .int 8, .ref (oa 4)]) rfl ?_
                refine lv_imul hx hb dL_files_91 ?_
                refine va_iald hx hb hK hP 4 0 (cA := K 0) rfl rfl (i80 (vp_in_nI (Nat.lt_of_lt_of_le hlt_32 hd6) (by decide))) dL_files_92 ?_
                refine lv_iload hx hb dL_files_93 (lv_at hl 10 rfl) ?_
                refine lv_icmp_ne (tgt := 102) hx hb dL_files_95 (by decide) (fun c_95 => ?_) (fun c_95 => ?_)
                · skip
                  refine lv_iconst (v := 0) hx hb dL_files_102 (by decide) ?_
                  refine lv_istore (lv' := [(11, .int 0), (0, .ref (ad 0 0)), (1, .int p0), (2, .int p1), (3, .ref (oa 0)), (4, .ref (oa 1)), (5, .ref (oa 2)), (6, .ref (oa 3)), (7, .ref (oa 4)), (8, .ref (oa 5)), (9, .int (nI a)), (10, .int (nI b)), (12, .int (nI kf))]) hx hb dL_files_103 hl (by decide) rfl (fun ls hl => ?_)
                  refine lv_iinc (v := (nI kf) + 1) (lv' := [(12, .int ((nI kf) + 1)), (11, .int 0), (0, .ref (ad 0 0)), (1, .int p0), (2, .int p1), (3, .ref (oa 0)), (4, .ref (oa 1)), (5, .ref (oa 2)), (6, .ref (oa 3)), (7, .ref (oa 4)), (8, .ref (oa 5)), (9, .int (nI a)), (10, .int (nI b))]) hx hb dL_files_105 hl (k := 12) rfl (rfl) (by decide) rfl (fun ls hl => ?_)
                  refine lv_goto (tgt := 32) hx hb dL_files_108 (by decide) ?_
                  exact ih_32 (kf + 1) hlt_32 (by omega) _ _ ls (Eq.symm (Eq.trans (if_pos c_42) (Eq.trans (if_pos c_69) (Eq.trans (if_neg c_82) (Eq.trans (if_neg c_95) (rfl)))))) (nI_1 kf) (lv_sub hl [2, 3, 4, 5, 6, 7, 8, 9, 10, 11, 12, 1, 0] rfl)
                · skip
                  refine lv_iconst (v := 1) hx hb dL_files_98 (by decide) ?_
                  refine lv_goto (tgt := 103) hx hb dL_files_99 (by decide) ?_
                  refine lv_istore (lv' := [(11, .int 1), (0, .ref (ad 0 0)), (1, .int p0), (2, .int p1), (3, .ref (oa 0)), (4, .ref (oa 1)), (5, .ref (oa 2)), (6, .ref (oa 3)), (7, .ref (oa 4)), (8, .ref (oa 5)), (9, .int (nI a)), (10, .int (nI b)), (12, .int (nI kf))]) hx hb dL_files_103 hl (by decide) rfl (fun ls hl => ?_)
                  refine lv_iinc (v := (nI kf) + 1) (lv' := [(12, .int ((nI kf) + 1)), (11, .int 1), (0, .ref (ad 0 0)), (1, .int p0), (2, .int p1), (3, .ref (oa 0)), (4, .ref (oa 1)), (5, .ref (oa 2)), (6, .ref (oa 3)), (7, .ref (oa 4)), (8, .ref (oa 5)), (9, .int (nI a)), (10, .int (nI b))]) hx hb dL_files_105 hl (k := 12) rfl (rfl) (by decide) rfl (fun ls hl => ?_)
                  refine lv_goto (tgt := 32) hx hb dL_files_108 (by decide) ?_
                  exact ih_32 (kf + 1) hlt_32 (by omega) _ _ ls (Eq.symm (Eq.trans (if_pos c_42) (Eq.trans (if_pos c_69) (Eq.trans (if_neg c_82) (Eq.trans (if_pos c_95) (rfl)))))) (nI_1 kf) (lv_sub hl [2, 3, 4, 5, 6, 7, 8, 9, 10, 11, 12, 1, 0] rfl)
    exact hloop_32 (d + 1) 0 (Nat.zero_le _) (by omega) _ _ ls rfl nI_0.symm (lv_sub hl [4, 5, 6, 7, 8, 9, 10, 11, 12, 3, 2, 1, 0] rfl)
  · skip
    refine lv_aload_n hx hb dL_files_4 rfl (lv_at hl 3 rfl) ?_
    refine lv_iconst (v := 2) hx hb dL_files_5 (by decide) ?_
    refine va_iald hx hb hK hP 0 0 (cA := K 0) rfl rfl ((show vp_in 2 7 from vp_in_nI (n := 2) (by decide) (by decide))) dL_files_6 ?_
    refine W.eq (g2 := F0 m 7 ls [.int (M 0 2)]) rfl ?_
    refine lv_if_ne (tgt := 319) hx hb dL_files_7 (by decide) (fun c_7 => ?_) (fun c_7 => ?_)
    · skip
      refine lv_iload_n hx hb dL_files_319 rfl (lv_at hl 2 rfl) ?_
      refine lv_aload_n hx hb dL_files_320 rfl (lv_at hl 3 rfl) ?_
      refine lv_iconst (v := 2) hx hb dL_files_321 (by decide) ?_
      refine va_iald hx hb hK hP 0 0 (cA := K 0) rfl rfl ((show vp_in 2 7 from vp_in_nI (n := 2) (by decide) (by decide))) dL_files_322 ?_
      refine W.eq (g2 := F0 m 323 ls [.int (M 0 2), .int p1]) rfl ?_
      refine pu_S (As := [.int p1, .int (M 0 2)]) (rest := []) hc (c_L_low l D K p1 (M 0 2) c_7) (va_cwS 2 hts gL_files_L_low rfl rfl rfl (by decide +kernel) ⟨Nat.le_of_ble_eq_true rfl, Nat.le_of_ble_eq_true rfl⟩) trivial hK hE rfl rfl hl.1 (Nat.le_of_ble_eq_true rfl) dL_files_323 ⟨Nat.le_of_ble_eq_true rfl, Nat.le_of_ble_eq_true rfl⟩ ?_
      obtain ⟨j, hj, ej⟩ : ∃ r, r < d ∧ sp_L_low p1 (M 0 2) = nI r := by rw [hd2]; exact low_ex p1 d (Nat.pos_of_ne_zero (fun q => c_7 (by rw [hd2, q]; rfl))) (by omega)
      refine W.eq (g2 := F0 m 326 ls [.int (nI j)]) (by rw [ej]) ?_
      clear ej
      refine lv_istore (lv' := [(9, .int (nI j)), (0, .ref (ad 0 0)), (1, .int p0), (2, .int p1), (3, .ref (oa 0)), (4, .ref (oa 1)), (5, .ref (oa 2)), (6, .ref (oa 3)), (7, .ref (oa 4)), (8, .ref (oa 5))]) hx hb dL_files_326 hl (by decide) rfl (fun ls hl => ?_)
      have hj6 : j < 6 := by omega
      refine lv_aload hx hb dL_files_328 (lv_at hl 8 rfl) ?_
      refine lv_bipush (v := 8) hx hb dL_files_330 (by decide) ?_
      refine W.eq (g2 := F0 m 332 ls [.int 8, .ref (oa 4)]) rfl ?_
      refine lv_iload hx hb dL_files_332 (lv_at hl 0 rfl) ?_
      refine lv_imul hx hb dL_files_334 ?_
      refine lv_bipush (v := 7) hx hb dL_files_335 (by decide) ?_
      refine lv_iadd hx hb dL_files_337 ?_
      refine va_iald hx hb hK hP 4 0 (cA := K 0) rfl rfl (i8 (vp_in_nI (Nat.lt_of_lt_of_le hj hd6) (by decide)) (show vp_in 7 8 from vp_in_nI (n := 7) (by decide) (by decide))) dL_files_338 ?_
      refine lv_iconst (v := 1) hx hb dL_files_339 (by decide) ?_
      have hj_340 : ∀ (v340_0 : Int32) (ls : Array Slot), v340_0 = sp_L_files_j340s0 M j → lv_has ls 16 [(0, .ref (ad 0 0)), (1, .int p0), (2, .int p1), (3, .ref (oa 0)), (4, .ref (oa 1)), (5, .ref (oa 2)), (6, .ref (oa 3)), (7, .ref (oa 4)), (8, .ref (oa 5)), (9, .int (nI j))] → W p l e ({ frames := 8, cells := 4, slots := 60, locals := 186 } : Room) s m ([.ref (ad 0 0), .int p0, .int p1, .ref (oa 0), .ref (oa 1), .ref (oa 2), .ref (oa 3), .ref (oa 4), .ref (oa 5)] : List Value).toArray below meth c s.heap [] 0 0 (MQ below (va_Qi (fun x (_ : Unit) => x = 1) (fun _ t => GB ad oa s.heap.size D K (cn + 1) t.heap) (GA ad oa s.heap.size)) ([.ref (ad 0 0), .int p0, .int p1, .ref (oa 0), .ref (oa 1), .ref (oa 2), .ref (oa 3), .ref (oa 4), .ref (oa 5)] : List Value).toArray s 4 60 (GA ad oa s.heap.size)) (F0 m 348 ls [.int v340_0]) := by
        intro v340_0 ls ev340_0 hl
        subst ev340_0
        refine lv_istore (lv' := [(10, .int (sp_L_files_j340s0 M j)), (0, .ref (ad 0 0)), (1, .int p0), (2, .int p1), (3, .ref (oa 0)), (4, .ref (oa 1)), (5, .ref (oa 2)), (6, .ref (oa 3)), (7, .ref (oa 4)), (8, .ref (oa 5)), (9, .int (nI j))]) hx hb dL_files_348 hl (by decide) rfl (fun ls hl => ?_)
        refine lv_iload_n hx hb dL_files_350 rfl (lv_at hl 2 rfl) ?_
        refine lv_iconst (v := 4) hx hb dL_files_351 (by decide) ?_
        refine lv_icmp_ge (tgt := 561) hx hb dL_files_352 (by decide) (fun c_352 => ?_) (fun c_352 => ?_)
        · skip
          refine lv_bipush (v := -3) hx hb dL_files_561 (by decide) ?_
          refine lv_istore (lv' := [(11, .int (-3)), (10, .int (sp_L_files_j340s0 M j)), (0, .ref (ad 0 0)), (1, .int p0), (2, .int p1), (3, .ref (oa 0)), (4, .ref (oa 1)), (5, .ref (oa 2)), (6, .ref (oa 3)), (7, .ref (oa 4)), (8, .ref (oa 5)), (9, .int (nI j))]) hx hb dL_files_563 hl (by decide) rfl (fun ls hl => ?_)
          refine lv_iload hx hb dL_files_565 (lv_at hl 1 rfl) ?_
          refine lv_if_ne (tgt := 643) hx hb dL_files_567 (by decide) (fun c_567 => ?_) (fun c_567 => ?_)
          · skip
            refine lv_aload_n hx hb dL_files_643 rfl (lv_at hl 2 rfl) ?_
            refine lv_iconst (v := 5) hx hb dL_files_644 (by decide) ?_
            refine lv_iload hx hb dL_files_645 (lv_at hl 11 rfl) ?_
            refine lv_iconst (v := 0) hx hb dL_files_647 (by decide) ?_
            refine lv_iconst (v := 0) hx hb dL_files_648 (by decide) ?_
            have hst := st_close0 R hj c_567
            refine gc_S (As := [.ref (ad 0 0), .int 5, .int (nI j), .int 0, .int 0]) (rest := []) (M := M) hc (c_L_calls_close l hl0 D K s.heap.size ad n d S (nI j) 0 0 hDJ R.hz R.hO (io_close (tIn_of hj R.d31))) (vx_cwSW 5 hts gL_files_L_calls rfl rfl rfl (by decide +kernel) ⟨Nat.le_of_ble_eq_true rfl, Nat.le_of_ble_eq_true rfl⟩) hK hE hX hN hZ hXP hPm hsep hS rfl rfl hl.1 (Nat.le_of_ble_eq_true rfl) dL_files_649 ⟨Nat.le_of_ble_eq_true rfl, Nat.le_of_ble_eq_true rfl⟩ (fun H locs hz1 hB hPm hS => ?_)
            refine W.eq (g2 := F0 m 652 ls [.int (if (sp_X2_close n d S (nI j)).1 = 0 then (sp_X2_close n d S (nI j)).2.1 else if (sp_X2_close n d S (nI j)).1 = 2 then -3 else -3)]) rfl ?_
            refine lv_iload hx hb dL_files_652 (lv_at hl 0 rfl) ?_
            refine lv_icmp_ne (tgt := 661) hx hb dL_files_654 (by decide) (fun c_654 => ?_) (fun c_654 => ?_)
            · skip
              exact absurd hst.1 c_654
            · skip
              refine W.eq (g2 := F0 m 657 ls []) rfl ?_
              refine lv_iconst (v := 1) hx hb dL_files_657 (by decide) ?_
              refine lv_goto (tgt := 662) hx hb dL_files_658 (by decide) ?_
              refine W.widen (k := 4) (n := 60) (Nat.le_of_ble_eq_true rfl) (Nat.le_of_ble_eq_true rfl) ?_
              exact W.zret (v := 1) hx hb hr rfl (fun t9 ht9 hW => ⟨⟨_, (), rfl, rfl, by dsimp only; rw [ht9]; exact gb_t hDJ hst hB hPm⟩, hS.F ht9⟩) hS.2.2 dL_files_662
          · skip
            refine lv_aload hx hb dL_files_570 (lv_at hl 9 rfl) ?_
            refine lv_bipush (v := 8) hx hb dL_files_572 (by decide) ?_
            refine lv_iload hx hb dL_files_574 (lv_at hl 11 rfl) ?_
            refine lv_imul hx hb dL_files_576 ?_
            refine W.eq (g2 := F0 m 577 ls [.int (8 * (nI j)), .ref (oa 4)]) rfl ?_
            refine lv_bipush (v := 7) hx hb dL_files_577 (by decide) ?_
            refine lv_iadd hx hb dL_files_579 ?_
            refine lv_iconst (v := 1) hx hb dL_files_580 (by decide) ?_
            refine vo_iast hx hb hK hP hD hS 4 (n := 48) (f := (M 4)) rfl (i8 (vp_in_nI (Nat.lt_of_lt_of_le hj hd6) (by decide)) (show vp_in 7 8 from vp_in_nI (n := 7) (by decide) (by decide))) dL_files_581 (fun H locs hP hD hS oq => ?_)
            have hP : va_P D vwCl [(oa 0, .inl (K 0, 7, .inl (M 0))), (oa 1, .inl (K 0, 32, .inl (M 1))), (oa 2, .inl (K 0, 32, .inl (M 2))), (oa 3, .inl (K 0, 8, .inl (M 3))), (oa 4, .inl (K 0, 48, .inl (upd (M 4) (((8 * (nI j)) + 7).toNatClampNeg) 1))), (oa 5, .inl (K 0, 12, .inl (M 5)))] H := hP
            have hD : va_D (GA ad oa s.heap.size) [(oa 0, .inl (K 0, 7, .inl (M 0))), (oa 1, .inl (K 0, 32, .inl (M 1))), (oa 2, .inl (K 0, 32, .inl (M 2))), (oa 3, .inl (K 0, 8, .inl (M 3))), (oa 4, .inl (K 0, 48, .inl (upd (M 4) (((8 * (nI j)) + 7).toNatClampNeg) 1))), (oa 5, .inl (K 0, 12, .inl (M 5)))] := hD
            have hXP := XP_off (fun k9 i9 => hsep k9 i9 4) hXP oq
            have hPm := (fun (f4 : Nat → Int32) (h : va_P D vwCl [(oa 0, .inl (K 0, 7, .inl (M 0))), (oa 1, .inl (K 0, 32, .inl (M 1))), (oa 2, .inl (K 0, 32, .inl (M 2))), (oa 3, .inl (K 0, 8, .inl (M 3))), (oa 4, .inl (K 0, 48, .inl f4)), (oa 5, .inl (K 0, 12, .inl (M 5)))] H) => (show va_P D vwCl (aW K oa (um M 4 f4)) H from h)) (upd (M 4) (((8 * (nI j)) + 7).toNatClampNeg) 1) hP
            refine lv_aload hx hb dL_files_582 (lv_at hl 10 rfl) ?_
            refine lv_iconst (v := 2) hx hb dL_files_584 (by decide) ?_
            refine lv_iload hx hb dL_files_585 (lv_at hl 11 rfl) ?_
            refine lv_imul hx hb dL_files_587 ?_
            refine W.eq (g2 := F0 m 588 ls [.int (2 * (nI j)), .ref (oa 5)]) rfl ?_
            refine lv_iload hx hb dL_files_588 (lv_at hl 11 rfl) ?_
            refine lv_iconst (v := 0) hx hb dL_files_590 (by decide) ?_
            refine lv_aload_n hx hb dL_files_591 rfl (lv_at hl 5 rfl) ?_
            refine lv_aload hx hb dL_files_592 (lv_at hl 6 rfl) ?_
            refine lv_aload hx hb dL_files_594 (lv_at hl 7 rfl) ?_
            refine lv_aload hx hb dL_files_596 (lv_at hl 9 rfl) ?_
            have hDm := (aW_D hOA (fun j9 => Or.inr ⟨j9, rfl⟩) : va_D (GA ad oa s.heap.size) (aW K oa (um M 4 (upd (M 4) (((8 * (nI j)) + 7).toNatClampNeg) 1))))
            obtain ⟨Mf1, hMf1⟩ : ∃ X, um M 4 (upd (M 4) (((8 * (nI j)) + 7).toNatClampNeg) 1) = X := ⟨_, rfl⟩
            rw [hMf1] at hPm hDm
            refine ef_Si (As := [.int (nI j), .int 0, .ref (oa 0), .ref (oa 1), .ref (oa 2), .ref (oa 4)]) (rest := [.int (2 * (nI j)), .ref (oa 5)]) hc (c_L_fine l D K H.size oa Mf1 n (nI j) 0 (by rw [← hMf1]; exact hn) hn8 (vp_in_nI (Nat.lt_of_lt_of_le hj hd6) (by decide)) (show vp_in 0 2 from vp_in_nI (n := 0) (by decide) (by decide)) (f_hb1 R hj hMf1)) (va_cwS 6 hts gL_files_L_fine rfl rfl rfl (by decide +kernel) ⟨Nat.le_of_ble_eq_true rfl, Nat.le_of_ble_eq_true rfl⟩) hPm (hDm.weaken (fun _ _ _ _ => trivial)) hK hE rfl rfl hl.1 (Nat.le_of_ble_eq_true rfl) dL_files_598 ⟨Nat.le_of_ble_eq_true rfl, Nat.le_of_ble_eq_true rfl⟩ hS (aW_GA hS.1) (fun H locs hP1 hD1 hz1 hk1 hS => ?_)
            have hXP := XP_keep hXP (fun k9 i9 h9 => hk1 _ h9 (aW_off hsep h9))
            obtain ⟨Mg1, hMg1⟩ : ∃ X, (sp_L_fine Mf1 n (nI j) 0).2 = X := ⟨_, rfl⟩
            obtain ⟨rf1, hrf1⟩ : ∃ X, (sp_L_fine Mf1 n (nI j) 0).1 = X := ⟨_, rfl⟩
            rw [hMg1] at hP1 hD1
            refine W.eq (g2 := F0 m 601 ls [.int rf1, .int (2 * (nI j)), .ref (oa 5)]) (by rw [hrf1]) ?_
            have hP : va_P D vwCl [(oa 0, .inl (K 0, 7, .inl (Mg1 0))), (oa 1, .inl (K 0, 32, .inl (Mg1 1))), (oa 2, .inl (K 0, 32, .inl (Mg1 2))), (oa 3, .inl (K 0, 8, .inl (Mg1 3))), (oa 4, .inl (K 0, 48, .inl (Mg1 4))), (oa 5, .inl (K 0, 12, .inl (Mg1 5)))] H := hP1
            have hD : va_D (GA ad oa s.heap.size) [(oa 0, .inl (K 0, 7, .inl (Mg1 0))), (oa 1, .inl (K 0, 32, .inl (Mg1 1))), (oa 2, .inl (K 0, 32, .inl (Mg1 2))), (oa 3, .inl (K 0, 8, .inl (Mg1 3))), (oa 4, .inl (K 0, 48, .inl (Mg1 4))), (oa 5, .inl (K 0, 12, .inl (Mg1 5)))] := aW_D hOA (fun j9 => Or.inr ⟨j9, rfl⟩)
            have hPm : va_P D vwCl (aW K oa Mg1) H := hP
            refine vo_iast hx hb hK hP hD hS 5 (n := 12) (f := (Mg1 5)) rfl (i20 (vp_in_nI (Nat.lt_of_lt_of_le hj hd6) (by decide))) dL_files_601 (fun H locs hP hD hS oq => ?_)
            have hP : va_P D vwCl [(oa 0, .inl (K 0, 7, .inl (Mg1 0))), (oa 1, .inl (K 0, 32, .inl (Mg1 1))), (oa 2, .inl (K 0, 32, .inl (Mg1 2))), (oa 3, .inl (K 0, 8, .inl (Mg1 3))), (oa 4, .inl (K 0, 48, .inl (Mg1 4))), (oa 5, .inl (K 0, 12, .inl (upd (Mg1 5) ((2 * (nI j)).toNatClampNeg) rf1)))] H := hP
            have hD : va_D (GA ad oa s.heap.size) [(oa 0, .inl (K 0, 7, .inl (Mg1 0))), (oa 1, .inl (K 0, 32, .inl (Mg1 1))), (oa 2, .inl (K 0, 32, .inl (Mg1 2))), (oa 3, .inl (K 0, 8, .inl (Mg1 3))), (oa 4, .inl (K 0, 48, .inl (Mg1 4))), (oa 5, .inl (K 0, 12, .inl (upd (Mg1 5) ((2 * (nI j)).toNatClampNeg) rf1)))] := hD
            have hXP := XP_off (fun k9 i9 => hsep k9 i9 5) hXP oq
            have hPm := (fun (f5 : Nat → Int32) (h : va_P D vwCl [(oa 0, .inl (K 0, 7, .inl (Mg1 0))), (oa 1, .inl (K 0, 32, .inl (Mg1 1))), (oa 2, .inl (K 0, 32, .inl (Mg1 2))), (oa 3, .inl (K 0, 8, .inl (Mg1 3))), (oa 4, .inl (K 0, 48, .inl (Mg1 4))), (oa 5, .inl (K 0, 12, .inl f5))] H) => (show va_P D vwCl (aW K oa (um Mg1 5 f5)) H from h)) (upd (Mg1 5) ((2 * (nI j)).toNatClampNeg) rf1) hP
            refine W.eq (g2 := F0 m 602 ls []) rfl ?_
            refine lv_aload hx hb dL_files_602 (lv_at hl 10 rfl) ?_
            refine lv_iconst (v := 2) hx hb dL_files_604 (by decide) ?_
            refine lv_iload hx hb dL_files_605 (lv_at hl 11 rfl) ?_
            refine lv_imul hx hb dL_files_607 ?_
            refine lv_iconst (v := 1) hx hb dL_files_608 (by decide) ?_
            refine lv_iadd hx hb dL_files_609 ?_
            refine lv_iload hx hb dL_files_610 (lv_at hl 11 rfl) ?_
            refine lv_iconst (v := 1) hx hb dL_files_612 (by decide) ?_
            refine W.eq (g2 := F0 m 613 ls [.int 1, .int (nI j), .int ((2 * (nI j)) + 1), .ref (oa 5)]) rfl ?_
            refine lv_aload_n hx hb dL_files_613 rfl (lv_at hl 5 rfl) ?_
            refine lv_aload hx hb dL_files_614 (lv_at hl 6 rfl) ?_
            refine lv_aload hx hb dL_files_616 (lv_at hl 7 rfl) ?_
            refine lv_aload hx hb dL_files_618 (lv_at hl 9 rfl) ?_
            have hDm := (aW_D hOA (fun j9 => Or.inr ⟨j9, rfl⟩) : va_D (GA ad oa s.heap.size) (aW K oa (um Mg1 5 (upd (Mg1 5) ((2 * (nI j)).toNatClampNeg) rf1))))
            obtain ⟨Mf2, hMf2⟩ : ∃ X, um Mg1 5 (upd (Mg1 5) ((2 * (nI j)).toNatClampNeg) rf1) = X := ⟨_, rfl⟩
            rw [hMf2] at hPm hDm
            refine ef_Si (As := [.int (nI j), .int 1, .ref (oa 0), .ref (oa 1), .ref (oa 2), .ref (oa 4)]) (rest := [.int ((2 * (nI j)) + 1), .ref (oa 5)]) hc (c_L_fine l D K H.size oa Mf2 n (nI j) 1 (f_hn2 hn hMf1 hMg1 hMf2 (f_hb1 R hj hMf1)) hn8 (vp_in_nI (Nat.lt_of_lt_of_le hj hd6) (by decide)) (show vp_in 1 2 from vp_in_nI (n := 1) (by decide) (by decide)) (f_hb2 R hj hMf1 hMg1 hMf2)) (va_cwS 6 hts gL_files_L_fine rfl rfl rfl (by decide +kernel) ⟨Nat.le_of_ble_eq_true rfl, Nat.le_of_ble_eq_true rfl⟩) hPm (hDm.weaken (fun _ _ _ _ => trivial)) hK hE rfl rfl hl.1 (Nat.le_of_ble_eq_true rfl) dL_files_620 ⟨Nat.le_of_ble_eq_true rfl, Nat.le_of_ble_eq_true rfl⟩ hS (aW_GA hS.1) (fun H locs hP1 hD1 hz1 hk1 hS => ?_)
            have hXP := XP_keep hXP (fun k9 i9 h9 => hk1 _ h9 (aW_off hsep h9))
            obtain ⟨Mg2, hMg2⟩ : ∃ X, (sp_L_fine Mf2 n (nI j) 1).2 = X := ⟨_, rfl⟩
            obtain ⟨rf2, hrf2⟩ : ∃ X, (sp_L_fine Mf2 n (nI j) 1).1 = X := ⟨_, rfl⟩
            rw [hMg2] at hP1 hD1
            refine W.eq (g2 := F0 m 623 ls [.int rf2, .int ((2 * (nI j)) + 1), .ref (oa 5)]) (by rw [hrf2]) ?_
            have hP : va_P D vwCl [(oa 0, .inl (K 0, 7, .inl (Mg2 0))), (oa 1, .inl (K 0, 32, .inl (Mg2 1))), (oa 2, .inl (K 0, 32, .inl (Mg2 2))), (oa 3, .inl (K 0, 8, .inl (Mg2 3))), (oa 4, .inl (K 0, 48, .inl (Mg2 4))), (oa 5, .inl (K 0, 12, .inl (Mg2 5)))] H := hP1
            have hD : va_D (GA ad oa s.heap.size) [(oa 0, .inl (K 0, 7, .inl (Mg2 0))), (oa 1, .inl (K 0, 32, .inl (Mg2 1))), (oa 2, .inl (K 0, 32, .inl (Mg2 2))), (oa 3, .inl (K 0, 8, .inl (Mg2 3))), (oa 4, .inl (K 0, 48, .inl (Mg2 4))), (oa 5, .inl (K 0, 12, .inl (Mg2 5)))] := aW_D hOA (fun j9 => Or.inr ⟨j9, rfl⟩)
            have hPm : va_P D vwCl (aW K oa Mg2) H := hP
            refine vo_iast hx hb hK hP hD hS 5 (n := 12) (f := (Mg2 5)) rfl (i2 (vp_in_nI (Nat.lt_of_lt_of_le hj hd6) (by decide)) (show vp_in 1 2 from vp_in_nI (n := 1) (by decide) (by decide))) dL_files_623 (fun H locs hP hD hS oq => ?_)
            have hP : va_P D vwCl [(oa 0, .inl (K 0, 7, .inl (Mg2 0))), (oa 1, .inl (K 0, 32, .inl (Mg2 1))), (oa 2, .inl (K 0, 32, .inl (Mg2 2))), (oa 3, .inl (K 0, 8, .inl (Mg2 3))), (oa 4, .inl (K 0, 48, .inl (Mg2 4))), (oa 5, .inl (K 0, 12, .inl (upd (Mg2 5) (((2 * (nI j)) + 1).toNatClampNeg) rf2)))] H := hP
            have hD : va_D (GA ad oa s.heap.size) [(oa 0, .inl (K 0, 7, .inl (Mg2 0))), (oa 1, .inl (K 0, 32, .inl (Mg2 1))), (oa 2, .inl (K 0, 32, .inl (Mg2 2))), (oa 3, .inl (K 0, 8, .inl (Mg2 3))), (oa 4, .inl (K 0, 48, .inl (Mg2 4))), (oa 5, .inl (K 0, 12, .inl (upd (Mg2 5) (((2 * (nI j)) + 1).toNatClampNeg) rf2)))] := hD
            have hXP := XP_off (fun k9 i9 => hsep k9 i9 5) hXP oq
            have hPm := (fun (f5 : Nat → Int32) (h : va_P D vwCl [(oa 0, .inl (K 0, 7, .inl (Mg2 0))), (oa 1, .inl (K 0, 32, .inl (Mg2 1))), (oa 2, .inl (K 0, 32, .inl (Mg2 2))), (oa 3, .inl (K 0, 8, .inl (Mg2 3))), (oa 4, .inl (K 0, 48, .inl (Mg2 4))), (oa 5, .inl (K 0, 12, .inl f5))] H) => (show va_P D vwCl (aW K oa (um Mg2 5 f5)) H from h)) (upd (Mg2 5) (((2 * (nI j)) + 1).toNatClampNeg) rf2) hP
            refine lv_aload hx hb dL_files_624 (lv_at hl 10 rfl) ?_
            refine lv_iconst (v := 2) hx hb dL_files_626 (by decide) ?_
            refine W.eq (g2 := F0 m 627 ls [.int 2, .ref (oa 5)]) rfl ?_
            refine lv_iload hx hb dL_files_627 (lv_at hl 11 rfl) ?_
            refine lv_imul hx hb dL_files_629 ?_
            refine va_iald hx hb hK hP 5 0 (cA := K 0) rfl rfl (i20 (vp_in_nI (Nat.lt_of_lt_of_le hj hd6) (by decide))) dL_files_630 ?_
            refine lv_aload hx hb dL_files_631 (lv_at hl 10 rfl) ?_
            refine lv_iconst (v := 2) hx hb dL_files_633 (by decide) ?_
            refine lv_iload hx hb dL_files_634 (lv_at hl 11 rfl) ?_
            refine lv_imul hx hb dL_files_636 ?_
            refine lv_iconst (v := 1) hx hb dL_files_637 (by decide) ?_
            refine W.eq (g2 := F0 m 638 ls [.int 1, .int (2 * (nI j)), .ref (oa 5), .int ((upd (Mg2 5) (((2 * (nI j)) + 1).toNatClampNeg) rf2) ((2 * (nI j)).toNatClampNeg))]) rfl ?_
            refine lv_iadd hx hb dL_files_638 ?_
            refine va_iald hx hb hK hP 5 0 (cA := K 0) rfl rfl (i2 (vp_in_nI (Nat.lt_of_lt_of_le hj hd6) (by decide)) (show vp_in 1 2 from vp_in_nI (n := 1) (by decide) (by decide))) dL_files_639 ?_
            refine lv_iadd hx hb dL_files_640 ?_
            refine lv_istore (lv' := [(11, .int (((upd (Mg2 5) (((2 * (nI j)) + 1).toNatClampNeg) rf2) ((2 * (nI j)).toNatClampNeg)) + ((upd (Mg2 5) (((2 * (nI j)) + 1).toNatClampNeg) rf2) (((2 * (nI j)) + 1).toNatClampNeg)))), (10, .int (sp_L_files_j340s0 M j)), (0, .ref (ad 0 0)), (1, .int p0), (2, .int p1), (3, .ref (oa 0)), (4, .ref (oa 1)), (5, .ref (oa 2)), (6, .ref (oa 3)), (7, .ref (oa 4)), (8, .ref (oa 5)), (9, .int (nI j))]) hx hb dL_files_641 hl (by decide) rfl (fun ls hl => ?_)
            refine lv_aload_n hx hb dL_files_643 rfl (lv_at hl 2 rfl) ?_
            refine lv_iconst (v := 5) hx hb dL_files_644 (by decide) ?_
            refine lv_iload hx hb dL_files_645 (lv_at hl 11 rfl) ?_
            refine lv_iconst (v := 0) hx hb dL_files_647 (by decide) ?_
            refine W.eq (g2 := F0 m 648 ls [.int 0, .int (nI j), .int 5, .ref (ad 0 0)]) rfl ?_
            refine lv_iconst (v := 0) hx hb dL_files_648 (by decide) ?_
            have hst := st_close1 R hcn hj c_567 hMf1 hMg1 hrf1 hMf2 hMg2 hrf2
            refine gc_S (As := [.ref (ad 0 0), .int 5, .int (nI j), .int 0, .int 0]) (rest := []) (M := (um Mg2 5 (upd (Mg2 5) (((2 * (nI j)) + 1).toNatClampNeg) rf2))) hc (c_L_calls_close l hl0 D K H.size ad n d S (nI j) 0 0 hDJ R.hz R.hO (io_close (tIn_of hj R.d31))) (vx_cwSW 5 hts gL_files_L_calls rfl rfl rfl (by decide +kernel) ⟨Nat.le_of_ble_eq_true rfl, Nat.le_of_ble_eq_true rfl⟩) hK hE hX hN hZ hXP hPm hsep hS rfl rfl hl.1 (Nat.le_of_ble_eq_true rfl) dL_files_649 ⟨Nat.le_of_ble_eq_true rfl, Nat.le_of_ble_eq_true rfl⟩ (fun H locs hz1 hB hPm hS => ?_)
            refine W.eq (g2 := F0 m 652 ls [.int (if (sp_X2_close n d S (nI j)).1 = 0 then (sp_X2_close n d S (nI j)).2.1 else if (sp_X2_close n d S (nI j)).1 = 2 then -3 else -3)]) rfl ?_
            refine lv_iload hx hb dL_files_652 (lv_at hl 0 rfl) ?_
            refine lv_icmp_ne (tgt := 661) hx hb dL_files_654 (by decide) (fun c_654 => ?_) (fun c_654 => ?_)
            · skip
              exact absurd hst.1 c_654
            · skip
              refine lv_iconst (v := 1) hx hb dL_files_657 (by decide) ?_
              refine lv_goto (tgt := 662) hx hb dL_files_658 (by decide) ?_
              refine W.widen (k := 4) (n := 60) (Nat.le_of_ble_eq_true rfl) (Nat.le_of_ble_eq_true rfl) ?_
              exact W.zret (v := 1) hx hb hr rfl (fun t9 ht9 hW => ⟨⟨_, (), rfl, rfl, by dsimp only; rw [ht9]; exact gb_t hDJ hst hB hPm⟩, hS.F ht9⟩) hS.2.2 dL_files_662
        · skip
          refine lv_iload_n hx hb dL_files_355 rfl (lv_at hl 3 rfl) ?_
          refine lv_iconst (v := 4) hx hb dL_files_356 (by decide) ?_
          refine lv_ishr hx hb dL_files_357 ?_
          refine lv_iconst (v := 2) hx hb dL_files_358 (by decide) ?_
          refine W.eq (g2 := F0 m 359 ls [.int 2, .int (p1 >>> (4 &&& 31))]) rfl ?_
          refine pu_S (As := [.int (p1 >>> (4 &&& 31)), .int 2]) (rest := []) hc (c_L_low l D K (p1 >>> (4 &&& 31)) 2 (by decide)) (va_cwS 2 hts gL_files_L_low rfl rfl rfl (by decide +kernel) ⟨Nat.le_of_ble_eq_true rfl, Nat.le_of_ble_eq_true rfl⟩) trivial hK hE rfl rfl hl.1 (Nat.le_of_ble_eq_true rfl) dL_files_359 ⟨Nat.le_of_ble_eq_true rfl, Nat.le_of_ble_eq_true rfl⟩ ?_
          obtain ⟨sd, hsd, esd⟩ : ∃ r, r < 2 ∧ sp_L_low (p1 >>> (4 &&& 31)) 2 = nI r := low_ex _ 2 (by decide) (by decide)
          refine W.eq (g2 := F0 m 362 ls [.int (nI sd)]) (by rw [esd]) ?_
          clear esd
          refine lv_istore (lv' := [(11, .int (nI sd)), (10, .int (sp_L_files_j340s0 M j)), (0, .ref (ad 0 0)), (1, .int p0), (2, .int p1), (3, .ref (oa 0)), (4, .ref (oa 1)), (5, .ref (oa 2)), (6, .ref (oa 3)), (7, .ref (oa 4)), (8, .ref (oa 5)), (9, .int (nI j))]) hx hb dL_files_362 hl (by decide) rfl (fun ls hl => ?_)
          refine lv_iload_n hx hb dL_files_364 rfl (lv_at hl 4 rfl) ?_
          refine lv_bipush (v := 6) hx hb dL_files_365 (by decide) ?_
          refine lv_ishr hx hb dL_files_367 ?_
          refine lv_aload_n hx hb dL_files_368 rfl (lv_at hl 5 rfl) ?_
          refine lv_iconst (v := 0) hx hb dL_files_369 (by decide) ?_
          refine va_iald hx hb hK hP 0 0 (cA := K 0) rfl rfl ((show vp_in 0 7 from vp_in_nI (n := 0) (by decide) (by decide))) dL_files_370 ?_
          refine W.eq (g2 := F0 m 371 ls [.int (M 0 0), .int (p1 >>> (6 &&& 31))]) rfl ?_
          refine W.eq (g2 := F0 m 371 ls [.int (M 0 0), .int (p1 >>> (6 &&& 31))]) rfl ?_
          refine pu_S (As := [.int (p1 >>> (6 &&& 31)), .int (M 0 0)]) (rest := []) hc (c_L_low l D K (p1 >>> (6 &&& 31)) (M 0 0) (by rw [hn]; exact nI_ne0 (Nat.pos_of_ne_zero hn0) (by omega))) (va_cwS 2 hts gL_files_L_low rfl rfl rfl (by decide +kernel) ⟨Nat.le_of_ble_eq_true rfl, Nat.le_of_ble_eq_true rfl⟩) trivial hK hE rfl rfl hl.1 (Nat.le_of_ble_eq_true rfl) dL_files_371 ⟨Nat.le_of_ble_eq_true rfl, Nat.le_of_ble_eq_true rfl⟩ ?_
          obtain ⟨t, ht, et⟩ : ∃ r, r < n ∧ sp_L_low (p1 >>> (6 &&& 31)) (M 0 0) = nI r := by rw [hn]; exact low_ex _ n (Nat.pos_of_ne_zero hn0) (by omega)
          refine W.eq (g2 := F0 m 374 ls [.int (nI t)]) (by rw [et]) ?_
          clear et
          refine lv_istore (lv' := [(12, .int (nI t)), (11, .int (nI sd)), (10, .int (sp_L_files_j340s0 M j)), (0, .ref (ad 0 0)), (1, .int p0), (2, .int p1), (3, .ref (oa 0)), (4, .ref (oa 1)), (5, .ref (oa 2)), (6, .ref (oa 3)), (7, .ref (oa 4)), (8, .ref (oa 5)), (9, .int (nI j))]) hx hb dL_files_374 hl (by decide) rfl (fun ls hl => ?_)
          refine lv_iload hx hb dL_files_376 (lv_at hl 2 rfl) ?_
          have hj_378 : ∀ (v378_0 : Int32) (ls : Array Slot), v378_0 = sp_L_files_j378s0 M j t → lv_has ls 16 [(0, .ref (ad 0 0)), (1, .int p0), (2, .int p1), (3, .ref (oa 0)), (4, .ref (oa 1)), (5, .ref (oa 2)), (6, .ref (oa 3)), (7, .ref (oa 4)), (8, .ref (oa 5)), (9, .int (nI j)), (10, .int (sp_L_files_j340s0 M j)), (11, .int (nI sd)), (12, .int (nI t))] → W p l e ({ frames := 8, cells := 4, slots := 60, locals := 186 } : Room) s m ([.ref (ad 0 0), .int p0, .int p1, .ref (oa 0), .ref (oa 1), .ref (oa 2), .ref (oa 3), .ref (oa 4), .ref (oa 5)] : List Value).toArray below meth c s.heap [] 0 0 (MQ below (va_Qi (fun x (_ : Unit) => x = 1) (fun _ t => GB ad oa s.heap.size D K (cn + 1) t.heap) (GA ad oa s.heap.size)) ([.ref (ad 0 0), .int p0, .int p1, .ref (oa 0), .ref (oa 1), .ref (oa 2), .ref (oa 3), .ref (oa 4), .ref (oa 5)] : List Value).toArray s 4 60 (GA ad oa s.heap.size)) (F0 m 423 ls [.int v378_0]) := by
            intro v378_0 ls ev378_0 hl
            subst ev378_0
            refine lv_istore (lv' := [(13, .int (sp_L_files_j378s0 M j t)), (0, .ref (ad 0 0)), (1, .int p0), (2, .int p1), (3, .ref (oa 0)), (4, .ref (oa 1)), (5, .ref (oa 2)), (6, .ref (oa 3)), (7, .ref (oa 4)), (8, .ref (oa 5)), (9, .int (nI j)), (10, .int (sp_L_files_j340s0 M j)), (11, .int (nI sd)), (12, .int (nI t))]) hx hb dL_files_423 hl (by decide) rfl (fun ls hl => ?_)
            refine lv_iload hx hb dL_files_425 (lv_at hl 0 rfl) ?_
            refine lv_if_eq (tgt := 511) hx hb dL_files_427 (by decide) (fun c_427 => ?_) (fun c_427 => ?_)
            · skip
              refine lv_aload_n hx hb dL_files_511 rfl (lv_at hl 1 rfl) ?_
              refine lv_bipush (v := 6) hx hb dL_files_512 (by decide) ?_
              refine lv_iload hx hb dL_files_514 (lv_at hl 10 rfl) ?_
              refine lv_aload hx hb dL_files_516 (lv_at hl 8 rfl) ?_
              refine lv_bipush (v := 8) hx hb dL_files_518 (by decide) ?_
              refine lv_iload hx hb dL_files_520 (lv_at hl 10 rfl) ?_
              refine lv_imul hx hb dL_files_522 ?_
              refine lv_iload hx hb dL_files_523 (lv_at hl 12 rfl) ?_
              refine W.eq (g2 := F0 m 525 ls [.int (nI sd), .int (8 * (nI j)), .ref (oa 4), .int (nI j), .int 6, .ref (ad 0 0)]) rfl ?_
              refine lv_iadd hx hb dL_files_525 ?_
              refine va_iald hx hb hK hP 4 0 (cA := K 0) rfl rfl (i8 (vp_in_nI (Nat.lt_of_lt_of_le hj hd6) (by decide)) (in42 (vp_in_nI hsd (by decide)))) dL_files_526 ?_
              refine lv_iload hx hb dL_files_527 (lv_at hl 13 rfl) ?_
              have hst := st_tell0 R hj hsd ht c_427
              refine gc_S (As := [.ref (ad 0 0), .int 6, .int (nI j), .int (M 4 (((8 * (nI j)) + (nI sd)).toNatClampNeg)), .int (nI t)]) (rest := []) (M := M) hc (c_L_calls_tell l hl0 D K s.heap.size ad n d S (nI j) (M 4 (((8 * (nI j)) + (nI sd)).toNatClampNeg)) (nI t) hDJ R.hz R.hO (io_tell (tIn_of hj R.d31) (tIn_of ht R.n31))) (vx_cwSW 5 hts gL_files_L_calls rfl rfl rfl (by decide +kernel) ⟨Nat.le_of_ble_eq_true rfl, Nat.le_of_ble_eq_true rfl⟩) hK hE hX hN hZ hXP hPm hsep hS rfl rfl hl.1 (Nat.le_of_ble_eq_true rfl) dL_files_529 ⟨Nat.le_of_ble_eq_true rfl, Nat.le_of_ble_eq_true rfl⟩ (fun H locs hz1 hB hPm hS => ?_)
              refine W.eq (g2 := F0 m 532 ls [.int (if (sp_X2_tell n d S (nI j) (M 4 (((8 * (nI j)) + (nI sd)).toNatClampNeg)) (nI t)).1 = 0 then (if (sp_X2_tell n d S (nI j) (M 4 (((8 * (nI j)) + (nI sd)).toNatClampNeg)) (nI t)).2.1 = 0 then (0 : Int32) else 1) else if (sp_X2_tell n d S (nI j) (M 4 (((8 * (nI j)) + (nI sd)).toNatClampNeg)) (nI t)).1 = 2 then -2 else -3)]) rfl ?_
              refine lv_iload hx hb dL_files_532 (lv_at hl 11 rfl) ?_
              refine lv_if_eq (tgt := 542) hx hb dL_files_534 (by decide) (fun c_534 => ?_) (fun c_534 => ?_)
              · skip
                refine lv_iload hx hb dL_files_542 (lv_at hl 0 rfl) ?_
                refine lv_if_eq (tgt := 551) hx hb dL_files_544 (by decide) (fun c_544 => ?_) (fun c_544 => ?_)
                · skip
                  refine lv_iconst (v := 0) hx hb dL_files_551 (by decide) ?_
                  refine lv_icmp_ne (tgt := 559) hx hb dL_files_552 (by decide) (fun c_552 => ?_) (fun c_552 => ?_)
                  · skip
                    exact absurd (hst.1.trans (if_pos c_534)) c_552
                  · skip
                    refine lv_iconst (v := 1) hx hb dL_files_555 (by decide) ?_
                    refine lv_goto (tgt := 560) hx hb dL_files_556 (by decide) ?_
                    refine W.widen (k := 4) (n := 60) (Nat.le_of_ble_eq_true rfl) (Nat.le_of_ble_eq_true rfl) ?_
                    exact W.zret (v := 1) hx hb hr rfl (fun t9 ht9 hW => ⟨⟨_, (), rfl, rfl, by dsimp only; rw [ht9]; exact gb_t hDJ hst hB hPm⟩, hS.F ht9⟩) hS.2.2 dL_files_560
                · skip
                  exact absurd c_427 c_544
              · skip
                refine lv_bipush (v := -3) hx hb dL_files_537 (by decide) ?_
                refine lv_goto (tgt := 552) hx hb dL_files_539 (by decide) ?_
                refine lv_icmp_ne (tgt := 559) hx hb dL_files_552 (by decide) (fun c_552 => ?_) (fun c_552 => ?_)
                · skip
                  exact absurd (hst.1.trans (if_neg c_534)) c_552
                · skip
                  refine lv_iconst (v := 1) hx hb dL_files_555 (by decide) ?_
                  refine lv_goto (tgt := 560) hx hb dL_files_556 (by decide) ?_
                  refine W.widen (k := 4) (n := 60) (Nat.le_of_ble_eq_true rfl) (Nat.le_of_ble_eq_true rfl) ?_
                  exact W.zret (v := 1) hx hb hr rfl (fun t9 ht9 hW => ⟨⟨_, (), rfl, rfl, by dsimp only; rw [ht9]; exact gb_t hDJ hst hB hPm⟩, hS.F ht9⟩) hS.2.2 dL_files_560
            · skip
              refine lv_aload hx hb dL_files_430 (lv_at hl 8 rfl) ?_
              refine lv_bipush (v := 8) hx hb dL_files_432 (by decide) ?_
              refine lv_iload hx hb dL_files_434 (lv_at hl 10 rfl) ?_
              refine lv_imul hx hb dL_files_436 ?_
              refine lv_iconst (v := 3) hx hb dL_files_437 (by decide) ?_
              refine W.eq (g2 := F0 m 438 ls [.int 3, .int (8 * (nI j)), .ref (oa 4)]) rfl ?_
              refine lv_iadd hx hb dL_files_438 ?_
              refine lv_dup2_11 hx hb dL_files_439 rfl rfl ?_
              refine va_iald hx hb hK hP 4 0 (cA := K 0) rfl rfl (i8 (vp_in_nI (Nat.lt_of_lt_of_le hj hd6) (by decide)) (show vp_in 3 8 from vp_in_nI (n := 3) (by decide) (by decide))) dL_files_440 ?_
              refine lv_iconst (v := 1) hx hb dL_files_441 (by decide) ?_
              refine lv_iload hx hb dL_files_442 (lv_at hl 13 rfl) ?_
              refine lv_ishl hx hb dL_files_444 ?_
              refine lv_ior hx hb dL_files_445 ?_
              refine vo_iast hx hb hK hP hD hS 4 (n := 48) (f := (M 4)) rfl (i8 (vp_in_nI (Nat.lt_of_lt_of_le hj hd6) (by decide)) (show vp_in 3 8 from vp_in_nI (n := 3) (by decide) (by decide))) dL_files_446 (fun H locs hP hD hS oq => ?_)
              have hP : va_P D vwCl [(oa 0, .inl (K 0, 7, .inl (M 0))), (oa 1, .inl (K 0, 32, .inl (M 1))), (oa 2, .inl (K 0, 32, .inl (M 2))), (oa 3, .inl (K 0, 8, .inl (M 3))), (oa 4, .inl (K 0, 48, .inl (upd (M 4) (((8 * (nI j)) + 3).toNatClampNeg) ((M 4 (((8 * (nI j)) + 3).toNatClampNeg)) ||| (1 <<< ((nI t) &&& 31)))))), (oa 5, .inl (K 0, 12, .inl (M 5)))] H := hP
              have hD : va_D (GA ad oa s.heap.size) [(oa 0, .inl (K 0, 7, .inl (M 0))), (oa 1, .inl (K 0, 32, .inl (M 1))), (oa 2, .inl (K 0, 32, .inl (M 2))), (oa 3, .inl (K 0, 8, .inl (M 3))), (oa 4, .inl (K 0, 48, .inl (upd (M 4) (((8 * (nI j)) + 3).toNatClampNeg) ((M 4 (((8 * (nI j)) + 3).toNatClampNeg)) ||| (1 <<< ((nI t) &&& 31)))))), (oa 5, .inl (K 0, 12, .inl (M 5)))] := hD
              have hXP := XP_off (fun k9 i9 => hsep k9 i9 4) hXP oq
              have hPm := (fun (f4 : Nat → Int32) (h : va_P D vwCl [(oa 0, .inl (K 0, 7, .inl (M 0))), (oa 1, .inl (K 0, 32, .inl (M 1))), (oa 2, .inl (K 0, 32, .inl (M 2))), (oa 3, .inl (K 0, 8, .inl (M 3))), (oa 4, .inl (K 0, 48, .inl f4)), (oa 5, .inl (K 0, 12, .inl (M 5)))] H) => (show va_P D vwCl (aW K oa (um M 4 f4)) H from h)) (upd (M 4) (((8 * (nI j)) + 3).toNatClampNeg) ((M 4 (((8 * (nI j)) + 3).toNatClampNeg)) ||| (1 <<< ((nI t) &&& 31)))) hP
              refine W.eq (g2 := F0 m 447 ls []) rfl ?_
              refine lv_aload hx hb dL_files_447 (lv_at hl 8 rfl) ?_
              refine lv_bipush (v := 8) hx hb dL_files_449 (by decide) ?_
              refine lv_iload hx hb dL_files_451 (lv_at hl 10 rfl) ?_
              refine lv_imul hx hb dL_files_453 ?_
              refine lv_iconst (v := 4) hx hb dL_files_454 (by decide) ?_
              refine lv_iadd hx hb dL_files_455 ?_
              refine lv_aload hx hb dL_files_456 (lv_at hl 8 rfl) ?_
              refine lv_bipush (v := 8) hx hb dL_files_458 (by decide) ?_
              refine W.eq (g2 := F0 m 460 ls [.int 8, .ref (oa 4), .int ((8 * (nI j)) + 4), .ref (oa 4)]) rfl ?_
              refine lv_iload hx hb dL_files_460 (lv_at hl 10 rfl) ?_
              refine lv_imul hx hb dL_files_462 ?_
              refine lv_iconst (v := 4) hx hb dL_files_463 (by decide) ?_
              refine lv_iadd hx hb dL_files_464 ?_
              refine va_iald hx hb hK hP 4 0 (cA := K 0) rfl rfl (i8 (vp_in_nI (Nat.lt_of_lt_of_le hj hd6) (by decide)) (show vp_in 4 8 from vp_in_nI (n := 4) (by decide) (by decide))) dL_files_465 ?_
              have hj_466 : ∀ (v466_0 : Int32) (ls : Array Slot), v466_0 = sp_L_files_j466s0 M j sd t → lv_has ls 16 [(0, .ref (ad 0 0)), (1, .int p0), (2, .int p1), (3, .ref (oa 0)), (4, .ref (oa 1)), (5, .ref (oa 2)), (6, .ref (oa 3)), (7, .ref (oa 4)), (8, .ref (oa 5)), (9, .int (nI j)), (10, .int (sp_L_files_j340s0 M j)), (11, .int (nI sd)), (12, .int (nI t)), (13, .int (sp_L_files_j378s0 M j t))] → W p l e ({ frames := 8, cells := 4, slots := 60, locals := 186 } : Room) s m ([.ref (ad 0 0), .int p0, .int p1, .ref (oa 0), .ref (oa 1), .ref (oa 2), .ref (oa 3), .ref (oa 4), .ref (oa 5)] : List Value).toArray below meth c H locs 0 0 (MQ below (va_Qi (fun x (_ : Unit) => x = 1) (fun _ t => GB ad oa s.heap.size D K (cn + 1) t.heap) (GA ad oa s.heap.size)) ([.ref (ad 0 0), .int p0, .int p1, .ref (oa 0), .ref (oa 1), .ref (oa 2), .ref (oa 3), .ref (oa 4), .ref (oa 5)] : List Value).toArray s 4 60 (GA ad oa s.heap.size)) (F0 m 493 ls [.int v466_0, .int ((8 * (nI j)) + 4), .ref (oa 4)]) := by
                intro v466_0 ls ev466_0 hl
                subst ev466_0
                refine vo_iast hx hb hK hP hD hS 4 (n := 48) (f := (upd (M 4) (((8 * (nI j)) + 3).toNatClampNeg) ((M 4 (((8 * (nI j)) + 3).toNatClampNeg)) ||| (1 <<< ((nI t) &&& 31))))) rfl (i8 (vp_in_nI (Nat.lt_of_lt_of_le hj hd6) (by decide)) (show vp_in 4 8 from vp_in_nI (n := 4) (by decide) (by decide))) dL_files_493 (fun H locs hP hD hS oq => ?_)
                have hP : va_P D vwCl [(oa 0, .inl (K 0, 7, .inl (M 0))), (oa 1, .inl (K 0, 32, .inl (M 1))), (oa 2, .inl (K 0, 32, .inl (M 2))), (oa 3, .inl (K 0, 8, .inl (M 3))), (oa 4, .inl (K 0, 48, .inl (upd (upd (M 4) (((8 * (nI j)) + 3).toNatClampNeg) ((M 4 (((8 * (nI j)) + 3).toNatClampNeg)) ||| (1 <<< ((nI t) &&& 31)))) (((8 * (nI j)) + 4).toNatClampNeg) (sp_L_files_j466s0 M j sd t)))), (oa 5, .inl (K 0, 12, .inl (M 5)))] H := hP
                have hD : va_D (GA ad oa s.heap.size) [(oa 0, .inl (K 0, 7, .inl (M 0))), (oa 1, .inl (K 0, 32, .inl (M 1))), (oa 2, .inl (K 0, 32, .inl (M 2))), (oa 3, .inl (K 0, 8, .inl (M 3))), (oa 4, .inl (K 0, 48, .inl (upd (upd (M 4) (((8 * (nI j)) + 3).toNatClampNeg) ((M 4 (((8 * (nI j)) + 3).toNatClampNeg)) ||| (1 <<< ((nI t) &&& 31)))) (((8 * (nI j)) + 4).toNatClampNeg) (sp_L_files_j466s0 M j sd t)))), (oa 5, .inl (K 0, 12, .inl (M 5)))] := hD
                have hXP := XP_off (fun k9 i9 => hsep k9 i9 4) hXP oq
                have hPm := (fun (f4 : Nat → Int32) (h : va_P D vwCl [(oa 0, .inl (K 0, 7, .inl (M 0))), (oa 1, .inl (K 0, 32, .inl (M 1))), (oa 2, .inl (K 0, 32, .inl (M 2))), (oa 3, .inl (K 0, 8, .inl (M 3))), (oa 4, .inl (K 0, 48, .inl f4)), (oa 5, .inl (K 0, 12, .inl (M 5)))] H) => (show va_P D vwCl (aW K oa (um M 4 f4)) H from h)) (upd (upd (M 4) (((8 * (nI j)) + 3).toNatClampNeg) ((M 4 (((8 * (nI j)) + 3).toNatClampNeg)) ||| (1 <<< ((nI t) &&& 31)))) (((8 * (nI j)) + 4).toNatClampNeg) (sp_L_files_j466s0 M j sd t)) hP
                refine lv_aload hx hb dL_files_494 (lv_at hl 7 rfl) ?_
                refine lv_bipush (v := 8) hx hb dL_files_496 (by decide) ?_
                refine lv_iload hx hb dL_files_498 (lv_at hl 9 rfl) ?_
                refine lv_imul hx hb dL_files_500 ?_
                refine lv_iconst (v := 5) hx hb dL_files_501 (by decide) ?_
                refine lv_iadd hx hb dL_files_502 ?_
                refine lv_iload hx hb dL_files_503 (lv_at hl 11 rfl) ?_
                refine W.eq (g2 := F0 m 505 ls [.int (nI sd), .int ((8 * (nI j)) + 5), .ref (oa 4)]) rfl ?_
                refine lv_iadd hx hb dL_files_505 ?_
                refine lv_dup2_11 hx hb dL_files_506 rfl rfl ?_
                refine va_iald hx hb hK hP 4 0 (cA := K 0) rfl rfl (i85 (vp_in_nI (Nat.lt_of_lt_of_le hj hd6) (by decide)) (vp_in_nI hsd (by decide))) dL_files_507 ?_
                refine lv_iconst (v := 1) hx hb dL_files_508 (by decide) ?_
                refine lv_iadd hx hb dL_files_509 ?_
                refine vo_iast hx hb hK hP hD hS 4 (n := 48) (f := (upd (upd (M 4) (((8 * (nI j)) + 3).toNatClampNeg) ((M 4 (((8 * (nI j)) + 3).toNatClampNeg)) ||| (1 <<< ((nI t) &&& 31)))) (((8 * (nI j)) + 4).toNatClampNeg) (sp_L_files_j466s0 M j sd t))) rfl (i85 (vp_in_nI (Nat.lt_of_lt_of_le hj hd6) (by decide)) (vp_in_nI hsd (by decide))) dL_files_510 (fun H locs hP hD hS oq => ?_)
                have hP : va_P D vwCl [(oa 0, .inl (K 0, 7, .inl (M 0))), (oa 1, .inl (K 0, 32, .inl (M 1))), (oa 2, .inl (K 0, 32, .inl (M 2))), (oa 3, .inl (K 0, 8, .inl (M 3))), (oa 4, .inl (K 0, 48, .inl (upd (upd (upd (M 4) (((8 * (nI j)) + 3).toNatClampNeg) ((M 4 (((8 * (nI j)) + 3).toNatClampNeg)) ||| (1 <<< ((nI t) &&& 31)))) (((8 * (nI j)) + 4).toNatClampNeg) (sp_L_files_j466s0 M j sd t)) ((((8 * (nI j)) + 5) + (nI sd)).toNatClampNeg) (((upd (upd (M 4) (((8 * (nI j)) + 3).toNatClampNeg) ((M 4 (((8 * (nI j)) + 3).toNatClampNeg)) ||| (1 <<< ((nI t) &&& 31)))) (((8 * (nI j)) + 4).toNatClampNeg) (sp_L_files_j466s0 M j sd t)) ((((8 * (nI j)) + 5) + (nI sd)).toNatClampNeg)) + 1)))), (oa 5, .inl (K 0, 12, .inl (M 5)))] H := hP
                have hD : va_D (GA ad oa s.heap.size) [(oa 0, .inl (K 0, 7, .inl (M 0))), (oa 1, .inl (K 0, 32, .inl (M 1))), (oa 2, .inl (K 0, 32, .inl (M 2))), (oa 3, .inl (K 0, 8, .inl (M 3))), (oa 4, .inl (K 0, 48, .inl (upd (upd (upd (M 4) (((8 * (nI j)) + 3).toNatClampNeg) ((M 4 (((8 * (nI j)) + 3).toNatClampNeg)) ||| (1 <<< ((nI t) &&& 31)))) (((8 * (nI j)) + 4).toNatClampNeg) (sp_L_files_j466s0 M j sd t)) ((((8 * (nI j)) + 5) + (nI sd)).toNatClampNeg) (((upd (upd (M 4) (((8 * (nI j)) + 3).toNatClampNeg) ((M 4 (((8 * (nI j)) + 3).toNatClampNeg)) ||| (1 <<< ((nI t) &&& 31)))) (((8 * (nI j)) + 4).toNatClampNeg) (sp_L_files_j466s0 M j sd t)) ((((8 * (nI j)) + 5) + (nI sd)).toNatClampNeg)) + 1)))), (oa 5, .inl (K 0, 12, .inl (M 5)))] := hD
                have hXP := XP_off (fun k9 i9 => hsep k9 i9 4) hXP oq
                have hPm := (fun (f4 : Nat → Int32) (h : va_P D vwCl [(oa 0, .inl (K 0, 7, .inl (M 0))), (oa 1, .inl (K 0, 32, .inl (M 1))), (oa 2, .inl (K 0, 32, .inl (M 2))), (oa 3, .inl (K 0, 8, .inl (M 3))), (oa 4, .inl (K 0, 48, .inl f4)), (oa 5, .inl (K 0, 12, .inl (M 5)))] H) => (show va_P D vwCl (aW K oa (um M 4 f4)) H from h)) (upd (upd (upd (M 4) (((8 * (nI j)) + 3).toNatClampNeg) ((M 4 (((8 * (nI j)) + 3).toNatClampNeg)) ||| (1 <<< ((nI t) &&& 31)))) (((8 * (nI j)) + 4).toNatClampNeg) (sp_L_files_j466s0 M j sd t)) ((((8 * (nI j)) + 5) + (nI sd)).toNatClampNeg) (((upd (upd (M 4) (((8 * (nI j)) + 3).toNatClampNeg) ((M 4 (((8 * (nI j)) + 3).toNatClampNeg)) ||| (1 <<< ((nI t) &&& 31)))) (((8 * (nI j)) + 4).toNatClampNeg) (sp_L_files_j466s0 M j sd t)) ((((8 * (nI j)) + 5) + (nI sd)).toNatClampNeg)) + 1)) hP
                refine lv_aload_n hx hb dL_files_511 rfl (lv_at hl 0 rfl) ?_
                refine lv_bipush (v := 6) hx hb dL_files_512 (by decide) ?_
                refine W.eq (g2 := F0 m 514 ls [.int 6, .ref (ad 0 0)]) rfl ?_
                refine lv_iload hx hb dL_files_514 (lv_at hl 9 rfl) ?_
                refine lv_aload hx hb dL_files_516 (lv_at hl 7 rfl) ?_
                refine lv_bipush (v := 8) hx hb dL_files_518 (by decide) ?_
                refine lv_iload hx hb dL_files_520 (lv_at hl 9 rfl) ?_
                refine lv_imul hx hb dL_files_522 ?_
                refine lv_iload hx hb dL_files_523 (lv_at hl 11 rfl) ?_
                refine lv_iadd hx hb dL_files_525 ?_
                refine va_iald hx hb hK hP 4 0 (cA := K 0) rfl rfl (i8 (vp_in_nI (Nat.lt_of_lt_of_le hj hd6) (by decide)) (in42 (vp_in_nI hsd (by decide)))) dL_files_526 ?_
                refine W.eq (g2 := F0 m 527 ls [.int (M 4 (((8 * (nI j)) + (nI sd)).toNatClampNeg)), .int (nI j), .int 6, .ref (ad 0 0)]) (by rw [f_ix5 hj6 hsd]) ?_
                refine W.eq (g2 := F0 m 527 ls [.int (M 4 (((8 * (nI j)) + (nI sd)).toNatClampNeg)), .int (nI j), .int 6, .ref (ad 0 0)]) rfl ?_
                refine lv_iload hx hb dL_files_527 (lv_at hl 12 rfl) ?_
                have hst := st_tell1 R hj hsd ht c_427
                refine gc_S (As := [.ref (ad 0 0), .int 6, .int (nI j), .int (M 4 (((8 * (nI j)) + (nI sd)).toNatClampNeg)), .int (nI t)]) (rest := []) (M := (um M 4 (upd (upd (upd (M 4) (((8 * (nI j)) + 3).toNatClampNeg) ((M 4 (((8 * (nI j)) + 3).toNatClampNeg)) ||| (1 <<< ((nI t) &&& 31)))) (((8 * (nI j)) + 4).toNatClampNeg) (sp_L_files_j466s0 M j sd t)) ((((8 * (nI j)) + 5) + (nI sd)).toNatClampNeg) (((upd (upd (M 4) (((8 * (nI j)) + 3).toNatClampNeg) ((M 4 (((8 * (nI j)) + 3).toNatClampNeg)) ||| (1 <<< ((nI t) &&& 31)))) (((8 * (nI j)) + 4).toNatClampNeg) (sp_L_files_j466s0 M j sd t)) ((((8 * (nI j)) + 5) + (nI sd)).toNatClampNeg)) + 1)))) hc (c_L_calls_tell l hl0 D K H.size ad n d S (nI j) (M 4 (((8 * (nI j)) + (nI sd)).toNatClampNeg)) (nI t) hDJ R.hz R.hO (io_tell (tIn_of hj R.d31) (tIn_of ht R.n31))) (vx_cwSW 5 hts gL_files_L_calls rfl rfl rfl (by decide +kernel) ⟨Nat.le_of_ble_eq_true rfl, Nat.le_of_ble_eq_true rfl⟩) hK hE hX hN hZ hXP hPm hsep hS rfl rfl hl.1 (Nat.le_of_ble_eq_true rfl) dL_files_529 ⟨Nat.le_of_ble_eq_true rfl, Nat.le_of_ble_eq_true rfl⟩ (fun H locs hz1 hB hPm hS => ?_)
                refine W.eq (g2 := F0 m 532 ls [.int (if (sp_X2_tell n d S (nI j) (M 4 (((8 * (nI j)) + (nI sd)).toNatClampNeg)) (nI t)).1 = 0 then (if (sp_X2_tell n d S (nI j) (M 4 (((8 * (nI j)) + (nI sd)).toNatClampNeg)) (nI t)).2.1 = 0 then (0 : Int32) else 1) else if (sp_X2_tell n d S (nI j) (M 4 (((8 * (nI j)) + (nI sd)).toNatClampNeg)) (nI t)).1 = 2 then -2 else -3)]) rfl ?_
                refine lv_iload hx hb dL_files_532 (lv_at hl 10 rfl) ?_
                refine lv_if_eq (tgt := 542) hx hb dL_files_534 (by decide) (fun c_534 => ?_) (fun c_534 => ?_)
                · skip
                  refine lv_iload hx hb dL_files_542 (lv_at hl 13 rfl) ?_
                  refine lv_if_eq (tgt := 551) hx hb dL_files_544 (by decide) (fun c_544 => ?_) (fun c_544 => ?_)
                  · skip
                    exact absurd c_544 c_427
                  · skip
                    refine lv_iconst (v := 1) hx hb dL_files_547 (by decide) ?_
                    refine lv_goto (tgt := 552) hx hb dL_files_548 (by decide) ?_
                    refine lv_icmp_ne (tgt := 559) hx hb dL_files_552 (by decide) (fun c_552 => ?_) (fun c_552 => ?_)
                    · skip
                      exact absurd hst.1 c_552
                    · skip
                      refine lv_iconst (v := 1) hx hb dL_files_555 (by decide) ?_
                      refine lv_goto (tgt := 560) hx hb dL_files_556 (by decide) ?_
                      refine W.widen (k := 4) (n := 60) (Nat.le_of_ble_eq_true rfl) (Nat.le_of_ble_eq_true rfl) ?_
                      exact W.zret (v := 1) hx hb hr rfl (fun t9 ht9 hW => ⟨⟨_, (), rfl, rfl, by dsimp only; rw [ht9]; exact gb_t hDJ hst hB hPm⟩, hS.F ht9⟩) hS.2.2 dL_files_560
                · skip
                  exact absurd (fr_open c_427) c_534
              refine lv_if_ge (tgt := 483) hx hb dL_files_466 (by decide) (fun c_466 => ?_) (fun c_466 => ?_)
              · skip
                refine lv_aload hx hb dL_files_483 (lv_at hl 8 rfl) ?_
                refine lv_bipush (v := 8) hx hb dL_files_485 (by decide) ?_
                refine lv_iload hx hb dL_files_487 (lv_at hl 10 rfl) ?_
                refine lv_imul hx hb dL_files_489 ?_
                refine lv_iconst (v := 4) hx hb dL_files_490 (by decide) ?_
                refine lv_iadd hx hb dL_files_491 ?_
                refine va_iald hx hb hK hP 4 0 (cA := K 0) rfl rfl (i8 (vp_in_nI (Nat.lt_of_lt_of_le hj hd6) (by decide)) (show vp_in 4 8 from vp_in_nI (n := 4) (by decide) (by decide))) dL_files_492 ?_
                exact hj_466 _ ls (Eq.symm (Eq.trans (if_pos c_466) (rfl))) (lv_sub hl [1, 2, 3, 4, 5, 6, 7, 8, 9, 10, 11, 12, 13, 0] rfl)
              · skip
                refine lv_aload hx hb dL_files_469 (lv_at hl 8 rfl) ?_
                refine lv_bipush (v := 8) hx hb dL_files_471 (by decide) ?_
                refine lv_iload hx hb dL_files_473 (lv_at hl 10 rfl) ?_
                refine lv_imul hx hb dL_files_475 ?_
                refine lv_iload hx hb dL_files_476 (lv_at hl 12 rfl) ?_
                refine lv_iadd hx hb dL_files_478 ?_
                refine va_iald hx hb hK hP 4 0 (cA := K 0) rfl rfl (i8 (vp_in_nI (Nat.lt_of_lt_of_le hj hd6) (by decide)) (in42 (vp_in_nI hsd (by decide)))) dL_files_479 ?_
                refine W.eq (g2 := F0 m 480 ls [.int ((upd (M 4) (((8 * (nI j)) + 3).toNatClampNeg) ((M 4 (((8 * (nI j)) + 3).toNatClampNeg)) ||| (1 <<< ((nI t) &&& 31)))) (((8 * (nI j)) + (nI sd)).toNatClampNeg)), .int ((8 * (nI j)) + 4), .ref (oa 4)]) rfl ?_
                refine lv_goto (tgt := 493) hx hb dL_files_480 (by decide) ?_
                exact hj_466 _ ls (Eq.symm (Eq.trans (if_neg c_466) (rfl))) (lv_sub hl [1, 2, 3, 4, 5, 6, 7, 8, 9, 10, 11, 12, 13, 0] rfl)
          refine lv_if_ne (tgt := 422) hx hb dL_files_378 (by decide) (fun c_378 => ?_) (fun c_378 => ?_)
          · skip
            refine lv_iconst (v := 0) hx hb dL_files_422 (by decide) ?_
            exact hj_378 _ ls (Eq.symm (Eq.trans (if_neg c_378) (rfl))) (lv_sub hl [3, 4, 5, 6, 7, 8, 9, 10, 11, 12, 2, 1, 0] rfl)
          · skip
            refine lv_aload hx hb dL_files_381 (lv_at hl 10 rfl) ?_
            refine lv_bipush (v := 8) hx hb dL_files_383 (by decide) ?_
            refine lv_iload hx hb dL_files_385 (lv_at hl 12 rfl) ?_
            refine lv_imul hx hb dL_files_387 ?_
            refine lv_iconst (v := 2) hx hb dL_files_388 (by decide) ?_
            refine lv_iadd hx hb dL_files_389 ?_
            refine va_iald hx hb hK hP 4 0 (cA := K 0) rfl rfl (i8 (vp_in_nI (Nat.lt_of_lt_of_le hj hd6) (by decide)) (show vp_in 2 8 from vp_in_nI (n := 2) (by decide) (by decide))) dL_files_390 ?_
            refine W.eq (g2 := F0 m 391 ls [.int (M 4 (((8 * (nI j)) + 2).toNatClampNeg))]) rfl ?_
            refine lv_iload hx hb dL_files_391 (lv_at hl 0 rfl) ?_
            refine lv_ishr hx hb dL_files_393 ?_
            refine lv_iconst (v := 1) hx hb dL_files_394 (by decide) ?_
            refine lv_iand hx hb dL_files_395 ?_
            refine lv_iconst (v := 1) hx hb dL_files_396 (by decide) ?_
            refine lv_icmp_ne (tgt := 422) hx hb dL_files_397 (by decide) (fun c_397 => ?_) (fun c_397 => ?_)
            · skip
              refine lv_iconst (v := 0) hx hb dL_files_422 (by decide) ?_
              exact hj_378 _ ls (Eq.symm (Eq.trans (if_pos c_378) (Eq.trans (if_neg c_397) (rfl)))) (lv_sub hl [3, 4, 5, 6, 7, 8, 9, 10, 11, 12, 2, 1, 0] rfl)
            · skip
              refine lv_aload hx hb dL_files_400 (lv_at hl 10 rfl) ?_
              refine lv_bipush (v := 8) hx hb dL_files_402 (by decide) ?_
              refine W.eq (g2 := F0 m 404 ls [.int 8, .ref (oa 4)]) rfl ?_
              refine lv_iload hx hb dL_files_404 (lv_at hl 12 rfl) ?_
              refine lv_imul hx hb dL_files_406 ?_
              refine lv_iconst (v := 3) hx hb dL_files_407 (by decide) ?_
              refine lv_iadd hx hb dL_files_408 ?_
              refine va_iald hx hb hK hP 4 0 (cA := K 0) rfl rfl (i8 (vp_in_nI (Nat.lt_of_lt_of_le hj hd6) (by decide)) (show vp_in 3 8 from vp_in_nI (n := 3) (by decide) (by decide))) dL_files_409 ?_
              refine lv_iload hx hb dL_files_410 (lv_at hl 0 rfl) ?_
              refine lv_ishr hx hb dL_files_412 ?_
              refine lv_iconst (v := 1) hx hb dL_files_413 (by decide) ?_
              refine W.eq (g2 := F0 m 414 ls [.int 1, .int ((M 4 (((8 * (nI j)) + 3).toNatClampNeg)) >>> ((nI t) &&& 31))]) rfl ?_
              refine lv_iand hx hb dL_files_414 ?_
              refine lv_if_ne (tgt := 422) hx hb dL_files_415 (by decide) (fun c_415 => ?_) (fun c_415 => ?_)
              · skip
                refine lv_iconst (v := 0) hx hb dL_files_422 (by decide) ?_
                exact hj_378 _ ls (Eq.symm (Eq.trans (if_pos c_378) (Eq.trans (if_pos c_397) (Eq.trans (if_neg c_415) (rfl))))) (lv_sub hl [3, 4, 5, 6, 7, 8, 9, 10, 11, 12, 2, 1, 0] rfl)
              · skip
                refine lv_iconst (v := 1) hx hb dL_files_418 (by decide) ?_
                refine lv_goto (tgt := 423) hx hb dL_files_419 (by decide) ?_
                exact hj_378 _ ls (Eq.symm (Eq.trans (if_pos c_378) (Eq.trans (if_pos c_397) (Eq.trans (if_pos c_415) (rfl))))) (lv_sub hl [3, 4, 5, 6, 7, 8, 9, 10, 11, 12, 2, 1, 0] rfl)
      refine lv_icmp_ne (tgt := 347) hx hb dL_files_340 (by decide) (fun c_340 => ?_) (fun c_340 => ?_)
      · skip
        refine lv_iconst (v := 0) hx hb dL_files_347 (by decide) ?_
        exact hj_340 _ ls (Eq.symm (Eq.trans (if_neg c_340) (rfl))) (lv_sub hl [1, 2, 3, 4, 5, 6, 7, 8, 9, 0] rfl)
      · skip
        refine lv_iconst (v := 1) hx hb dL_files_343 (by decide) ?_
        refine lv_goto (tgt := 348) hx hb dL_files_344 (by decide) ?_
        exact hj_340 _ ls (Eq.symm (Eq.trans (if_pos c_340) (rfl))) (lv_sub hl [1, 2, 3, 4, 5, 6, 7, 8, 9, 0] rfl)
    · skip
      refine lv_iload_n hx hb dL_files_10 rfl (lv_at hl 2 rfl) ?_
      refine lv_iconst (v := 4) hx hb dL_files_11 (by decide) ?_
      refine W.eq (g2 := F0 m 12 ls [.int 4, .int p1]) rfl ?_
      refine pu_S (As := [.int p1, .int 4]) (rest := []) hc (c_L_low l D K p1 4 (by decide)) (va_cwS 2 hts gL_files_L_low rfl rfl rfl (by decide +kernel) ⟨Nat.le_of_ble_eq_true rfl, Nat.le_of_ble_eq_true rfl⟩) trivial hK hE rfl rfl hl.1 (Nat.le_of_ble_eq_true rfl) dL_files_12 ⟨Nat.le_of_ble_eq_true rfl, Nat.le_of_ble_eq_true rfl⟩ ?_
      obtain ⟨a, ha4, ea⟩ : ∃ r, r < 4 ∧ sp_L_low p1 4 = nI r := low_ex _ 4 (by decide) (by decide)
      refine W.eq (g2 := F0 m 15 ls [.int (nI a)]) (by rw [ea]) ?_
      clear ea
      refine lv_istore (lv' := [(9, .int (nI a)), (0, .ref (ad 0 0)), (1, .int p0), (2, .int p1), (3, .ref (oa 0)), (4, .ref (oa 1)), (5, .ref (oa 2)), (6, .ref (oa 3)), (7, .ref (oa 4)), (8, .ref (oa 5))]) hx hb dL_files_15 hl (by decide) rfl (fun ls hl => ?_)
      refine lv_iload_n hx hb dL_files_17 rfl (lv_at hl 3 rfl) ?_
      refine lv_iconst (v := 3) hx hb dL_files_18 (by decide) ?_
      refine lv_ishr hx hb dL_files_19 ?_
      refine lv_iconst (v := 4) hx hb dL_files_20 (by decide) ?_
      refine pu_S (As := [.int (p1 >>> (3 &&& 31)), .int 4]) (rest := []) hc (c_L_low l D K (p1 >>> (3 &&& 31)) 4 (by decide)) (va_cwS 2 hts gL_files_L_low rfl rfl rfl (by decide +kernel) ⟨Nat.le_of_ble_eq_true rfl, Nat.le_of_ble_eq_true rfl⟩) trivial hK hE rfl rfl hl.1 (Nat.le_of_ble_eq_true rfl) dL_files_21 ⟨Nat.le_of_ble_eq_true rfl, Nat.le_of_ble_eq_true rfl⟩ ?_
      obtain ⟨b, hb4, eb⟩ : ∃ r, r < 4 ∧ sp_L_low (p1 >>> (3 &&& 31)) 4 = nI r := low_ex _ 4 (by decide) (by decide)
      refine W.eq (g2 := F0 m 24 ls [.int (nI b)]) (by rw [eb]) ?_
      clear eb
      refine lv_istore (lv' := [(10, .int (nI b)), (9, .int (nI a)), (0, .ref (ad 0 0)), (1, .int p0), (2, .int p1), (3, .ref (oa 0)), (4, .ref (oa 1)), (5, .ref (oa 2)), (6, .ref (oa 3)), (7, .ref (oa 4)), (8, .ref (oa 5))]) hx hb dL_files_24 hl (by decide) rfl (fun ls hl => ?_)
      refine W.eq (g2 := F0 m 26 ls []) rfl ?_
      refine lv_iconst (v := 0) hx hb dL_files_26 (by decide) ?_
      refine lv_istore (lv' := [(11, .int 0), (10, .int (nI b)), (9, .int (nI a)), (0, .ref (ad 0 0)), (1, .int p0), (2, .int p1), (3, .ref (oa 0)), (4, .ref (oa 1)), (5, .ref (oa 2)), (6, .ref (oa 3)), (7, .ref (oa 4)), (8, .ref (oa 5))]) hx hb dL_files_27 hl (by decide) rfl (fun ls hl => ?_)
      refine lv_iconst (v := 0) hx hb dL_files_29 (by decide) ?_
      refine lv_istore (lv' := [(12, .int 0), (11, .int 0), (10, .int (nI b)), (9, .int (nI a)), (0, .ref (ad 0 0)), (1, .int p0), (2, .int p1), (3, .ref (oa 0)), (4, .ref (oa 1)), (5, .ref (oa 2)), (6, .ref (oa 3)), (7, .ref (oa 4)), (8, .ref (oa 5))]) hx hb dL_files_30 hl (by decide) rfl (fun ls hl => ?_)
      have hloop_32 : ∀ (n32 kf : Nat), kf ≤ d → d + 1 ≤ kf + n32 → ∀ (a32_11 x32 : Int32) (ls : Array Slot), a32_11 = sp_L_files_L32 M a b kf → x32 = nI kf → lv_has ls 16 [(0, .ref (ad 0 0)), (1, .int p0), (2, .int p1), (3, .ref (oa 0)), (4, .ref (oa 1)), (5, .ref (oa 2)), (6, .ref (oa 3)), (7, .ref (oa 4)), (8, .ref (oa 5)), (9, .int (nI a)), (10, .int (nI b)), (11, .int a32_11), (12, .int x32)] → W p l e ({ frames := 8, cells := 4, slots := 60, locals := 186 } : Room) s m ([.ref (ad 0 0), .int p0, .int p1, .ref (oa 0), .ref (oa 1), .ref (oa 2), .ref (oa 3), .ref (oa 4), .ref (oa 5)] : List Value).toArray below meth c s.heap [] 0 0 (MQ below (va_Qi (fun x (_ : Unit) => x = 1) (fun _ t => GB ad oa s.heap.size D K (cn + 1) t.heap) (GA ad oa s.heap.size)) ([.ref (ad 0 0), .int p0, .int p1, .ref (oa 0), .ref (oa 1), .ref (oa 2), .ref (oa 3), .ref (oa 4), .ref (oa 5)] : List Value).toArray s 4 60 (GA ad oa s.heap.size)) (F0 m 32 ls []) := by
        intro n32
        induction n32 with
        | zero => intro kf h1 h2; exact absurd h2 (by omega)
        | succ n32 ih_32 =>
          intro kf hk_32 hn_32 a32_11 x32 ls ea32_11 ex32 hl
          subst ea32_11
          subst ex32
          refine lv_iload hx hb dL_files_32 (lv_at hl 12 rfl) ?_
          refine lv_aload_n hx hb dL_files_34 rfl (lv_at hl 3 rfl) ?_
          refine lv_iconst (v := 2) hx hb dL_files_35 (by decide) ?_
          refine va_iald hx hb hK hP 0 0 (cA := K 0) rfl rfl ((show vp_in 2 7 from vp_in_nI (n := 2) (by decide) (by decide))) dL_files_36 ?_
          refine W.eq (g2 := F0 m 37 ls [.int (M 0 2), .int (nI kf)]) rfl ?_
          refine W.eq (g2 := F0 m 37 ls [.int (M 0 2), .int (nI kf)]) rfl ?_
          refine lv_icmp_ge (tgt := 111) hx hb dL_files_37 (by decide) (fun c_37 => ?_) (fun c_37 => ?_)
          · skip
            have hke_32 : d = kf := (lp_end hd2 c_37 hk_32 (by omega)).symm
            subst hke_32
            refine lv_iload hx hb dL_files_111 (lv_at hl 9 rfl) ?_
            refine lv_iload hx hb dL_files_113 (lv_at hl 10 rfl) ?_
            have hj_115 : ∀ (v115_0 : Int32) (ls : Array Slot), v115_0 = sp_L_files_j115s0 n M d a b → lv_has ls 16 [(0, .ref (ad 0 0)), (1, .int p0), (2, .int p1), (3, .ref (oa 0)), (4, .ref (oa 1)), (5, .ref (oa 2)), (6, .ref (oa 3)), (7, .ref (oa 4)), (8, .ref (oa 5)), (9, .int (nI a)), (10, .int (nI b)), (11, .int (sp_L_files_L32 M a b d)), (12, .int (nI d))] → W p l e ({ frames := 8, cells := 4, slots := 60, locals := 186 } : Room) s m ([.ref (ad 0 0), .int p0, .int p1, .ref (oa 0), .ref (oa 1), .ref (oa 2), .ref (oa 3), .ref (oa 4), .ref (oa 5)] : List Value).toArray below meth c s.heap [] 0 0 (MQ below (va_Qi (fun x (_ : Unit) => x = 1) (fun _ t => GB ad oa s.heap.size D K (cn + 1) t.heap) (GA ad oa s.heap.size)) ([.ref (ad 0 0), .int p0, .int p1, .ref (oa 0), .ref (oa 1), .ref (oa 2), .ref (oa 3), .ref (oa 4), .ref (oa 5)] : List Value).toArray s 4 60 (GA ad oa s.heap.size)) (F0 m 148 ls [.int v115_0]) := by
              intro v115_0 ls ev115_0 hl
              subst ev115_0
              refine lv_istore (lv' := [(12, .int (sp_L_files_j115s0 n M d a b)), (0, .ref (ad 0 0)), (1, .int p0), (2, .int p1), (3, .ref (oa 0)), (4, .ref (oa 1)), (5, .ref (oa 2)), (6, .ref (oa 3)), (7, .ref (oa 4)), (8, .ref (oa 5)), (9, .int (nI a)), (10, .int (nI b)), (11, .int (sp_L_files_L32 M a b d))]) hx hb dL_files_148 hl (by decide) rfl (fun ls hl => ?_)
              refine lv_iload hx hb dL_files_150 (lv_at hl 10 rfl) ?_
              refine lv_iload hx hb dL_files_152 (lv_at hl 11 rfl) ?_
              refine lv_icmp_ne (tgt := 162) hx hb dL_files_154 (by decide) (fun c_154 => ?_) (fun c_154 => ?_)
              · skip
                refine lv_iload hx hb dL_files_162 (lv_at hl 0 rfl) ?_
                refine lv_if_eq (tgt := 173) hx hb dL_files_164 (by decide) (fun c_164 => ?_) (fun c_164 => ?_)
                · skip
                  refine lv_bipush (v := -3) hx hb dL_files_173 (by decide) ?_
                  refine lv_istore (lv' := [(13, .int (-3)), (12, .int (sp_L_files_j115s0 n M d a b)), (0, .ref (ad 0 0)), (1, .int p0), (2, .int p1), (3, .ref (oa 0)), (4, .ref (oa 1)), (5, .ref (oa 2)), (6, .ref (oa 3)), (7, .ref (oa 4)), (8, .ref (oa 5)), (9, .int (nI a)), (10, .int (nI b)), (11, .int (sp_L_files_L32 M a b d))]) hx hb dL_files_175 hl (by decide) rfl (fun ls hl => ?_)
                  refine lv_iload hx hb dL_files_177 (lv_at hl 0 rfl) ?_
                  refine lv_if_lt (tgt := 298) hx hb dL_files_179 (by decide) (fun c_179 => ?_) (fun c_179 => ?_)
                  · skip
                    refine lv_aload_n hx hb dL_files_298 rfl (lv_at hl 2 rfl) ?_
                    refine lv_iconst (v := 4) hx hb dL_files_299 (by decide) ?_
                    refine lv_iload hx hb dL_files_300 (lv_at hl 11 rfl) ?_
                    refine lv_iload hx hb dL_files_302 (lv_at hl 12 rfl) ?_
                    refine lv_iconst (v := 0) hx hb dL_files_304 (by decide) ?_
                    have hz0 := hS.1
                    have hst := st_file1 R ha4 hb4 c_154 c_164
                    refine gc_S (As := [.ref (ad 0 0), .int 4, .int (nI a), .int (nI b), .int 0]) (rest := []) (M := M) hc (c_L_calls_file l hl0 D K s.heap.size ad n d S (nI a) (nI b) 0 hDJ) (vx_cwSW 5 hts gL_files_L_calls rfl rfl rfl (by decide +kernel) ⟨Nat.le_of_ble_eq_true rfl, Nat.le_of_ble_eq_true rfl⟩) hK hE hX hN hZ hXP hPm hsep hS rfl rfl hl.1 (Nat.le_of_ble_eq_true rfl) dL_files_305 ⟨Nat.le_of_ble_eq_true rfl, Nat.le_of_ble_eq_true rfl⟩ (fun H locs hz1 hB hPm hS => ?_)
                    refine W.eq (g2 := F0 m 308 ls [.int (if (sp_X2_file n d S (nI a) (nI b)).1 = 0 then (sp_X2_file n d S (nI a) (nI b)).2.1 else if (sp_X2_file n d S (nI a) (nI b)).1 = 1 then -2 else -3)]) rfl ?_
                    refine lv_iload hx hb dL_files_308 (lv_at hl 0 rfl) ?_
                    refine lv_icmp_ne (tgt := 317) hx hb dL_files_310 (by decide) (fun c_310 => ?_) (fun c_310 => ?_)
                    · skip
                      exact absurd hst.1 c_310
                    · skip
                      refine W.eq (g2 := F0 m 313 ls []) rfl ?_
                      refine lv_iconst (v := 1) hx hb dL_files_313 (by decide) ?_
                      refine lv_goto (tgt := 318) hx hb dL_files_314 (by decide) ?_
                      refine W.widen (k := 4) (n := 60) (Nat.le_of_ble_eq_true rfl) (Nat.le_of_ble_eq_true rfl) ?_
                      exact W.zret (v := 1) hx hb hr rfl (fun t9 ht9 hW => ⟨⟨_, (), rfl, rfl, by dsimp only; rw [ht9]; exact gb_f hz0 hDJ hst hB hPm⟩, hS.F ht9⟩) hS.2.2 dL_files_318
                  · skip
                    exact absurd (by decide) c_179
                · skip
                  refine lv_aload_n hx hb dL_files_167 rfl (lv_at hl 4 rfl) ?_
                  refine lv_iconst (v := 2) hx hb dL_files_168 (by decide) ?_
                  refine va_iald hx hb hK hP 0 0 (cA := K 0) rfl rfl ((show vp_in 2 7 from vp_in_nI (n := 2) (by decide) (by decide))) dL_files_169 ?_
                  refine W.eq (g2 := F0 m 170 ls [.int (M 0 2)]) rfl ?_
                  refine lv_goto (tgt := 175) hx hb dL_files_170 (by decide) ?_
                  refine lv_istore (lv' := [(13, .int (M 0 2)), (12, .int (sp_L_files_j115s0 n M d a b)), (0, .ref (ad 0 0)), (1, .int p0), (2, .int p1), (3, .ref (oa 0)), (4, .ref (oa 1)), (5, .ref (oa 2)), (6, .ref (oa 3)), (7, .ref (oa 4)), (8, .ref (oa 5)), (9, .int (nI a)), (10, .int (nI b)), (11, .int (sp_L_files_L32 M a b d))]) hx hb dL_files_175 hl (by decide) rfl (fun ls hl => ?_)
                  refine lv_iload hx hb dL_files_177 (lv_at hl 0 rfl) ?_
                  refine lv_if_lt (tgt := 298) hx hb dL_files_179 (by decide) (fun c_179 => ?_) (fun c_179 => ?_)
                  · skip
                    exact absurd c_179 (by rw [hd2]; exact nI_pos (by omega))
                  · skip
                    refine lv_bipush (v := 8) hx hb dL_files_182 (by decide) ?_
                    refine lv_aload_n hx hb dL_files_184 rfl (lv_at hl 5 rfl) ?_
                    refine lv_iconst (v := 2) hx hb dL_files_185 (by decide) ?_
                    refine va_iald hx hb hK hP 0 0 (cA := K 0) rfl rfl ((show vp_in 2 7 from vp_in_nI (n := 2) (by decide) (by decide))) dL_files_186 ?_
                    refine W.eq (g2 := F0 m 187 ls [.int (M 0 2), .int 8]) rfl ?_
                    refine lv_imul hx hb dL_files_187 ?_
                    refine W.eq (g2 := F0 m 188 ls [.int (8 * (nI d))]) (by rw [hd2]) ?_
                    have hd60 : d < 6 := file_d6 R ha4 hb4 c_164
                    refine W.eq (g2 := F0 m 188 ls [.int (8 * (nI d))]) rfl ?_
                    refine lv_istore (lv' := [(14, .int (8 * (nI d))), (13, .int (M 0 2)), (12, .int (sp_L_files_j115s0 n M d a b)), (0, .ref (ad 0 0)), (1, .int p0), (2, .int p1), (3, .ref (oa 0)), (4, .ref (oa 1)), (5, .ref (oa 2)), (6, .ref (oa 3)), (7, .ref (oa 4)), (8, .ref (oa 5)), (9, .int (nI a)), (10, .int (nI b)), (11, .int (sp_L_files_L32 M a b d))]) hx hb dL_files_188 hl (by decide) rfl (fun ls hl => ?_)
                    refine lv_aload hx hb dL_files_190 (lv_at hl 10 rfl) ?_
                    refine lv_iload hx hb dL_files_192 (lv_at hl 0 rfl) ?_
                    refine lv_iload hx hb dL_files_194 (lv_at hl 12 rfl) ?_
                    refine lv_iload hx hb dL_files_196 (lv_at hl 13 rfl) ?_
                    have hj_198 : ∀ (v198_0 : Int32) (ls : Array Slot), v198_0 = sp_L_files_j198s0 a b → lv_has ls 16 [(0, .ref (ad 0 0)), (1, .int p0), (2, .int p1), (3, .ref (oa 0)), (4, .ref (oa 1)), (5, .ref (oa 2)), (6, .ref (oa 3)), (7, .ref (oa 4)), (8, .ref (oa 5)), (9, .int (nI a)), (10, .int (nI b)), (11, .int (sp_L_files_L32 M a b d)), (12, .int (sp_L_files_j115s0 n M d a b)), (13, .int (M 0 2)), (14, .int (8 * (nI d)))] → W p l e ({ frames := 8, cells := 4, slots := 60, locals := 186 } : Room) s m ([.ref (ad 0 0), .int p0, .int p1, .ref (oa 0), .ref (oa 1), .ref (oa 2), .ref (oa 3), .ref (oa 4), .ref (oa 5)] : List Value).toArray below meth c s.heap [] 0 0 (MQ below (va_Qi (fun x (_ : Unit) => x = 1) (fun _ t => GB ad oa s.heap.size D K (cn + 1) t.heap) (GA ad oa s.heap.size)) ([.ref (ad 0 0), .int p0, .int p1, .ref (oa 0), .ref (oa 1), .ref (oa 2), .ref (oa 3), .ref (oa 4), .ref (oa 5)] : List Value).toArray s 4 60 (GA ad oa s.heap.size)) (F0 m 208 ls [.int v198_0, .int (8 * (nI d)), .ref (oa 4)]) := by
                      intro v198_0 ls ev198_0 hl
                      subst ev198_0
                      refine vo_iast hx hb hK hP hD hS 4 (n := 48) (f := (M 4)) rfl (i80 (vp_in_nI hd60 (by decide))) dL_files_208 (fun H locs hP hD hS oq => ?_)
                      have hP : va_P D vwCl [(oa 0, .inl (K 0, 7, .inl (M 0))), (oa 1, .inl (K 0, 32, .inl (M 1))), (oa 2, .inl (K 0, 32, .inl (M 2))), (oa 3, .inl (K 0, 8, .inl (M 3))), (oa 4, .inl (K 0, 48, .inl (upd (M 4) ((8 * (nI d)).toNatClampNeg) (sp_L_files_j198s0 a b)))), (oa 5, .inl (K 0, 12, .inl (M 5)))] H := hP
                      have hD : va_D (GA ad oa s.heap.size) [(oa 0, .inl (K 0, 7, .inl (M 0))), (oa 1, .inl (K 0, 32, .inl (M 1))), (oa 2, .inl (K 0, 32, .inl (M 2))), (oa 3, .inl (K 0, 8, .inl (M 3))), (oa 4, .inl (K 0, 48, .inl (upd (M 4) ((8 * (nI d)).toNatClampNeg) (sp_L_files_j198s0 a b)))), (oa 5, .inl (K 0, 12, .inl (M 5)))] := hD
                      have hXP := XP_off (fun k9 i9 => hsep k9 i9 4) hXP oq
                      have hPm := (fun (f4 : Nat → Int32) (h : va_P D vwCl [(oa 0, .inl (K 0, 7, .inl (M 0))), (oa 1, .inl (K 0, 32, .inl (M 1))), (oa 2, .inl (K 0, 32, .inl (M 2))), (oa 3, .inl (K 0, 8, .inl (M 3))), (oa 4, .inl (K 0, 48, .inl f4)), (oa 5, .inl (K 0, 12, .inl (M 5)))] H) => (show va_P D vwCl (aW K oa (um M 4 f4)) H from h)) (upd (M 4) ((8 * (nI d)).toNatClampNeg) (sp_L_files_j198s0 a b)) hP
                      refine lv_aload hx hb dL_files_209 (lv_at hl 7 rfl) ?_
                      refine lv_iload hx hb dL_files_211 (lv_at hl 14 rfl) ?_
                      refine lv_iconst (v := 1) hx hb dL_files_213 (by decide) ?_
                      refine lv_iadd hx hb dL_files_214 ?_
                      refine lv_iload hx hb dL_files_215 (lv_at hl 9 rfl) ?_
                      refine lv_iload hx hb dL_files_217 (lv_at hl 10 rfl) ?_
                      have hj_219 : ∀ (v219_0 : Int32) (ls : Array Slot), v219_0 = sp_L_files_j219s0 a b → lv_has ls 16 [(0, .ref (ad 0 0)), (1, .int p0), (2, .int p1), (3, .ref (oa 0)), (4, .ref (oa 1)), (5, .ref (oa 2)), (6, .ref (oa 3)), (7, .ref (oa 4)), (8, .ref (oa 5)), (9, .int (nI a)), (10, .int (nI b)), (11, .int (sp_L_files_L32 M a b d)), (12, .int (sp_L_files_j115s0 n M d a b)), (13, .int (M 0 2)), (14, .int (8 * (nI d)))] → W p l e ({ frames := 8, cells := 4, slots := 60, locals := 186 } : Room) s m ([.ref (ad 0 0), .int p0, .int p1, .ref (oa 0), .ref (oa 1), .ref (oa 2), .ref (oa 3), .ref (oa 4), .ref (oa 5)] : List Value).toArray below meth c H locs 0 0 (MQ below (va_Qi (fun x (_ : Unit) => x = 1) (fun _ t => GB ad oa s.heap.size D K (cn + 1) t.heap) (GA ad oa s.heap.size)) ([.ref (ad 0 0), .int p0, .int p1, .ref (oa 0), .ref (oa 1), .ref (oa 2), .ref (oa 3), .ref (oa 4), .ref (oa 5)] : List Value).toArray s 4 60 (GA ad oa s.heap.size)) (F0 m 229 ls [.int v219_0, .int ((8 * (nI d)) + 1), .ref (oa 4)]) := by
                        intro v219_0 ls ev219_0 hl
                        subst ev219_0
                        refine vo_iast hx hb hK hP hD hS 4 (n := 48) (f := (upd (M 4) ((8 * (nI d)).toNatClampNeg) (sp_L_files_j198s0 a b))) rfl (i8 (vp_in_nI hd60 (by decide)) (show vp_in 1 8 from vp_in_nI (n := 1) (by decide) (by decide))) dL_files_229 (fun H locs hP hD hS oq => ?_)
                        have hP : va_P D vwCl [(oa 0, .inl (K 0, 7, .inl (M 0))), (oa 1, .inl (K 0, 32, .inl (M 1))), (oa 2, .inl (K 0, 32, .inl (M 2))), (oa 3, .inl (K 0, 8, .inl (M 3))), (oa 4, .inl (K 0, 48, .inl (upd (upd (M 4) ((8 * (nI d)).toNatClampNeg) (sp_L_files_j198s0 a b)) (((8 * (nI d)) + 1).toNatClampNeg) (sp_L_files_j219s0 a b)))), (oa 5, .inl (K 0, 12, .inl (M 5)))] H := hP
                        have hD : va_D (GA ad oa s.heap.size) [(oa 0, .inl (K 0, 7, .inl (M 0))), (oa 1, .inl (K 0, 32, .inl (M 1))), (oa 2, .inl (K 0, 32, .inl (M 2))), (oa 3, .inl (K 0, 8, .inl (M 3))), (oa 4, .inl (K 0, 48, .inl (upd (upd (M 4) ((8 * (nI d)).toNatClampNeg) (sp_L_files_j198s0 a b)) (((8 * (nI d)) + 1).toNatClampNeg) (sp_L_files_j219s0 a b)))), (oa 5, .inl (K 0, 12, .inl (M 5)))] := hD
                        have hXP := XP_off (fun k9 i9 => hsep k9 i9 4) hXP oq
                        have hPm := (fun (f4 : Nat → Int32) (h : va_P D vwCl [(oa 0, .inl (K 0, 7, .inl (M 0))), (oa 1, .inl (K 0, 32, .inl (M 1))), (oa 2, .inl (K 0, 32, .inl (M 2))), (oa 3, .inl (K 0, 8, .inl (M 3))), (oa 4, .inl (K 0, 48, .inl f4)), (oa 5, .inl (K 0, 12, .inl (M 5)))] H) => (show va_P D vwCl (aW K oa (um M 4 f4)) H from h)) (upd (upd (M 4) ((8 * (nI d)).toNatClampNeg) (sp_L_files_j198s0 a b)) (((8 * (nI d)) + 1).toNatClampNeg) (sp_L_files_j219s0 a b)) hP
                        refine lv_iconst (v := 0) hx hb dL_files_230 (by decide) ?_
                        refine lv_istore (lv' := [(15, .int 0), (0, .ref (ad 0 0)), (1, .int p0), (2, .int p1), (3, .ref (oa 0)), (4, .ref (oa 1)), (5, .ref (oa 2)), (6, .ref (oa 3)), (7, .ref (oa 4)), (8, .ref (oa 5)), (9, .int (nI a)), (10, .int (nI b)), (11, .int (sp_L_files_L32 M a b d)), (12, .int (sp_L_files_j115s0 n M d a b)), (13, .int (M 0 2)), (14, .int (8 * (nI d)))]) hx hb dL_files_231 hl (by decide) rfl (fun ls hl => ?_)
                        have hloop_233 : ∀ (n233 k : Nat), k ≤ n → n + 1 ≤ k + n233 → ∀ (H : Heap) (locs : List Loc) (g x233 : Int32) (ls : Array Slot), g = sp_L_files_G M d a b k → x233 = nI k → XP D K ad n d S H → va_P D vwCl [(oa 0, .inl (K 0, 7, .inl (M 0))), (oa 1, .inl (K 0, 32, .inl (M 1))), (oa 2, .inl (K 0, 32, .inl (M 2))), (oa 3, .inl (K 0, 8, .inl (M 3))), (oa 4, .inl (K 0, 48, .inl (upd (upd (upd (M 4) ((8 * (nI d)).toNatClampNeg) (sp_L_files_j198s0 a b)) (((8 * (nI d)) + 1).toNatClampNeg) (sp_L_files_j219s0 a b)) (((8 * (nI d)) + 2).toNatClampNeg) g))), (oa 5, .inl (K 0, 12, .inl (M 5)))] H → va_D (GA ad oa s.heap.size) [(oa 0, .inl (K 0, 7, .inl (M 0))), (oa 1, .inl (K 0, 32, .inl (M 1))), (oa 2, .inl (K 0, 32, .inl (M 2))), (oa 3, .inl (K 0, 8, .inl (M 3))), (oa 4, .inl (K 0, 48, .inl (upd (upd (upd (M 4) ((8 * (nI d)).toNatClampNeg) (sp_L_files_j198s0 a b)) (((8 * (nI d)) + 1).toNatClampNeg) (sp_L_files_j219s0 a b)) (((8 * (nI d)) + 2).toNatClampNeg) g))), (oa 5, .inl (K 0, 12, .inl (M 5)))] → va_S (GA ad oa s.heap.size) s.heap H locs → lv_has ls 16 [(0, .ref (ad 0 0)), (1, .int p0), (2, .int p1), (3, .ref (oa 0)), (4, .ref (oa 1)), (5, .ref (oa 2)), (6, .ref (oa 3)), (7, .ref (oa 4)), (8, .ref (oa 5)), (9, .int (nI a)), (10, .int (nI b)), (11, .int (sp_L_files_L32 M a b d)), (12, .int (sp_L_files_j115s0 n M d a b)), (13, .int (M 0 2)), (14, .int (8 * (nI d))), (15, .int x233)] → W p l e ({ frames := 8, cells := 4, slots := 60, locals := 186 } : Room) s m ([.ref (ad 0 0), .int p0, .int p1, .ref (oa 0), .ref (oa 1), .ref (oa 2), .ref (oa 3), .ref (oa 4), .ref (oa 5)] : List Value).toArray below meth c H locs 0 0 (MQ below (va_Qi (fun x (_ : Unit) => x = 1) (fun _ t => GB ad oa s.heap.size D K (cn + 1) t.heap) (GA ad oa s.heap.size)) ([.ref (ad 0 0), .int p0, .int p1, .ref (oa 0), .ref (oa 1), .ref (oa 2), .ref (oa 3), .ref (oa 4), .ref (oa 5)] : List Value).toArray s 4 60 (GA ad oa s.heap.size)) (F0 m 233 ls []) := by
                          intro n233
                          induction n233 with
                          | zero => intro k h1 h2; exact absurd h2 (by omega)
                          | succ n233 ih_233 =>
                            intro k hk_233 hn_233 H locs g x233 ls eg ex233 hXP hP hD hS hl
                            subst ex233
                            refine lv_iload hx hb dL_files_233 (lv_at hl 15 rfl) ?_
                            refine lv_aload_n hx hb dL_files_235 rfl (lv_at hl 3 rfl) ?_
                            refine lv_iconst (v := 0) hx hb dL_files_236 (by decide) ?_
                            refine va_iald hx hb hK hP 0 0 (cA := K 0) rfl rfl ((show vp_in 0 7 from vp_in_nI (n := 0) (by decide) (by decide))) dL_files_237 ?_
                            refine W.eq (g2 := F0 m 238 ls [.int (M 0 0), .int (nI k)]) rfl ?_
                            refine lv_icmp_ge (tgt := 283) hx hb dL_files_238 (by decide) (fun c_238 => ?_) (fun c_238 => ?_)
                            · skip
                              have hke_233 : k = n := lp_end hn c_238 hk_233 (by omega)
                              rw [hke_233] at eg hl
                              rw [eg] at hP hD
                              clear eg
                              have hPm := (fun (f4 : Nat → Int32) (h : va_P D vwCl [(oa 0, .inl (K 0, 7, .inl (M 0))), (oa 1, .inl (K 0, 32, .inl (M 1))), (oa 2, .inl (K 0, 32, .inl (M 2))), (oa 3, .inl (K 0, 8, .inl (M 3))), (oa 4, .inl (K 0, 48, .inl f4)), (oa 5, .inl (K 0, 12, .inl (M 5)))] H) => (show va_P D vwCl (aW K oa (um M 4 f4)) H from h)) (upd (upd (upd (M 4) ((8 * (nI d)).toNatClampNeg) (sp_L_files_j198s0 a b)) (((8 * (nI d)) + 1).toNatClampNeg) (sp_L_files_j219s0 a b)) (((8 * (nI d)) + 2).toNatClampNeg) (sp_L_files_G M d a b n)) hP
                              refine lv_aload hx hb dL_files_283 (lv_at hl 7 rfl) ?_
                              refine lv_iload hx hb dL_files_285 (lv_at hl 14 rfl) ?_
                              refine lv_iconst (v := 4) hx hb dL_files_287 (by decide) ?_
                              refine lv_iadd hx hb dL_files_288 ?_
                              refine lv_iconst (v := -1) hx hb dL_files_289 (by decide) ?_
                              refine vo_iast hx hb hK hP hD hS 4 (n := 48) (f := (upd (upd (upd (M 4) ((8 * (nI d)).toNatClampNeg) (sp_L_files_j198s0 a b)) (((8 * (nI d)) + 1).toNatClampNeg) (sp_L_files_j219s0 a b)) (((8 * (nI d)) + 2).toNatClampNeg) (sp_L_files_G M d a b n))) rfl (i8 (vp_in_nI hd60 (by decide)) (show vp_in 4 8 from vp_in_nI (n := 4) (by decide) (by decide))) dL_files_290 (fun H locs hP hD hS oq => ?_)
                              have hP : va_P D vwCl [(oa 0, .inl (K 0, 7, .inl (M 0))), (oa 1, .inl (K 0, 32, .inl (M 1))), (oa 2, .inl (K 0, 32, .inl (M 2))), (oa 3, .inl (K 0, 8, .inl (M 3))), (oa 4, .inl (K 0, 48, .inl (upd (upd (upd (upd (M 4) ((8 * (nI d)).toNatClampNeg) (sp_L_files_j198s0 a b)) (((8 * (nI d)) + 1).toNatClampNeg) (sp_L_files_j219s0 a b)) (((8 * (nI d)) + 2).toNatClampNeg) (sp_L_files_G M d a b n)) (((8 * (nI d)) + 4).toNatClampNeg) (-1)))), (oa 5, .inl (K 0, 12, .inl (M 5)))] H := hP
                              have hD : va_D (GA ad oa s.heap.size) [(oa 0, .inl (K 0, 7, .inl (M 0))), (oa 1, .inl (K 0, 32, .inl (M 1))), (oa 2, .inl (K 0, 32, .inl (M 2))), (oa 3, .inl (K 0, 8, .inl (M 3))), (oa 4, .inl (K 0, 48, .inl (upd (upd (upd (upd (M 4) ((8 * (nI d)).toNatClampNeg) (sp_L_files_j198s0 a b)) (((8 * (nI d)) + 1).toNatClampNeg) (sp_L_files_j219s0 a b)) (((8 * (nI d)) + 2).toNatClampNeg) (sp_L_files_G M d a b n)) (((8 * (nI d)) + 4).toNatClampNeg) (-1)))), (oa 5, .inl (K 0, 12, .inl (M 5)))] := hD
                              have hXP := XP_off (fun k9 i9 => hsep k9 i9 4) hXP oq
                              have hPm := (fun (f4 : Nat → Int32) (h : va_P D vwCl [(oa 0, .inl (K 0, 7, .inl (M 0))), (oa 1, .inl (K 0, 32, .inl (M 1))), (oa 2, .inl (K 0, 32, .inl (M 2))), (oa 3, .inl (K 0, 8, .inl (M 3))), (oa 4, .inl (K 0, 48, .inl f4)), (oa 5, .inl (K 0, 12, .inl (M 5)))] H) => (show va_P D vwCl (aW K oa (um M 4 f4)) H from h)) (upd (upd (upd (upd (M 4) ((8 * (nI d)).toNatClampNeg) (sp_L_files_j198s0 a b)) (((8 * (nI d)) + 1).toNatClampNeg) (sp_L_files_j219s0 a b)) (((8 * (nI d)) + 2).toNatClampNeg) (sp_L_files_G M d a b n)) (((8 * (nI d)) + 4).toNatClampNeg) (-1)) hP
                              refine lv_aload_n hx hb dL_files_291 rfl (lv_at hl 3 rfl) ?_
                              refine lv_iconst (v := 2) hx hb dL_files_292 (by decide) ?_
                              refine W.eq (g2 := F0 m 293 ls [.int 2, .ref (oa 0)]) rfl ?_
                              refine lv_dup2_11 hx hb dL_files_293 rfl rfl ?_
                              refine va_iald hx hb hK hP 0 0 (cA := K 0) rfl rfl ((show vp_in 2 7 from vp_in_nI (n := 2) (by decide) (by decide))) dL_files_294 ?_
                              refine W.eq (g2 := F0 m 295 ls [.int (M 0 2), .int 2, .ref (oa 0)]) rfl ?_
                              refine lv_iconst (v := 1) hx hb dL_files_295 (by decide) ?_
                              refine lv_iadd hx hb dL_files_296 ?_
                              refine vo_iast hx hb hK hP hD hS 0 (n := 7) (f := (M 0)) rfl ((show vp_in 2 7 from vp_in_nI (n := 2) (by decide) (by decide))) dL_files_297 (fun H locs hP hD hS oq => ?_)
                              have hP : va_P D vwCl [(oa 0, .inl (K 0, 7, .inl (upd (M 0) 2 ((M 0 2) + 1)))), (oa 1, .inl (K 0, 32, .inl (M 1))), (oa 2, .inl (K 0, 32, .inl (M 2))), (oa 3, .inl (K 0, 8, .inl (M 3))), (oa 4, .inl (K 0, 48, .inl (upd (upd (upd (upd (M 4) ((8 * (nI d)).toNatClampNeg) (sp_L_files_j198s0 a b)) (((8 * (nI d)) + 1).toNatClampNeg) (sp_L_files_j219s0 a b)) (((8 * (nI d)) + 2).toNatClampNeg) (sp_L_files_G M d a b n)) (((8 * (nI d)) + 4).toNatClampNeg) (-1)))), (oa 5, .inl (K 0, 12, .inl (M 5)))] H := hP
                              have hD : va_D (GA ad oa s.heap.size) [(oa 0, .inl (K 0, 7, .inl (upd (M 0) 2 ((M 0 2) + 1)))), (oa 1, .inl (K 0, 32, .inl (M 1))), (oa 2, .inl (K 0, 32, .inl (M 2))), (oa 3, .inl (K 0, 8, .inl (M 3))), (oa 4, .inl (K 0, 48, .inl (upd (upd (upd (upd (M 4) ((8 * (nI d)).toNatClampNeg) (sp_L_files_j198s0 a b)) (((8 * (nI d)) + 1).toNatClampNeg) (sp_L_files_j219s0 a b)) (((8 * (nI d)) + 2).toNatClampNeg) (sp_L_files_G M d a b n)) (((8 * (nI d)) + 4).toNatClampNeg) (-1)))), (oa 5, .inl (K 0, 12, .inl (M 5)))] := hD
                              have hXP := XP_off (fun k9 i9 => hsep k9 i9 0) hXP oq
                              have hPm := (fun (f0 : Nat → Int32) (f4 : Nat → Int32) (h : va_P D vwCl [(oa 0, .inl (K 0, 7, .inl f0)), (oa 1, .inl (K 0, 32, .inl (M 1))), (oa 2, .inl (K 0, 32, .inl (M 2))), (oa 3, .inl (K 0, 8, .inl (M 3))), (oa 4, .inl (K 0, 48, .inl f4)), (oa 5, .inl (K 0, 12, .inl (M 5)))] H) => (show va_P D vwCl (aW K oa (um (um M 0 f0) 4 f4)) H from h)) (upd (M 0) 2 ((M 0 2) + 1)) (upd (upd (upd (upd (M 4) ((8 * (nI d)).toNatClampNeg) (sp_L_files_j198s0 a b)) (((8 * (nI d)) + 1).toNatClampNeg) (sp_L_files_j219s0 a b)) (((8 * (nI d)) + 2).toNatClampNeg) (sp_L_files_G M d a b n)) (((8 * (nI d)) + 4).toNatClampNeg) (-1)) hP
                              refine lv_aload_n hx hb dL_files_298 rfl (lv_at hl 0 rfl) ?_
                              refine lv_iconst (v := 4) hx hb dL_files_299 (by decide) ?_
                              refine lv_iload hx hb dL_files_300 (lv_at hl 9 rfl) ?_
                              refine W.eq (g2 := F0 m 302 ls [.int (nI a), .int 4, .ref (ad 0 0)]) rfl ?_
                              refine lv_iload hx hb dL_files_302 (lv_at hl 10 rfl) ?_
                              refine lv_iconst (v := 0) hx hb dL_files_304 (by decide) ?_
                              have hz0 := hS.1
                              have hst := st_file2 R ha4 hb4 c_154 c_164
                              refine gc_S (As := [.ref (ad 0 0), .int 4, .int (nI a), .int (nI b), .int 0]) (rest := []) (M := (um (um M 0 (upd (M 0) 2 ((M 0 2) + 1))) 4 (upd (upd (upd (upd (M 4) ((8 * (nI d)).toNatClampNeg) (sp_L_files_j198s0 a b)) (((8 * (nI d)) + 1).toNatClampNeg) (sp_L_files_j219s0 a b)) (((8 * (nI d)) + 2).toNatClampNeg) (sp_L_files_G M d a b n)) (((8 * (nI d)) + 4).toNatClampNeg) (-1)))) hc (c_L_calls_file l hl0 D K H.size ad n d S (nI a) (nI b) 0 hDJ) (vx_cwSW 5 hts gL_files_L_calls rfl rfl rfl (by decide +kernel) ⟨Nat.le_of_ble_eq_true rfl, Nat.le_of_ble_eq_true rfl⟩) hK hE hX hN hZ hXP hPm hsep hS rfl rfl hl.1 (Nat.le_of_ble_eq_true rfl) dL_files_305 ⟨Nat.le_of_ble_eq_true rfl, Nat.le_of_ble_eq_true rfl⟩ (fun H locs hz1 hB hPm hS => ?_)
                              refine W.eq (g2 := F0 m 308 ls [.int (if (sp_X2_file n d S (nI a) (nI b)).1 = 0 then (sp_X2_file n d S (nI a) (nI b)).2.1 else if (sp_X2_file n d S (nI a) (nI b)).1 = 1 then -2 else -3)]) rfl ?_
                              refine lv_iload hx hb dL_files_308 (lv_at hl 13 rfl) ?_
                              refine lv_icmp_ne (tgt := 317) hx hb dL_files_310 (by decide) (fun c_310 => ?_) (fun c_310 => ?_)
                              · skip
                                exact absurd hst.1 c_310
                              · skip
                                refine lv_iconst (v := 1) hx hb dL_files_313 (by decide) ?_
                                refine lv_goto (tgt := 318) hx hb dL_files_314 (by decide) ?_
                                refine W.widen (k := 4) (n := 60) (Nat.le_of_ble_eq_true rfl) (Nat.le_of_ble_eq_true rfl) ?_
                                exact W.zret (v := 1) hx hb hr rfl (fun t9 ht9 hW => ⟨⟨_, (), rfl, rfl, by dsimp only; rw [ht9]; exact gb_f hz0 hDJ hst hB hPm⟩, hS.F ht9⟩) hS.2.2 dL_files_318
                            · skip
                              have hlt_233 : k < n := lp_in hn c_238 hk_233 (by omega)
                              have hPm := (fun (f4 : Nat → Int32) (h : va_P D vwCl [(oa 0, .inl (K 0, 7, .inl (M 0))), (oa 1, .inl (K 0, 32, .inl (M 1))), (oa 2, .inl (K 0, 32, .inl (M 2))), (oa 3, .inl (K 0, 8, .inl (M 3))), (oa 4, .inl (K 0, 48, .inl f4)), (oa 5, .inl (K 0, 12, .inl (M 5)))] H) => (show va_P D vwCl (aW K oa (um M 4 f4)) H from h)) (upd (upd (upd (M 4) ((8 * (nI d)).toNatClampNeg) (sp_L_files_j198s0 a b)) (((8 * (nI d)) + 1).toNatClampNeg) (sp_L_files_j219s0 a b)) (((8 * (nI d)) + 2).toNatClampNeg) g) hP
                              refine W.eq (g2 := F0 m 241 ls []) rfl ?_
                              refine lv_aload hx hb dL_files_241 (lv_at hl 7 rfl) ?_
                              refine lv_iload hx hb dL_files_243 (lv_at hl 14 rfl) ?_
                              refine lv_iconst (v := 2) hx hb dL_files_245 (by decide) ?_
                              refine lv_iadd hx hb dL_files_246 ?_
                              refine lv_dup2_11 hx hb dL_files_247 rfl rfl ?_
                              refine va_iald hx hb hK hP 4 0 (cA := K 0) rfl rfl (i8 (vp_in_nI hd60 (by decide)) (show vp_in 2 8 from vp_in_nI (n := 2) (by decide) (by decide))) dL_files_248 ?_
                              refine lv_iload hx hb dL_files_249 (lv_at hl 15 rfl) ?_
                              refine lv_iload hx hb dL_files_251 (lv_at hl 9 rfl) ?_
                              refine W.eq (g2 := F0 m 253 ls [.int (nI a), .int (nI k), .int ((upd (upd (upd (M 4) ((8 * (nI d)).toNatClampNeg) (sp_L_files_j198s0 a b)) (((8 * (nI d)) + 1).toNatClampNeg) (sp_L_files_j219s0 a b)) (((8 * (nI d)) + 2).toNatClampNeg) g) (((8 * (nI d)) + 2).toNatClampNeg)), .int ((8 * (nI d)) + 2), .ref (oa 4)]) rfl ?_
                              refine lv_iload hx hb dL_files_253 (lv_at hl 10 rfl) ?_
                              refine lv_aload hx hb dL_files_255 (lv_at hl 4 rfl) ?_
                              refine lv_aload hx hb dL_files_257 (lv_at hl 5 rfl) ?_
                              refine lv_aload hx hb dL_files_259 (lv_at hl 6 rfl) ?_
                              refine pu_S (As := [.int (nI k), .int (nI a), .int (nI b), .ref (oa 1), .ref (oa 2), .ref (oa 3)]) (rest := [.int ((upd (upd (upd (M 4) ((8 * (nI d)).toNatClampNeg) (sp_L_files_j198s0 a b)) (((8 * (nI d)) + 1).toNatClampNeg) (sp_L_files_j219s0 a b)) (((8 * (nI d)) + 2).toNatClampNeg) g) (((8 * (nI d)) + 2).toNatClampNeg)), .int ((8 * (nI d)) + 2), .ref (oa 4)]) hc (c_L_sign l D K oa (um M 4 (upd (upd (upd (M 4) ((8 * (nI d)).toNatClampNeg) (sp_L_files_j198s0 a b)) (((8 * (nI d)) + 1).toNatClampNeg) (sp_L_files_j219s0 a b)) (((8 * (nI d)) + 2).toNatClampNeg) g)) (nI k) (nI a) (nI b) (vp_in_nI (Nat.lt_of_lt_of_le hlt_233 hn8) (by decide)) (vp_in_nI ha4 (by decide)) (vp_in_nI hb4 (by decide))) (va_cwS 6 hts gL_files_L_sign rfl rfl rfl (by decide +kernel) ⟨Nat.le_of_ble_eq_true rfl, Nat.le_of_ble_eq_true rfl⟩) hPm hK hE rfl rfl hl.1 (Nat.le_of_ble_eq_true rfl) dL_files_261 ⟨Nat.le_of_ble_eq_true rfl, Nat.le_of_ble_eq_true rfl⟩ ?_
                              refine W.eq (g2 := F0 m 264 ls [.int (sp_L_sign M (nI k) (nI a) (nI b)), .int ((upd (upd (upd (M 4) ((8 * (nI d)).toNatClampNeg) (sp_L_files_j198s0 a b)) (((8 * (nI d)) + 1).toNatClampNeg) (sp_L_files_j219s0 a b)) (((8 * (nI d)) + 2).toNatClampNeg) g) (((8 * (nI d)) + 2).toNatClampNeg)), .int ((8 * (nI d)) + 2), .ref (oa 4)]) (by rw [sign_um4]) ?_
                              have hj_264 : ∀ (v264_0 : Int32) (ls : Array Slot), v264_0 = sp_L_files_j264s0 M a b k → lv_has ls 16 [(0, .ref (ad 0 0)), (1, .int p0), (2, .int p1), (3, .ref (oa 0)), (4, .ref (oa 1)), (5, .ref (oa 2)), (6, .ref (oa 3)), (7, .ref (oa 4)), (8, .ref (oa 5)), (9, .int (nI a)), (10, .int (nI b)), (11, .int (sp_L_files_L32 M a b d)), (12, .int (sp_L_files_j115s0 n M d a b)), (13, .int (M 0 2)), (14, .int (8 * (nI d))), (15, .int (nI k))] → W p l e ({ frames := 8, cells := 4, slots := 60, locals := 186 } : Room) s m ([.ref (ad 0 0), .int p0, .int p1, .ref (oa 0), .ref (oa 1), .ref (oa 2), .ref (oa 3), .ref (oa 4), .ref (oa 5)] : List Value).toArray below meth c H locs 0 0 (MQ below (va_Qi (fun x (_ : Unit) => x = 1) (fun _ t => GB ad oa s.heap.size D K (cn + 1) t.heap) (GA ad oa s.heap.size)) ([.ref (ad 0 0), .int p0, .int p1, .ref (oa 0), .ref (oa 1), .ref (oa 2), .ref (oa 3), .ref (oa 4), .ref (oa 5)] : List Value).toArray s 4 60 (GA ad oa s.heap.size)) (F0 m 275 ls [.int v264_0, .int ((upd (upd (upd (M 4) ((8 * (nI d)).toNatClampNeg) (sp_L_files_j198s0 a b)) (((8 * (nI d)) + 1).toNatClampNeg) (sp_L_files_j219s0 a b)) (((8 * (nI d)) + 2).toNatClampNeg) g) (((8 * (nI d)) + 2).toNatClampNeg)), .int ((8 * (nI d)) + 2), .ref (oa 4)]) := by
                                intro v264_0 ls ev264_0 hl
                                subst ev264_0
                                refine lv_ior hx hb dL_files_275 ?_
                                refine vo_iast hx hb hK hP hD hS 4 (n := 48) (f := (upd (upd (upd (M 4) ((8 * (nI d)).toNatClampNeg) (sp_L_files_j198s0 a b)) (((8 * (nI d)) + 1).toNatClampNeg) (sp_L_files_j219s0 a b)) (((8 * (nI d)) + 2).toNatClampNeg) g)) rfl (i8 (vp_in_nI hd60 (by decide)) (show vp_in 2 8 from vp_in_nI (n := 2) (by decide) (by decide))) dL_files_276 (fun H locs hP hD hS oq => ?_)
                                have hP : va_P D vwCl [(oa 0, .inl (K 0, 7, .inl (M 0))), (oa 1, .inl (K 0, 32, .inl (M 1))), (oa 2, .inl (K 0, 32, .inl (M 2))), (oa 3, .inl (K 0, 8, .inl (M 3))), (oa 4, .inl (K 0, 48, .inl (upd (upd (upd (upd (M 4) ((8 * (nI d)).toNatClampNeg) (sp_L_files_j198s0 a b)) (((8 * (nI d)) + 1).toNatClampNeg) (sp_L_files_j219s0 a b)) (((8 * (nI d)) + 2).toNatClampNeg) g) (((8 * (nI d)) + 2).toNatClampNeg) (((upd (upd (upd (M 4) ((8 * (nI d)).toNatClampNeg) (sp_L_files_j198s0 a b)) (((8 * (nI d)) + 1).toNatClampNeg) (sp_L_files_j219s0 a b)) (((8 * (nI d)) + 2).toNatClampNeg) g) (((8 * (nI d)) + 2).toNatClampNeg)) ||| (sp_L_files_j264s0 M a b k))))), (oa 5, .inl (K 0, 12, .inl (M 5)))] H := hP
                                have hD : va_D (GA ad oa s.heap.size) [(oa 0, .inl (K 0, 7, .inl (M 0))), (oa 1, .inl (K 0, 32, .inl (M 1))), (oa 2, .inl (K 0, 32, .inl (M 2))), (oa 3, .inl (K 0, 8, .inl (M 3))), (oa 4, .inl (K 0, 48, .inl (upd (upd (upd (upd (M 4) ((8 * (nI d)).toNatClampNeg) (sp_L_files_j198s0 a b)) (((8 * (nI d)) + 1).toNatClampNeg) (sp_L_files_j219s0 a b)) (((8 * (nI d)) + 2).toNatClampNeg) g) (((8 * (nI d)) + 2).toNatClampNeg) (((upd (upd (upd (M 4) ((8 * (nI d)).toNatClampNeg) (sp_L_files_j198s0 a b)) (((8 * (nI d)) + 1).toNatClampNeg) (sp_L_files_j219s0 a b)) (((8 * (nI d)) + 2).toNatClampNeg) g) (((8 * (nI d)) + 2).toNatClampNeg)) ||| (sp_L_files_j264s0 M a b k))))), (oa 5, .inl (K 0, 12, .inl (M 5)))] := hD
                                have hXP := XP_off (fun k9 i9 => hsep k9 i9 4) hXP oq
                                have hPm := (fun (f4 : Nat → Int32) (h : va_P D vwCl [(oa 0, .inl (K 0, 7, .inl (M 0))), (oa 1, .inl (K 0, 32, .inl (M 1))), (oa 2, .inl (K 0, 32, .inl (M 2))), (oa 3, .inl (K 0, 8, .inl (M 3))), (oa 4, .inl (K 0, 48, .inl f4)), (oa 5, .inl (K 0, 12, .inl (M 5)))] H) => (show va_P D vwCl (aW K oa (um M 4 f4)) H from h)) (upd (upd (upd (upd (M 4) ((8 * (nI d)).toNatClampNeg) (sp_L_files_j198s0 a b)) (((8 * (nI d)) + 1).toNatClampNeg) (sp_L_files_j219s0 a b)) (((8 * (nI d)) + 2).toNatClampNeg) g) (((8 * (nI d)) + 2).toNatClampNeg) (((upd (upd (upd (M 4) ((8 * (nI d)).toNatClampNeg) (sp_L_files_j198s0 a b)) (((8 * (nI d)) + 1).toNatClampNeg) (sp_L_files_j219s0 a b)) (((8 * (nI d)) + 2).toNatClampNeg) g) (((8 * (nI d)) + 2).toNatClampNeg)) ||| (sp_L_files_j264s0 M a b k))) hP
                                refine lv_iinc (v := (nI k) + 1) (lv' := [(15, .int ((nI k) + 1)), (0, .ref (ad 0 0)), (1, .int p0), (2, .int p1), (3, .ref (oa 0)), (4, .ref (oa 1)), (5, .ref (oa 2)), (6, .ref (oa 3)), (7, .ref (oa 4)), (8, .ref (oa 5)), (9, .int (nI a)), (10, .int (nI b)), (11, .int (sp_L_files_L32 M a b d)), (12, .int (sp_L_files_j115s0 n M d a b)), (13, .int (M 0 2)), (14, .int (8 * (nI d)))]) hx hb dL_files_277 hl (k := 15) rfl (rfl) (by decide) rfl (fun ls hl => ?_)
                                refine lv_goto (tgt := 233) hx hb dL_files_280 (by decide) ?_
                                rw [upd_upd, upd_at] at hP hD
                                exact ih_233 (k + 1) hlt_233 (by omega) _ _ _ _ ls (by rw [eg]; rfl) (nI_1 k) hXP hP hD hS (lv_sub hl [1, 2, 3, 4, 5, 6, 7, 8, 9, 10, 11, 12, 13, 14, 15, 0] rfl)
                              refine lv_if_le (tgt := 274) hx hb dL_files_264 (by decide) (fun c_264 => ?_) (fun c_264 => ?_)
                              · skip
                                refine lv_iconst (v := 0) hx hb dL_files_274 (by decide) ?_
                                exact hj_264 _ ls (Eq.symm (Eq.trans (if_pos c_264) (rfl))) (lv_sub hl [0, 1, 2, 3, 4, 5, 6, 7, 8, 9, 10, 11, 12, 13, 14, 15] rfl)
                              · skip
                                refine lv_iconst (v := 1) hx hb dL_files_267 (by decide) ?_
                                refine lv_iload hx hb dL_files_268 (lv_at hl 15 rfl) ?_
                                refine lv_ishl hx hb dL_files_270 ?_
                                refine lv_goto (tgt := 275) hx hb dL_files_271 (by decide) ?_
                                exact hj_264 _ ls (Eq.symm (Eq.trans (if_neg c_264) (rfl))) (lv_sub hl [0, 1, 2, 3, 4, 5, 6, 7, 8, 9, 10, 11, 12, 13, 14, 15] rfl)
                        have hu0 : upd (upd (upd (M 4) ((8 * (nI d)).toNatClampNeg) (sp_L_files_j198s0 a b)) (((8 * (nI d)) + 1).toNatClampNeg) (sp_L_files_j219s0 a b)) (((8 * (nI d)) + 2).toNatClampNeg) (sp_L_files_G M d a b 0) = upd (upd (M 4) ((8 * (nI d)).toNatClampNeg) (sp_L_files_j198s0 a b)) (((8 * (nI d)) + 1).toNatClampNeg) (sp_L_files_j219s0 a b) := f_u0 hd60
                        exact hloop_233 (n + 1) 0 (Nat.zero_le _) (by omega) H locs _ _ ls rfl nI_0.symm hXP (by rw [hu0]; exact hP) (by rw [hu0]; exact hD) hS (lv_sub hl [1, 2, 3, 4, 5, 6, 7, 8, 9, 10, 11, 12, 13, 14, 15, 0] rfl)
                      refine lv_icmp_ge (tgt := 227) hx hb dL_files_219 (by decide) (fun c_219 => ?_) (fun c_219 => ?_)
                      · skip
                        refine lv_iload hx hb dL_files_227 (lv_at hl 9 rfl) ?_
                        exact hj_219 _ ls (Eq.symm (Eq.trans (if_pos c_219) (rfl))) (lv_sub hl [0, 1, 2, 3, 4, 5, 6, 7, 8, 9, 10, 11, 12, 13, 14] rfl)
                      · skip
                        refine lv_iload hx hb dL_files_222 (lv_at hl 10 rfl) ?_
                        refine lv_goto (tgt := 229) hx hb dL_files_224 (by decide) ?_
                        exact hj_219 _ ls (Eq.symm (Eq.trans (if_neg c_219) (rfl))) (lv_sub hl [0, 1, 2, 3, 4, 5, 6, 7, 8, 9, 10, 11, 12, 13, 14] rfl)
                    refine lv_icmp_ge (tgt := 206) hx hb dL_files_198 (by decide) (fun c_198 => ?_) (fun c_198 => ?_)
                    · skip
                      refine lv_iload hx hb dL_files_206 (lv_at hl 13 rfl) ?_
                      exact hj_198 _ ls (Eq.symm (Eq.trans (if_pos c_198) (rfl))) (lv_sub hl [3, 4, 5, 6, 7, 8, 9, 10, 11, 12, 13, 14, 2, 1, 0] rfl)
                    · skip
                      refine lv_iload hx hb dL_files_201 (lv_at hl 12 rfl) ?_
                      refine lv_goto (tgt := 208) hx hb dL_files_203 (by decide) ?_
                      exact hj_198 _ ls (Eq.symm (Eq.trans (if_neg c_198) (rfl))) (lv_sub hl [3, 4, 5, 6, 7, 8, 9, 10, 11, 12, 13, 14, 2, 1, 0] rfl)
              · skip
                refine lv_bipush (v := -2) hx hb dL_files_157 (by decide) ?_
                refine lv_goto (tgt := 175) hx hb dL_files_159 (by decide) ?_
                refine lv_istore (lv' := [(13, .int (-2)), (12, .int (sp_L_files_j115s0 n M d a b)), (0, .ref (ad 0 0)), (1, .int p0), (2, .int p1), (3, .ref (oa 0)), (4, .ref (oa 1)), (5, .ref (oa 2)), (6, .ref (oa 3)), (7, .ref (oa 4)), (8, .ref (oa 5)), (9, .int (nI a)), (10, .int (nI b)), (11, .int (sp_L_files_L32 M a b d))]) hx hb dL_files_175 hl (by decide) rfl (fun ls hl => ?_)
                refine lv_iload hx hb dL_files_177 (lv_at hl 0 rfl) ?_
                refine lv_if_lt (tgt := 298) hx hb dL_files_179 (by decide) (fun c_179 => ?_) (fun c_179 => ?_)
                · skip
                  refine lv_aload_n hx hb dL_files_298 rfl (lv_at hl 2 rfl) ?_
                  refine lv_iconst (v := 4) hx hb dL_files_299 (by decide) ?_
                  refine lv_iload hx hb dL_files_300 (lv_at hl 11 rfl) ?_
                  refine lv_iload hx hb dL_files_302 (lv_at hl 12 rfl) ?_
                  refine lv_iconst (v := 0) hx hb dL_files_304 (by decide) ?_
                  have hz0 := hS.1
                  have hst := st_file0 R ha4 hb4 c_154
                  refine gc_S (As := [.ref (ad 0 0), .int 4, .int (nI a), .int (nI b), .int 0]) (rest := []) (M := M) hc (c_L_calls_file l hl0 D K s.heap.size ad n d S (nI a) (nI b) 0 hDJ) (vx_cwSW 5 hts gL_files_L_calls rfl rfl rfl (by decide +kernel) ⟨Nat.le_of_ble_eq_true rfl, Nat.le_of_ble_eq_true rfl⟩) hK hE hX hN hZ hXP hPm hsep hS rfl rfl hl.1 (Nat.le_of_ble_eq_true rfl) dL_files_305 ⟨Nat.le_of_ble_eq_true rfl, Nat.le_of_ble_eq_true rfl⟩ (fun H locs hz1 hB hPm hS => ?_)
                  refine W.eq (g2 := F0 m 308 ls [.int (if (sp_X2_file n d S (nI a) (nI b)).1 = 0 then (sp_X2_file n d S (nI a) (nI b)).2.1 else if (sp_X2_file n d S (nI a) (nI b)).1 = 1 then -2 else -3)]) rfl ?_
                  refine lv_iload hx hb dL_files_308 (lv_at hl 0 rfl) ?_
                  refine lv_icmp_ne (tgt := 317) hx hb dL_files_310 (by decide) (fun c_310 => ?_) (fun c_310 => ?_)
                  · skip
                    exact absurd hst.1 c_310
                  · skip
                    refine W.eq (g2 := F0 m 313 ls []) rfl ?_
                    refine lv_iconst (v := 1) hx hb dL_files_313 (by decide) ?_
                    refine lv_goto (tgt := 318) hx hb dL_files_314 (by decide) ?_
                    refine W.widen (k := 4) (n := 60) (Nat.le_of_ble_eq_true rfl) (Nat.le_of_ble_eq_true rfl) ?_
                    exact W.zret (v := 1) hx hb hr rfl (fun t9 ht9 hW => ⟨⟨_, (), rfl, rfl, by dsimp only; rw [ht9]; exact gb_f hz0 hDJ hst hB hPm⟩, hS.F ht9⟩) hS.2.2 dL_files_318
                · skip
                  exact absurd (by decide) c_179
            refine lv_icmp_eq (tgt := 147) hx hb dL_files_115 (by decide) (fun c_115 => ?_) (fun c_115 => ?_)
            · skip
              refine lv_iconst (v := 0) hx hb dL_files_147 (by decide) ?_
              exact hj_115 _ ls (Eq.symm (Eq.trans (if_pos c_115) (rfl))) (lv_sub hl [0, 1, 2, 3, 4, 5, 6, 7, 8, 9, 10, 11, 12] rfl)
            · skip
              refine lv_iload hx hb dL_files_118 (lv_at hl 11 rfl) ?_
              refine lv_if_ne (tgt := 147) hx hb dL_files_120 (by decide) (fun c_120 => ?_) (fun c_120 => ?_)
              · skip
                refine lv_iconst (v := 0) hx hb dL_files_147 (by decide) ?_
                exact hj_115 _ ls (Eq.symm (Eq.trans (if_neg c_115) (Eq.trans (if_neg c_120) (rfl)))) (lv_sub hl [0, 1, 2, 3, 4, 5, 6, 7, 8, 9, 10, 11, 12] rfl)
              · skip
                refine lv_iload hx hb dL_files_123 (lv_at hl 9 rfl) ?_
                refine lv_iload hx hb dL_files_125 (lv_at hl 10 rfl) ?_
                refine lv_aload_n hx hb dL_files_127 rfl (lv_at hl 3 rfl) ?_
                refine lv_aload hx hb dL_files_128 (lv_at hl 4 rfl) ?_
                refine lv_aload hx hb dL_files_130 (lv_at hl 5 rfl) ?_
                refine W.eq (g2 := F0 m 132 ls [.ref (oa 2), .ref (oa 1), .ref (oa 0), .int (nI b), .int (nI a)]) rfl ?_
                refine lv_aload hx hb dL_files_132 (lv_at hl 6 rfl) ?_
                refine pu_S (As := [.int (nI a), .int (nI b), .ref (oa 0), .ref (oa 1), .ref (oa 2), .ref (oa 3)]) (rest := []) hc (c_L_suspicion l D K oa M n (nI a) (nI b) hn hn8 (vp_in_nI ha4 (by decide)) (vp_in_nI hb4 (by decide))) (va_cwS 6 hts gL_files_L_suspicion rfl rfl rfl (by decide +kernel) ⟨Nat.le_of_ble_eq_true rfl, Nat.le_of_ble_eq_true rfl⟩) hPm hK hE rfl rfl hl.1 (Nat.le_of_ble_eq_true rfl) dL_files_134 ⟨Nat.le_of_ble_eq_true rfl, Nat.le_of_ble_eq_true rfl⟩ ?_
                refine lv_aload_n hx hb dL_files_137 rfl (lv_at hl 3 rfl) ?_
                refine lv_iconst (v := 1) hx hb dL_files_138 (by decide) ?_
                refine va_iald hx hb hK hP 0 0 (cA := K 0) rfl rfl ((show vp_in 1 7 from vp_in_nI (n := 1) (by decide) (by decide))) dL_files_139 ?_
                refine W.eq (g2 := F0 m 140 ls [.int (M 0 1), .int (sp_L_suspicion M n (nI a) (nI b))]) rfl ?_
                refine lv_icmp_lt (tgt := 147) hx hb dL_files_140 (by decide) (fun c_140 => ?_) (fun c_140 => ?_)
                · skip
                  refine lv_iconst (v := 0) hx hb dL_files_147 (by decide) ?_
                  exact hj_115 _ ls (Eq.symm (Eq.trans (if_neg c_115) (Eq.trans (if_pos c_120) (Eq.trans (if_pos c_140) (rfl))))) (lv_sub hl [0, 1, 2, 3, 4, 5, 6, 7, 8, 9, 10, 11, 12] rfl)
                · skip
                  refine lv_iconst (v := 1) hx hb dL_files_143 (by decide) ?_
                  refine lv_goto (tgt := 148) hx hb dL_files_144 (by decide) ?_
                  exact hj_115 _ ls (Eq.symm (Eq.trans (if_neg c_115) (Eq.trans (if_pos c_120) (Eq.trans (if_neg c_140) (rfl))))) (lv_sub hl [0, 1, 2, 3, 4, 5, 6, 7, 8, 9, 10, 11, 12] rfl)
          · skip
            have hlt_32 : kf < d := lp_in hd2 c_37 hk_32 (by omega)
            refine lv_iload hx hb dL_files_40 (lv_at hl 11 rfl) ?_
            refine lv_if_ne (tgt := 98) hx hb dL_files_42 (by decide) (fun c_42 => ?_) (fun c_42 => ?_)
            · skip
              refine lv_iconst (v := 1) hx hb dL_files_98 (by decide) ?_
              refine lv_goto (tgt := 103) hx hb dL_files_99 (by decide) ?_
              refine lv_istore (lv' := [(11, .int 1), (0, .ref (ad 0 0)), (1, .int p0), (2, .int p1), (3, .ref (oa 0)), (4, .ref (oa 1)), (5, .ref (oa 2)), (6, .ref (oa 3)), (7, .ref (oa 4)), (8, .ref (oa 5)), (9, .int (nI a)), (10, .int (nI b)), (12, .int (nI kf))]) hx hb dL_files_103 hl (by decide) rfl (fun ls hl => ?_)
              refine lv_iinc (v := (nI kf) + 1) (lv' := [(12, .int ((nI kf) + 1)), (11, .int 1), (0, .ref (ad 0 0)), (1, .int p0), (2, .int p1), (3, .ref (oa 0)), (4, .ref (oa 1)), (5, .ref (oa 2)), (6, .ref (oa 3)), (7, .ref (oa 4)), (8, .ref (oa 5)), (9, .int (nI a)), (10, .int (nI b))]) hx hb dL_files_105 hl (k := 12) rfl (rfl) (by decide) rfl (fun ls hl => ?_)
              refine lv_goto (tgt := 32) hx hb dL_files_108 (by decide) ?_
              exact ih_32 (kf + 1) hlt_32 (by omega) _ _ ls (Eq.symm (Eq.trans (if_neg c_42) (rfl))) (nI_1 kf) (lv_sub hl [2, 3, 4, 5, 6, 7, 8, 9, 10, 11, 12, 1, 0] rfl)
            · skip
              refine lv_aload hx hb dL_files_45 (lv_at hl 7 rfl) ?_
              refine lv_bipush (v := 8) hx hb dL_files_47 (by decide) ?_
              refine lv_iload hx hb dL_files_49 (lv_at hl 12 rfl) ?_
              refine lv_imul hx hb dL_files_51 ?_
              refine va_iald hx hb hK hP 4 0 (cA := K 0) rfl rfl (i80 (vp_in_nI (Nat.lt_of_lt_of_le hlt_32 hd6) (by decide))) dL_files_52 ?_
              refine W.eq (g2 := F0 m 53 ls [.int (M 4 ((8 * (nI kf)).toNatClampNeg))]) rfl ?_
              refine lv_aload hx hb dL_files_53 (lv_at hl 7 rfl) ?_
              refine lv_bipush (v := 8) hx hb dL_files_55 (by decide) ?_
              refine lv_iload hx hb dL_files_57 (lv_at hl 12 rfl) ?_
              refine lv_imul hx hb dL_files_59 ?_
              refine lv_iconst (v := 1) hx hb dL_files_60 (by decide) ?_
              refine lv_iadd hx hb dL_files_61 ?_
              refine va_iald hx hb hK hP 4 0 (cA := K 0) rfl rfl (i8 (vp_in_nI (Nat.lt_of_lt_of_le hlt_32 hd6) (by decide)) (show vp_in 1 8 from vp_in_nI (n := 1) (by decide) (by decide))) dL_files_62 ?_
              refine lv_iadd hx hb dL_files_63 ?_
              refine W.eq (g2 := F0 m 64 ls [.int ((M 4 ((8 * (nI kf)).toNatClampNeg)) + (M 4 (((8 * (nI kf)) + 1).toNatClampNeg)))]) rfl ?_
              refine lv_iload hx hb dL_files_64 (lv_at hl 9 rfl) ?_
              refine lv_iload hx hb dL_files_66 (lv_at hl 10 rfl) ?_
              refine lv_iadd hx hb dL_files_68 ?_
              refine lv_icmp_ne (tgt := 102) hx hb dL_files_69 (by decide) (fun c_69 => ?_) (fun c_69 => ?_)
              · skip
                refine lv_iconst (v := 0) hx hb dL_files_102 (by decide) ?_
                refine lv_istore (lv' := [(11, .int 0), (0, .ref (ad 0 0)), (1, .int p0), (2, .int p1), (3, .ref (oa 0)), (4, .ref (oa 1)), (5, .ref (oa 2)), (6, .ref (oa 3)), (7, .ref (oa 4)), (8, .ref (oa 5)), (9, .int (nI a)), (10, .int (nI b)), (12, .int (nI kf))]) hx hb dL_files_103 hl (by decide) rfl (fun ls hl => ?_)
                refine lv_iinc (v := (nI kf) + 1) (lv' := [(12, .int ((nI kf) + 1)), (11, .int 0), (0, .ref (ad 0 0)), (1, .int p0), (2, .int p1), (3, .ref (oa 0)), (4, .ref (oa 1)), (5, .ref (oa 2)), (6, .ref (oa 3)), (7, .ref (oa 4)), (8, .ref (oa 5)), (9, .int (nI a)), (10, .int (nI b))]) hx hb dL_files_105 hl (k := 12) rfl (rfl) (by decide) rfl (fun ls hl => ?_)
                refine lv_goto (tgt := 32) hx hb dL_files_108 (by decide) ?_
                exact ih_32 (kf + 1) hlt_32 (by omega) _ _ ls (Eq.symm (Eq.trans (if_pos c_42) (Eq.trans (if_neg c_69) (rfl)))) (nI_1 kf) (lv_sub hl [2, 3, 4, 5, 6, 7, 8, 9, 10, 11, 12, 1, 0] rfl)
              · skip
                refine lv_aload hx hb dL_files_72 (lv_at hl 7 rfl) ?_
                refine lv_bipush (v := 8) hx hb dL_files_74 (by decide) ?_
                refine lv_iload hx hb dL_files_76 (lv_at hl 12 rfl) ?_
                refine lv_imul hx hb dL_files_78 ?_
                refine W.eq (g2 := F0 m 79 ls [.int (8 * (nI kf)), .ref (oa 4)]) rfl ?_
                refine va_iald hx hb hK hP 4 0 (cA := K 0) rfl rfl (i80 (vp_in_nI (Nat.lt_of_lt_of_le hlt_32 hd6) (by decide))) dL_files_79 ?_
                refine lv_iload hx hb dL_files_80 (lv_at hl 9 rfl) ?_
                refine lv_icmp_eq (tgt := 98) hx hb dL_files_82 (by decide) (fun c_82 => ?_) (fun c_82 => ?_)
                · skip
                  refine lv_iconst (v := 1) hx hb dL_files_98 (by decide) ?_
                  refine lv_goto (tgt := 103) hx hb dL_files_99 (by decide) ?_
                  refine lv_istore (lv' := [(11, .int 1), (0, .ref (ad 0 0)), (1, .int p0), (2, .int p1), (3, .ref (oa 0)), (4, .ref (oa 1)), (5, .ref (oa 2)), (6, .ref (oa 3)), (7, .ref (oa 4)), (8, .ref (oa 5)), (9, .int (nI a)), (10, .int (nI b)), (12, .int (nI kf))]) hx hb dL_files_103 hl (by decide) rfl (fun ls hl => ?_)
                  refine lv_iinc (v := (nI kf) + 1) (lv' := [(12, .int ((nI kf) + 1)), (11, .int 1), (0, .ref (ad 0 0)), (1, .int p0), (2, .int p1), (3, .ref (oa 0)), (4, .ref (oa 1)), (5, .ref (oa 2)), (6, .ref (oa 3)), (7, .ref (oa 4)), (8, .ref (oa 5)), (9, .int (nI a)), (10, .int (nI b))]) hx hb dL_files_105 hl (k := 12) rfl (rfl) (by decide) rfl (fun ls hl => ?_)
                  refine lv_goto (tgt := 32) hx hb dL_files_108 (by decide) ?_
                  exact ih_32 (kf + 1) hlt_32 (by omega) _ _ ls (Eq.symm (Eq.trans (if_pos c_42) (Eq.trans (if_pos c_69) (Eq.trans (if_pos c_82) (rfl))))) (nI_1 kf) (lv_sub hl [2, 3, 4, 5, 6, 7, 8, 9, 10, 11, 12, 1, 0] rfl)
                · skip
                  refine lv_aload hx hb dL_files_85 (lv_at hl 7 rfl) ?_
                  refine lv_bipush (v := 8) hx hb dL_files_87 (by decide) ?_
                  refine lv_iload hx hb dL_files_89 (lv_at hl 12 rfl) ?_
                  refine lv_imul hx hb dL_files_91 ?_
                  refine va_iald hx hb hK hP 4 0 (cA := K 0) rfl rfl (i80 (vp_in_nI (Nat.lt_of_lt_of_le hlt_32 hd6) (by decide))) dL_files_92 ?_
                  refine W.eq (g2 := F0 m 93 ls [.int (M 4 ((8 * (nI kf)).toNatClampNeg))]) rfl ?_
                  refine lv_iload hx hb dL_files_93 (lv_at hl 10 rfl) ?_
                  refine lv_icmp_ne (tgt := 102) hx hb dL_files_95 (by decide) (fun c_95 => ?_) (fun c_95 => ?_)
                  · skip
                    refine lv_iconst (v := 0) hx hb dL_files_102 (by decide) ?_
                    refine lv_istore (lv' := [(11, .int 0), (0, .ref (ad 0 0)), (1, .int p0), (2, .int p1), (3, .ref (oa 0)), (4, .ref (oa 1)), (5, .ref (oa 2)), (6, .ref (oa 3)), (7, .ref (oa 4)), (8, .ref (oa 5)), (9, .int (nI a)), (10, .int (nI b)), (12, .int (nI kf))]) hx hb dL_files_103 hl (by decide) rfl (fun ls hl => ?_)
                    refine lv_iinc (v := (nI kf) + 1) (lv' := [(12, .int ((nI kf) + 1)), (11, .int 0), (0, .ref (ad 0 0)), (1, .int p0), (2, .int p1), (3, .ref (oa 0)), (4, .ref (oa 1)), (5, .ref (oa 2)), (6, .ref (oa 3)), (7, .ref (oa 4)), (8, .ref (oa 5)), (9, .int (nI a)), (10, .int (nI b))]) hx hb dL_files_105 hl (k := 12) rfl (rfl) (by decide) rfl (fun ls hl => ?_)
                    refine lv_goto (tgt := 32) hx hb dL_files_108 (by decide) ?_
                    exact ih_32 (kf + 1) hlt_32 (by omega) _ _ ls (Eq.symm (Eq.trans (if_pos c_42) (Eq.trans (if_pos c_69) (Eq.trans (if_neg c_82) (Eq.trans (if_neg c_95) (rfl)))))) (nI_1 kf) (lv_sub hl [2, 3, 4, 5, 6, 7, 8, 9, 10, 11, 12, 1, 0] rfl)
                  · skip
                    refine lv_iconst (v := 1) hx hb dL_files_98 (by decide) ?_
                    refine lv_goto (tgt := 103) hx hb dL_files_99 (by decide) ?_
                    refine lv_istore (lv' := [(11, .int 1), (0, .ref (ad 0 0)), (1, .int p0), (2, .int p1), (3, .ref (oa 0)), (4, .ref (oa 1)), (5, .ref (oa 2)), (6, .ref (oa 3)), (7, .ref (oa 4)), (8, .ref (oa 5)), (9, .int (nI a)), (10, .int (nI b)), (12, .int (nI kf))]) hx hb dL_files_103 hl (by decide) rfl (fun ls hl => ?_)
                    refine lv_iinc (v := (nI kf) + 1) (lv' := [(12, .int ((nI kf) + 1)), (11, .int 1), (0, .ref (ad 0 0)), (1, .int p0), (2, .int p1), (3, .ref (oa 0)), (4, .ref (oa 1)), (5, .ref (oa 2)), (6, .ref (oa 3)), (7, .ref (oa 4)), (8, .ref (oa 5)), (9, .int (nI a)), (10, .int (nI b))]) hx hb dL_files_105 hl (k := 12) rfl (rfl) (by decide) rfl (fun ls hl => ?_)
                    refine lv_goto (tgt := 32) hx hb dL_files_108 (by decide) ?_
                    exact ih_32 (kf + 1) hlt_32 (by omega) _ _ ls (Eq.symm (Eq.trans (if_pos c_42) (Eq.trans (if_pos c_69) (Eq.trans (if_neg c_82) (Eq.trans (if_pos c_95) (rfl)))))) (nI_1 kf) (lv_sub hl [2, 3, 4, 5, 6, 7, 8, 9, 10, 11, 12, 1, 0] rfl)
      exact hloop_32 (d + 1) 0 (Nat.zero_le _) (by omega) _ _ ls rfl nI_0.symm (lv_sub hl [4, 5, 6, 7, 8, 9, 10, 11, 12, 3, 2, 1, 0] rfl)
