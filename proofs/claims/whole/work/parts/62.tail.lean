/-! pieces of the law's body that every case holds -/
section TAIL
variable {p : Program} {l : Launch} {e : Env} {s : State} {m : MethodId} {below : List Frame} {meth : Method} {c : Code} {H : Heap} {locs : List Loc} {cells slots : Nat} {Q : State → Prop} {b : Nat}
variable {D : va_G} {K : Nat → ClassId} {rest : List Value} {pc P : Nat} {ls : Array Slot} {o : Nat} {am : Nat → Nat} {tm cx rm : Int32} {M : Nat → Nat → Int32} {lv : List (Nat × Value)}
theorem lo_arg {L k4 j : Nat} {xs : Nat → Int32} {jz : Int} (hx : p.tables.exec = Jvm.exec) (hb : c.code = cL_law) (hX : va_X b L xs s s.heap) (hbl : b < s.heap.size) (hS : va_S (fun q => s.heap.size ≤ q) s.heap H locs) (hL : L ≤ 2048) (hk : k4 + 4 ≤ L) (hj : j < 4) (hjz : Int32.ofInt jz = nI j)
    (l0 : ls[0]? = some (.val (.ref b))) (l4 : ls[4]? = some (.val (.int (nI k4)))) (d0 : decode cL_law pc = .ok (.aload_n 0, 1)) (d1 : decode cL_law (pc + 1) = .ok (.iload 4, 2)) (d2 : decode cL_law (pc + 3) = .ok (.iconst jz, 1)) (d3 : decode cL_law (pc + 4) = .ok (.iadd, 1)) (d4 : decode cL_law (pc + 5) = .ok (.iaload, 1))
    (k : W p l e room_1 s m #[Value.ref b] below meth c H locs cells slots Q (F0 m (pc + 6) ls (.int (xs (k4 + j)) :: rest))) : W p l e room_1 s m #[Value.ref b] below meth c H locs cells slots Q (F0 m pc ls rest) := by
  refine lv_aload_n hx hb d0 rfl l0 ?_
  refine lv_iload hx hb d1 l4 ?_
  refine lv_iconst (v := nI j) hx hb d2 hjz ?_
  refine lv_iadd hx hb d3 ?_
  refine va_sld hx hb hX hbl (by omega) hS ?_ d4 ?_
  · rw [nI_add]; exact vp_in_nI (by omega) (by omega)
  · rw [nI_add, nI_clamp (by omega)]; exact k
/-- what the model threw is what the class threw; then on, as nothing was thrown or something was -/
theorem lo_head (hx : p.tables.exec = Jvm.exec) (hb : c.code = cL_law) (hc : CallFix p m c cL_law 7 s #[Value.ref b] lw_tbl RL) (hts : ∀ w ∈ wsL_law, w.before #[Value.ref b] s = true) (hE : lE D K s) (hPm : va_P D vwCl (mW K am tm M) H) (hcs : cells ≤ 601024 ∧ slots ≤ 7293034) (hl : lv_has ls 7 lv) (l2 : ls[2]? = some (.val (.ref (am 0)))) (l5 : ls[5]? = some (.val (.int cx))) (ht : tm = cx) {off : Int} {tgt : Nat} (htg : ((P + 13 : Nat) : Int) + off = (tgt : Int))
    (d0 : decode cL_law P = .ok (.aload_n 2, 1)) (d1 : decode cL_law (P + 1) = .ok (.invokevirtual 81, 3)) (d2 : decode cL_law (P + 4) = .ok (.iload 5, 2)) (d3 : decode cL_law (P + 6) = .ok (.if_icmp .eq 5, 3)) (d4 : decode cL_law (P + 11) = .ok (.iload 5, 2)) (d5 : decode cL_law (P + 13) = .ok (.ifCond .ne off, 3))
    (k0 : cx = 0 → W p l e room_1 s m #[Value.ref b] below meth c H locs cells slots Q (F0 m (P + 16) ls [])) (k1 : ¬ cx = 0 → W p l e room_1 s m #[Value.ref b] below meth c H locs cells slots Q (F0 m tgt ls [])) : W p l e room_1 s m #[Value.ref b] below meth c H locs cells slots Q (F0 m P ls []) := by
  have hc' : CallFix p m c cL_law 7 s #[Value.ref b] wsL_law RL := ⟨hc.1, hc.2.1, hc.2.2.1, hc.2.2.2.1, hts⟩
  refine lv_aload_n hx hb d0 rfl l2 ?_
  refine pu_V (As := []) (rest := []) hc' (c_X3_thrown l D K am tm M) (cwV 0 hts gL_law_X3_thrown rfl rfl rfl (by decide +kernel) ⟨Nat.le_of_ble_eq_true rfl, Nat.le_of_ble_eq_true rfl⟩) hPm hE.1 hE.2.2.1 (va_recv hE.1 hPm (ci := 3) (q0 := 0) rfl rfl) rfl rfl hl.1 (Nat.le_of_ble_eq_true rfl) d1 hcs ?_
  refine W.eq (g2 := F0 m (P + 4) ls [.int tm]) rfl ?_
  refine lv_iload hx hb d2 l5 ?_
  refine lv_icmp_eq (tgt := P + 11) hx hb d3 (by omega) (fun _ => ?_) (fun h => absurd ht h)
  refine lv_iload hx hb d4 l5 ?_
  exact lv_if_ne hx hb d5 htg k1 k0
/-- the answers -/
theorem lo_cmp {f : Nat → Int64} (hx : p.tables.exec = Jvm.exec) (hb : c.code = cL_law) (hE : lE D K s) (hPo : va_P D vwCl (oW K o f) H) (l3 : ls[3]? = some (.val (.ref o))) (l6 : ls[6]? = some (.val (.int rm))) (hv : f 0 = rm.toInt64)
    (d0 : decode cL_law P = .ok (.aload_n 3, 1)) (d1 : decode cL_law (P + 1) = .ok (.iconst 0, 1)) (d2 : decode cL_law (P + 2) = .ok (.laload, 1)) (d3 : decode cL_law (P + 3) = .ok (.iload 6, 2)) (d4 : decode cL_law (P + 5) = .ok (.i2l, 1)) (d5 : decode cL_law (P + 6) = .ok (.lcmp, 1)) (d6 : decode cL_law (P + 7) = .ok (.ifCond .eq 5, 3))
    (k : W p l e room_1 s m #[Value.ref b] below meth c H locs cells slots Q (F0 m (P + 12) ls [])) : W p l e room_1 s m #[Value.ref b] below meth c H locs cells slots Q (F0 m P ls []) := by
  refine lv_aload_n hx hb d0 rfl l3 ?_
  refine lv_iconst (v := 0) hx hb d1 (by decide) ?_
  refine va_lald hx hb hE.2.1 hPo 0 0 rfl rfl (vp_in_nI (n := 0) (by decide) (by decide)) d2 ?_
  refine lv_iload hx hb d3 l6 ?_
  refine lv_i2l hx hb d4 rfl ?_
  refine lo_lcmpE hx hb (by rw [← hv]; rfl) d5 ?_
  exact lv_if_eq (tgt := P + 12) hx hb d6 (by omega) (fun _ => k) (fun h => absurd rfl h)
theorem lo_cmpZ {f : Nat → Int64} (hx : p.tables.exec = Jvm.exec) (hb : c.code = cL_law) (hE : lE D K s) (hPo : va_P D vwCl (oW K o f) H) (l3 : ls[3]? = some (.val (.ref o))) (l6 : ls[6]? = some (.val (.int rm))) (hv : f 0 = if rm = 0 then 0 else 1)
    (d0 : decode cL_law P = .ok (.aload_n 3, 1)) (d1 : decode cL_law (P + 1) = .ok (.iconst 0, 1)) (d2 : decode cL_law (P + 2) = .ok (.laload, 1)) (d3 : decode cL_law (P + 3) = .ok (.iload 6, 2)) (d4 : decode cL_law (P + 5) = .ok (.ifCond .eq 7, 3)) (d5 : decode cL_law (P + 8) = .ok (.lconst 1, 1)) (d6 : decode cL_law (P + 9) = .ok (.goto 4, 3)) (d7 : decode cL_law (P + 12) = .ok (.lconst 0, 1)) (d8 : decode cL_law (P + 13) = .ok (.lcmp, 1)) (d9 : decode cL_law (P + 14) = .ok (.ifCond .eq 5, 3))
    (k : W p l e room_1 s m #[Value.ref b] below meth c H locs cells slots Q (F0 m (P + 19) ls [])) : W p l e room_1 s m #[Value.ref b] below meth c H locs cells slots Q (F0 m P ls []) := by
  refine lv_aload_n hx hb d0 rfl l3 ?_
  refine lv_iconst (v := 0) hx hb d1 (by decide) ?_
  refine va_lald hx hb hE.2.1 hPo 0 0 rfl rfl (vp_in_nI (n := 0) (by decide) (by decide)) d2 ?_
  refine lv_iload hx hb d3 l6 ?_
  refine lv_if_eq (tgt := P + 12) hx hb d4 (by omega) (fun h => ?_) (fun h => ?_)
  · rw [if_pos h] at hv
    refine lv_lconst (v := 0) hx hb d7 (by decide) ?_
    refine lo_lcmpE hx hb (by rw [← hv]; rfl) d8 ?_
    exact lv_if_eq (tgt := P + 19) hx hb d9 (by omega) (fun _ => k) (fun h => absurd rfl h)
  · rw [if_neg h] at hv
    refine lv_lconst (v := 1) hx hb d5 (by decide) ?_
    refine lv_goto (tgt := P + 13) hx hb d6 (by omega) ?_
    refine lo_lcmpE hx hb (by rw [← hv]; rfl) d8 ?_
    exact lv_if_eq (tgt := P + 19) hx hb d9 (by omega) (fun _ => k) (fun h => absurd rfl h)
end TAIL
