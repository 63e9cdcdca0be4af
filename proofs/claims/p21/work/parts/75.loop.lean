/-! the law's loop -/
section LOOP2
variable {p : Program} {e : Env} {s : State} {m : MethodId} {below : List Frame} {meth : Method} {c : Code} {b L : Nat} {xs : Nat → Int32} {D : va_G} {K : Nat → ClassId} {oa : Nat → Nat} {x : Nat}
theorem lo_exit {l : Launch} {cells slots c0 : Nat} {H : Heap} {locs : List Loc} {ls : Array Slot} (hx : p.tables.exec = Jvm.exec) (hb : c.code = cL_law) (hr : meth.sig.returnType = ret) (hlocks : meth.locks = false) (hS : va_S (fun q => s.heap.size ≤ q) s.heap H locs) (hl : lv_has ls 14 (lL b x oa c0)) (hc0 : c0 ≤ 100) (hc1 : cells ≤ 674069) (hc2 : slots ≤ 7079262)
    (kk : c0 < 100 → W p l e room_1 s m #[Value.ref b] below meth c H locs cells slots (lw_Z below #[Value.ref b] s) (F0 m 57 ls [])) : W p l e room_1 s m #[Value.ref b] below meth c H locs cells slots (lw_Z below #[Value.ref b] s) (F0 m 50 ls []) := by
  refine lv_iload hx hb dL_law_50 (lv_at hl 8 rfl) ?_
  refine lv_bipush (v := 100) hx hb dL_law_52 (by decide) ?_
  refine lv_icmp_ge (tgt := 379) hx hb dL_law_54 (by decide) (fun _ => ?_) (fun h => kk ?_)
  · refine lv_iconst (v := 1) hx hb dL_law_379 (by decide) ?_
    refine va_forget hS.2.2 ?_
    refine W.widen (k := 674069) (n := 7079262) hc1 hc2 ?_
    exact lw_ret hx hb hr hlocks dL_law_380
  · rcases Nat.lt_or_ge c0 100 with q | q
    · exact q
    · exact absurd (show (100 : Int32) ≤ nI c0 from nI_le (a := 100) (b := c0) q (by omega)) h
set_option maxHeartbeats 4000000 in
set_option maxRecDepth 100000 in
theorem lo_loop (l : Launch) (hl0 : l.stackTraces = false) (hx : p.tables.exec = Jvm.exec) (hb : c.code = cL_law) (hr : meth.sig.returnType = ret) (hlocks : meth.locks = false) (hcw : CallFix p m c cL_law 14 s #[Value.ref b] wsL_law RL) (hLE : lE D K s) (hX : va_X b L xs s s.heap) (hbl : b < s.heap.size) (hL : L ≤ 260) :
    ∀ (r c0 : Nat), c0 + r = 100 → ∀ (cells slots : Nat) (H : Heap) (locs : List Loc) (ls : Array Slot) (ad : Nat → Nat → Nat) (n d : Nat) (S : Nat → Nat → Nat → Int32) (M : Nat → Nat → Int32), cells = 20 + 4 * c0 → slots = 500 + 60 * c0 → ad 0 0 = x → lI D K s ad oa n d S M c0 H locs → lv_has ls 14 (lL b x oa c0) →
      W p l e room_1 s m #[Value.ref b] below meth c H locs cells slots (lw_Z below #[Value.ref b] s) (F0 m 50 ls []) := by
  intro r
  induction r with
  | zero =>
    intro c0 hr0 cells slots H locs ls ad n d S M ec es ha I hl
    exact lo_exit hx hb hr hlocks I.2.2.2.2 hl (by omega) (by omega) (by omega) (fun h => by omega)
  | succ r ih =>
    intro c0 hr0 cells slots H locs ls ad n d S M ec es ha I hl
    refine lo_exit hx hb hr hlocks I.2.2.2.2 hl (by omega) (by omega) (by omega) (fun hk => ?_)
    subst ha
    refine lo_turn l hl0 hx hb hcw hLE hX hbl hL hk ⟨by omega, by omega⟩ I hl (fun H2 locs2 ls2 ad2 n2 d2 S2 M2 ha2 I2 hl2 => ?_)
    refine lv_iinc (k := 8) (v := nI (c0 + 1)) hx hb dL_law_373 hl2 rfl (show nI c0 + nI 1 = nI (c0 + 1) by rw [nI_add]) (by decide) rfl (fun ls3 hl3 => ?_)
    refine lv_goto (tgt := 50) hx hb dL_law_376 (by decide) ?_
    exact ih (c0 + 1) (by omega) _ _ H2 locs2 ls3 ad2 n2 d2 S2 M2 (by omega) (by omega) ha2 I2 (lv_sub hl3 [1, 2, 3, 4, 5, 6, 7, 8, 0] rfl)
end LOOP2
