/-! the law's loop -/
theorem lo_len {L : Nat} (h : L ≤ 2048) : (Int32.ofNat L - 4).toInt = (L : Int) - 4 := by
  have e : (Int32.ofNat L).toInt = (L : Int) := nI_toInt (by omega)
  rw [Int32.toInt_sub, e, show (4 : Int32).toInt = 4 from rfl]
  exact Int.bmod_eq_of_le (by omega) (by omega)
section LOOP2
variable {p : Program} {e : Env} {s : State} {m : MethodId} {below : List Frame} {meth : Method} {c : Code} {Q : State → Prop} {b L : Nat} {xs : Nat → Int32} {D : va_G} {K : Nat → ClassId} {am : Nat → Nat} {o x : Nat}
set_option maxHeartbeats 4000000 in
set_option maxRecDepth 100000 in
theorem lo_one (l : Launch) (hl0 : l.stackTraces = false) (hx : p.tables.exec = Jvm.exec) (hb : c.code = cL_law) (hc : CallFix p m c cL_law 7 s #[Value.ref b] lw_tbl RL) (hts : ∀ w ∈ wsL_law, w.before #[Value.ref b] s = true) (hE : lE D K s) (hX : va_X b L xs s s.heap) (hbl : b < s.heap.size) (hL : L ≤ 2048)
    {cells slots k4 c0 : Nat} {H : Heap} {locs : List Loc} {ls : Array Slot} {ad : Nat → Nat → Nat} {f : Nat → Int64} {th : Int32} {n d : Nat} {S : Nat → Nat → Nat → Int32} {M : Nat → Nat → Int32} (ha : ad 0 0 = x)
    (hk : k4 + 4 ≤ L) (hc0 : c0 < 1000) (hcs : cells + 4 ≤ 601024 ∧ slots + 60 ≤ 7293034) (I : lI D K s ad am o f th n d S M c0 H locs) (hl : lv_has ls 7 (lL b x (am 0) o k4)) (kk : lKK p l e s m below meth c Q b D K am o k4 (c0 + 1) x (cells + 4) (slots + 60)) : W p l e room_1 s m #[Value.ref b] below meth c H locs cells slots Q (F0 m 32 ls []) := by
  subst ha
  have hS := I.2.2.2.2.2.2.2
  refine lv_aload_n hx hb dL_law_32 rfl (lv_at hl 0 rfl) ?_
  refine lv_iload hx hb dL_law_33 (lv_at hl 4 rfl) ?_
  refine va_sld hx hb hX hbl (by omega) hS (vp_in_nI (by omega) (by omega)) dL_law_35 ?_
  refine lv_bipush (v := 31) hx hb dL_law_36 (by decide) ?_
  refine lv_iand hx hb dL_law_38 ?_
  generalize xs (nI k4).toNatClampNeg &&& 31 = w
  by_cases h0 : w.toInt < 0 ∨ 17 < w.toInt
  · refine lv_tableOut (tgt := 1240) hx hb dL_law_39 h0 (by decide) ?_
    refine W.widen (k := cells + 4) (n := slots + 60) (by omega) (by omega) ?_
    exact kk H locs ls ad f th n d S M rfl ⟨I.1, I.2.1.mono, I.2.2⟩ hl
  · have h1 : ¬ w.toInt < 0 := fun q => h0 (Or.inl q)
    have h2 : ¬ (17 : Int) < w.toInt := fun q => h0 (Or.inr q)
    rcases (show w.toInt = 0 ∨ w.toInt = 1 ∨ w.toInt = 2 ∨ w.toInt = 3 ∨ w.toInt = 4 ∨ w.toInt = 5 ∨ w.toInt = 6 ∨ w.toInt = 7 ∨ w.toInt = 8 ∨ w.toInt = 9 ∨ w.toInt = 10 ∨ w.toInt = 11 ∨ w.toInt = 12 ∨ w.toInt = 13 ∨ w.toInt = 14 ∨ w.toInt = 15 ∨ w.toInt = 16 ∨ w.toInt = 17 by omega) with hj | hj | hj | hj | hj | hj | hj | hj | hj | hj | hj | hj | hj | hj | hj | hj | hj | hj
    · exact lv_tableIn (off := 85) (tgt := 124) hx hb dL_law_39 h1 h2 (by rw [hj]; rfl) (by decide) (lk_open l hl0 hx hb hc hts hE hX hbl hL hk hc0 hcs I hl kk)
    · exact lv_tableIn (off := 129) (tgt := 168) hx hb dL_law_39 h1 h2 (by rw [hj]; rfl) (by decide) (lk_bid l hl0 hx hb hc hts hE hX hbl hL hk hc0 hcs I hl kk)
    · exact lv_tableIn (off := 209) (tgt := 248) hx hb dL_law_39 h1 h2 (by rw [hj]; rfl) (by decide) (lk_withdraw l hl0 hx hb hc hts hE hX hbl hL hk hc0 hcs I hl kk)
    · exact lv_tableIn (off := 277) (tgt := 316) hx hb dL_law_39 h1 h2 (by rw [hj]; rfl) (by decide) (lk_award l hl0 hx hb hc hts hE hX hbl hL hk hc0 hcs I hl kk)
    · exact lv_tableIn (off := 333) (tgt := 372) hx hb dL_law_39 h1 h2 (by rw [hj]; rfl) (by decide) (lk_passOn l hl0 hx hb hc hts hE hX hbl hL hk hc0 hcs I hl kk)
    · exact lv_tableIn (off := 413) (tgt := 452) hx hb dL_law_39 h1 h2 (by rw [hj]; rfl) (by decide) (lk_turnover l hl0 hx hb hc hts hE hX hbl hL hk hc0 hcs I hl kk)
    · exact lv_tableIn (off := 469) (tgt := 508) hx hb dL_law_39 h1 h2 (by rw [hj]; rfl) (by decide) (lk_won l hl0 hx hb hc hts hE hX hbl hL hk hc0 hcs I hl kk)
    · exact lv_tableIn (off := 525) (tgt := 564) hx hb dL_law_39 h1 h2 (by rw [hj]; rfl) (by decide) (lk_suspicion l hl0 hx hb hc hts hE hX hbl hL hk hc0 hcs I hl kk)
    · exact lv_tableIn (off := 593) (tgt := 632) hx hb dL_law_39 h1 h2 (by rw [hj]; rfl) (by decide) (lk_sign l hl0 hx hb hc hts hE hX hbl hL hk hc0 hcs I hl kk)
    · exact lv_tableIn (off := 673) (tgt := 712) hx hb dL_law_39 h1 h2 (by rw [hj]; rfl) (by decide) (lk_setMark l hl0 hx hb hc hts hE hX hbl hL hk hc0 hcs I hl kk)
    · exact lv_tableIn (off := 729) (tgt := 768) hx hb dL_law_39 h1 h2 (by rw [hj]; rfl) (by decide) (lk_worst l hl0 hx hb hc hts hE hX hbl hL hk hc0 hcs I hl kk)
    · exact lv_tableIn (off := 742) (tgt := 781) hx hb dL_law_39 h1 h2 (by rw [hj]; rfl) (by decide) (lk_file l hl0 hx hb hc hts hE hX hbl hL hk hc0 hcs I hl kk)
    · exact lv_tableIn (off := 810) (tgt := 849) hx hb dL_law_39 h1 h2 (by rw [hj]; rfl) (by decide) (lk_matters l hl0 hx hb hc hts hE hX hbl hL hk hc0 hcs I hl kk)
    · exact lv_tableIn (off := 866) (tgt := 905) hx hb dL_law_39 h1 h2 (by rw [hj]; rfl) (by decide) (lk_tell l hl0 hx hb hc hts hE hX hbl hL hk hc0 hcs I hl kk)
    · exact lv_tableIn (off := 953) (tgt := 992) hx hb dL_law_39 h1 h2 (by rw [hj]; rfl) (by decide) (lk_compensate l hl0 hx hb hc hts hE hX hbl hL hk hc0 hcs I hl kk)
    · exact lv_tableIn (off := 1021) (tgt := 1060) hx hb dL_law_39 h1 h2 (by rw [hj]; rfl) (by decide) (lk_close l hl0 hx hb hc hts hE hX hbl hL hk hc0 hcs I hl kk)
    · exact lv_tableIn (off := 1077) (tgt := 1116) hx hb dL_law_39 h1 h2 (by rw [hj]; rfl) (by decide) (lk_fine l hl0 hx hb hc hts hE hX hbl hL hk hc0 hcs I hl kk)
    · exact lv_tableIn (off := 1145) (tgt := 1184) hx hb dL_law_39 h1 h2 (by rw [hj]; rfl) (by decide) (lk_firstTeller l hl0 hx hb hc hts hE hX hbl hL hk hc0 hcs I hl kk)
theorem lo_exit {l : Launch} {cells slots k4 : Nat} {H : Heap} {locs : List Loc} {ls : Array Slot} (hx : p.tables.exec = Jvm.exec) (hb : c.code = cL_law) (hr : meth.sig.returnType = ret) (hlocks : meth.locks = false) (hX : va_X b L xs s s.heap) (hbl : b < s.heap.size) (hL : L ≤ 2048) (hS : va_S (fun q => s.heap.size ≤ q) s.heap H locs) (hl : lv_has ls 7 (lL b x (am 0) o k4)) (hk4 : k4 ≤ 4096) (hc1 : cells ≤ 601024) (hc2 : slots ≤ 7293034)
    (kk : k4 + 4 ≤ L → W p l e room_1 s m #[Value.ref b] below meth c H locs cells slots (lw_Z below #[Value.ref b] s) (F0 m 32 ls [])) : W p l e room_1 s m #[Value.ref b] below meth c H locs cells slots (lw_Z below #[Value.ref b] s) (F0 m 23 ls []) := by
  refine lv_iload hx hb dL_law_23 (lv_at hl 4 rfl) ?_
  refine lv_aload_n hx hb dL_law_25 rfl (lv_at hl 0 rfl) ?_
  refine va_slen hx hb hX hbl (by omega) hS dL_law_26 ?_
  refine lv_iconst (v := 4) hx hb dL_law_27 (by decide) ?_
  refine lv_isub hx hb dL_law_28 ?_
  refine lv_icmp_gt (tgt := 1246) hx hb dL_law_29 (by decide) (fun _ => ?_) (fun h => kk ?_)
  · refine lv_iconst (v := 1) hx hb dL_law_1246 (by decide) ?_
    refine va_forget hS.2.2 ?_
    refine W.widen (k := 601024) (n := 7293034) hc1 hc2 ?_
    exact lw_ret hx hb hr hlocks dL_law_1247
  · have h1 : ¬ (Int32.ofNat L - 4).toInt < (nI k4).toInt := fun q => h (Int32.lt_iff_toInt_lt.mpr q)
    rw [lo_len hL, nI_toInt (by omega)] at h1
    omega
set_option maxHeartbeats 4000000 in
set_option maxRecDepth 100000 in
theorem lo_loop (l : Launch) (hl0 : l.stackTraces = false) (hx : p.tables.exec = Jvm.exec) (hb : c.code = cL_law) (hr : meth.sig.returnType = ret) (hlocks : meth.locks = false) (hc : CallFix p m c cL_law 7 s #[Value.ref b] lw_tbl RL) (hts : ∀ w ∈ wsL_law, w.before #[Value.ref b] s = true) (hE : lE D K s) (hX : va_X b L xs s s.heap) (hbl : b < s.heap.size) (hL : L ≤ 2048) :
    ∀ (r c0 : Nat), L + 4 ≤ 4 * c0 + 4 * r → 4 * c0 ≤ 2048 → ∀ (cells slots : Nat) (H : Heap) (locs : List Loc) (ls : Array Slot) (ad : Nat → Nat → Nat) (f : Nat → Int64) (th : Int32) (n d : Nat) (S : Nat → Nat → Nat → Int32) (M : Nat → Nat → Int32), cells = 30 + 4 * c0 → slots = 1200 + 60 * c0 → ad 0 0 = x → lI D K s ad am o f th n d S M c0 H locs → lv_has ls 7 (lL b x (am 0) o (4 * c0)) →
      W p l e room_1 s m #[Value.ref b] below meth c H locs cells slots (lw_Z below #[Value.ref b] s) (F0 m 23 ls []) := by
  intro r
  induction r with
  | zero =>
    intro c0 hr0 hc0 cells slots H locs ls ad f th n d S M ec es ha I hl
    exact lo_exit hx hb hr hlocks hX hbl hL I.2.2.2.2.2.2.2 hl (by omega) (by omega) (by omega) (fun h => by omega)
  | succ r ih =>
    intro c0 hr0 hc0 cells slots H locs ls ad f th n d S M ec es ha I hl
    refine lo_exit hx hb hr hlocks hX hbl hL I.2.2.2.2.2.2.2 hl (by omega) (by omega) (by omega) (fun hk => ?_)
    refine lo_one (x := x) l hl0 hx hb hc hts hE hX hbl hL ha hk (by omega) ⟨by omega, by omega⟩ I hl (fun H2 locs2 ls2 ad2 f2 th2 n2 d2 S2 M2 ha2 I2 hl2 => ?_)
    refine lv_iinc (k := 4) (v := nI (4 * (c0 + 1))) hx hb dL_law_1240 hl2 rfl (show nI (4 * c0) + nI 4 = nI (4 * (c0 + 1)) by rw [nI_add]; rfl) (by decide) rfl (fun ls3 hl3 => ?_)
    refine lv_goto (tgt := 23) hx hb dL_law_1243 (by decide) ?_
    exact ih (c0 + 1) (by omega) (by omega) _ _ H2 locs2 ls3 ad2 f2 th2 n2 d2 S2 M2 (by omega) (by omega) ha2 I2 (lv_sub hl3 [1, 2, 3, 4, 0] rfl)
end LOOP2
