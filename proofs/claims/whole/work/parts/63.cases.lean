/-! a case of the law each -/
abbrev lL (b x a o k4 : Nat) : List (Nat × Value) := [(0, .ref b), (1, .ref x), (2, .ref a), (3, .ref o), (4, .int (nI k4))]
def lKK (p : Program) (l : Launch) (e : Env) (s : State) (m : MethodId) (below : List Frame) (meth : Method) (c : Code) (Q : State → Prop) (b : Nat) (D : va_G) (K : Nat → ClassId) (am : Nat → Nat) (o k4 c0 x cells slots : Nat) : Prop :=
  ∀ (H : Heap) (locs : List Loc) (ls : Array Slot) (ad : Nat → Nat → Nat) (f : Nat → Int64) (th : Int32) (n d : Nat) (S : Nat → Nat → Nat → Int32) (M : Nat → Nat → Int32), ad 0 0 = x → lI D K s ad am o f th n d S M c0 H locs → lv_has ls 7 (lL b x (am 0) o k4) → W p l e room_1 s m #[Value.ref b] below meth c H locs cells slots Q (F0 m 1240 ls [])
theorem lI_mod {D : va_G} {K : Nat → ClassId} {s : State} {ad : Nat → Nat → Nat} {am : Nat → Nat} {o : Nat} {f : Nat → Int64} {th tm : Int32} {n d c0 : Nat} {S : Nat → Nat → Nat → Int32} {M M2 : Nat → Nat → Int32} {H H2 : Heap} {locs locs2 : List Loc} (I : lI D K s ad am o f th n d S M c0 H locs) (hz2 : H.size ≤ H2.size)
    (hk2 : ∀ q : Nat, q < H.size → ¬ va_A (mW K am th M) H.size q → H2[q]? = H[q]?) (hP2 : va_P D vwCl (mW K am tm M2) H2) (hD2 : va_D (va_A (mW K am th M) H.size) (mW K am tm M2)) (hS2 : va_S (fun q => s.heap.size ≤ q) s.heap H2 locs2) (hR : Rel n d S M2 (c0 + 1)) : lI D K s ad am o f tm n d S M2 (c0 + 1) H2 locs2 := by
  obtain ⟨⟨a1, a2, a3, a4, a5, a6, a7⟩, -, hDJ, hXP, hPm, hPo, hDm, hS⟩ := I
  have hnA : ∀ q : Nat, q < H.size → (∀ j, q ≠ am j) → H2[q]? = H[q]? := fun q h1 h2 => hk2 q h1 (by
    rintro (⟨i, x, hx⟩ | h)
    · obtain ⟨j, ej⟩ := mW_ad hx
      exact h2 j ej
    · omega)
  exact ⟨⟨a1, fun j => ⟨(a2 j).1, by have := (a2 j).2; omega⟩, a3, by omega, a5, a6, a7⟩, hR, hDJ, XP_keep hXP (fun k i h => hnA _ h (fun j => a6 k i j)), hP2, hPo.kept (fun k q hq => by rw [oW_ad hq]; exact hnA o a4 (fun j h => a7 j h.symm)), hD2.weaken (fun _ _ _ _ => trivial), hS2⟩
theorem lI_free {D : va_G} {K : Nat → ClassId} {s : State} {ad : Nat → Nat → Nat} {am : Nat → Nat} {o : Nat} {f : Nat → Int64} {th : Int32} {n d c0 : Nat} {S : Nat → Nat → Nat → Int32} {M : Nat → Nat → Int32} {H H1 : Heap} {locs : List Loc} (I : lI D K s ad am o f th n d S M c0 H locs) (hz : s.heap.size ≤ H1.size) : ∀ q, va_A (mW K am th M) H1.size q → s.heap.size ≤ q := by
  rintro q (⟨i, x, hx⟩ | h)
  · obtain ⟨j, ej⟩ := mW_ad hx
    have e : q = am j := ej
    rw [e]; exact (I.1.2.1 j).1
  · omega

set_option maxHeartbeats 4000000 in
set_option maxRecDepth 100000 in
theorem lk_open {p : Program} {e : Env} {s : State} {m : MethodId} {below : List Frame} {meth : Method} {c : Code} {H : Heap} {locs : List Loc} {cells slots : Nat} {Q : State → Prop} {b L k4 c0 : Nat} {xs : Nat → Int32} {D : va_G} {K : Nat → ClassId} {ls : Array Slot} {ad : Nat → Nat → Nat} {am : Nat → Nat} {o : Nat} {f : Nat → Int64} {th : Int32} {n d : Nat} {S : Nat → Nat → Nat → Int32} {M : Nat → Nat → Int32} (l : Launch) (hl0 : l.stackTraces = false) (hx : p.tables.exec = Jvm.exec) (hb : c.code = cL_law) (hc : CallFix p m c cL_law 7 s #[Value.ref b] lw_tbl RL) (hts : ∀ w ∈ wsL_law, w.before #[Value.ref b] s = true) (hE : lE D K s) (hX : va_X b L xs s s.heap) (hbl : b < s.heap.size) (hL : L ≤ 2048) (hk : k4 + 4 ≤ L) (hc0 : c0 < 1000) (hcs : cells + 4 ≤ 601024 ∧ slots + 60 ≤ 7293034) (I : lI D K s ad am o f th n d S M c0 H locs) (hl : lv_has ls 7 (lL b (ad 0 0) (am 0) o k4)) (kk : lKK p l e s m below meth c Q b D K am o k4 (c0 + 1) (ad 0 0) (cells + 4) (slots + 60)) : W p l e room_1 s m #[Value.ref b] below meth c H locs cells slots Q (F0 m 124 ls []) := by
  have hS := I.2.2.2.2.2.2.2
  have hcw : CallFix p m c cL_law 7 s #[Value.ref b] wsL_law RL := ⟨hc.1, hc.2.1, hc.2.2.1, hc.2.2.2.1, hts⟩
  have hcs0 : cells ≤ 601024 ∧ slots ≤ 7293034 := ⟨by omega, by omega⟩
  refine lv_aload_n hx hb dL_law_124 rfl (lv_at hl 1 rfl) ?_
  refine lv_aload_n hx hb dL_law_125 rfl (lv_at hl 3 rfl) ?_
  refine lc_S (As := [.ref (ad 0 0), .ref o]) (rest := []) hcw (c_L_open l hl0 D K H.size ad n d S o f I.2.2.1 I.1.2.2.2.2.1) (vx_cwSW 2 hts gL_law_L_open rfl rfl rfl (by decide +kernel) ⟨(Nat.le_of_ble_eq_true rfl), (Nat.le_of_ble_eq_true rfl)⟩) hE I rfl rfl hl.1 (Nat.le_of_ble_eq_true rfl) dL_law_126 hcs (fun H1 locs1 hz1 hB hPm hS1 => ?_)
  refine lv_istore hx hb dL_law_129 hl (by decide) rfl (fun ls hl => ?_)
  refine lv_aload_n hx hb dL_law_131 rfl (lv_at hl 3 rfl) ?_
  refine ef_Vi (As := []) (rest := []) hcw (c_X3_open l D K H1.size am th M n d I.2.1.mok) (cwV 0 hts gL_law_X3_open rfl rfl rfl (by decide +kernel) ⟨(Nat.le_of_ble_eq_true rfl), (Nat.le_of_ble_eq_true rfl)⟩) hPm I.2.2.2.2.2.2.1 hE.1 hE.2.2.1 (va_recv hE.1 hPm (ci := 3) (q0 := 0) rfl rfl) rfl rfl hl.1 (Nat.le_of_ble_eq_true rfl) dL_law_132 hcs hS1 (lI_free I hS1.1) (fun H2 locs2 hP2 hD2 hz2 hk2 hS2 => ?_)
  refine lv_istore hx hb dL_law_135 hl (by decide) rfl (fun ls hl => ?_)
  obtain ⟨t1, t2, t3⟩ := lI_step I hz1 (hB.to (fun h => h)) hz2 hk2 hP2 hD2 hS2 (step_open I.2.1 hc0 )
  refine lo_head (P := 137) (tgt := 165) hx hb hc hts hE hP2 hcs hl (lv_at hl 4 rfl) (lv_at hl 1 rfl) t1 (by decide) dL_law_137 dL_law_138 dL_law_141 dL_law_143 dL_law_148 dL_law_150 (fun h0 => ?_) (fun h0 => ?_)
  · obtain ⟨hrm, ad2, ha, I2⟩ := t2 h0
    refine lo_cmp (P := 153) hx hb hE I2.2.2.2.2.2.1 (lv_at hl 5 rfl) (lv_at hl 0 rfl) (by rw [hrm]; exact if_pos rfl) dL_law_153 dL_law_154 dL_law_155 dL_law_156 dL_law_158 dL_law_159 dL_law_160 ?_
    refine lv_goto (tgt := 1240) hx hb dL_law_165 (by decide) ?_
    exact kk H2 locs2 ls ad2 _ _ _ _ _ _ ha I2 (lv_sub hl [2, 3, 4, 5, 6] rfl)
  · refine lv_goto (tgt := 1240) hx hb dL_law_165 (by decide) ?_
    exact kk H2 locs2 ls ad _ _ _ _ _ _ rfl (t3 h0) (lv_sub hl [2, 3, 4, 5, 6] rfl)

set_option maxHeartbeats 4000000 in
set_option maxRecDepth 100000 in
theorem lk_bid {p : Program} {e : Env} {s : State} {m : MethodId} {below : List Frame} {meth : Method} {c : Code} {H : Heap} {locs : List Loc} {cells slots : Nat} {Q : State → Prop} {b L k4 c0 : Nat} {xs : Nat → Int32} {D : va_G} {K : Nat → ClassId} {ls : Array Slot} {ad : Nat → Nat → Nat} {am : Nat → Nat} {o : Nat} {f : Nat → Int64} {th : Int32} {n d : Nat} {S : Nat → Nat → Nat → Int32} {M : Nat → Nat → Int32} (l : Launch) (hl0 : l.stackTraces = false) (hx : p.tables.exec = Jvm.exec) (hb : c.code = cL_law) (hc : CallFix p m c cL_law 7 s #[Value.ref b] lw_tbl RL) (hts : ∀ w ∈ wsL_law, w.before #[Value.ref b] s = true) (hE : lE D K s) (hX : va_X b L xs s s.heap) (hbl : b < s.heap.size) (hL : L ≤ 2048) (hk : k4 + 4 ≤ L) (hc0 : c0 < 1000) (hcs : cells + 4 ≤ 601024 ∧ slots + 60 ≤ 7293034) (I : lI D K s ad am o f th n d S M c0 H locs) (hl : lv_has ls 7 (lL b (ad 0 0) (am 0) o k4)) (kk : lKK p l e s m below meth c Q b D K am o k4 (c0 + 1) (ad 0 0) (cells + 4) (slots + 60)) : W p l e room_1 s m #[Value.ref b] below meth c H locs cells slots Q (F0 m 168 ls []) := by
  have hS := I.2.2.2.2.2.2.2
  have hcw : CallFix p m c cL_law 7 s #[Value.ref b] wsL_law RL := ⟨hc.1, hc.2.1, hc.2.2.1, hc.2.2.2.1, hts⟩
  have hcs0 : cells ≤ 601024 ∧ slots ≤ 7293034 := ⟨by omega, by omega⟩
  refine lv_aload_n hx hb dL_law_168 rfl (lv_at hl 1 rfl) ?_
  refine lo_arg (j := 1) hx hb hX hbl hS hL hk (by decide) (by decide) (lv_at hl 0 rfl) (lv_at hl 4 rfl) dL_law_169 dL_law_170 dL_law_172 dL_law_173 dL_law_174 ?_
  refine lo_arg (j := 2) hx hb hX hbl hS hL hk (by decide) (by decide) (lv_at hl 0 rfl) (lv_at hl 4 rfl) dL_law_175 dL_law_176 dL_law_178 dL_law_179 dL_law_180 ?_
  refine lo_arg (j := 3) hx hb hX hbl hS hL hk (by decide) (by decide) (lv_at hl 0 rfl) (lv_at hl 4 rfl) dL_law_181 dL_law_182 dL_law_184 dL_law_185 dL_law_186 ?_
  refine lv_aload_n hx hb dL_law_187 rfl (lv_at hl 3 rfl) ?_
  refine lc_S (As := [.ref (ad 0 0), .int (xs (k4 + 1)), .int (xs (k4 + 2)), .int (xs (k4 + 3)), .ref o]) (rest := []) hcw (c_L_bid l hl0 D K H.size ad n d S o f (xs (k4 + 1)) (xs (k4 + 2)) (xs (k4 + 3)) I.2.2.1 I.1.2.2.2.2.1) (vx_cwSW 5 hts gL_law_L_bid rfl rfl rfl (by decide +kernel) ⟨(Nat.le_of_ble_eq_true rfl), (Nat.le_of_ble_eq_true rfl)⟩) hE I rfl rfl hl.1 (Nat.le_of_ble_eq_true rfl) dL_law_188 hcs (fun H1 locs1 hz1 hB hPm hS1 => ?_)
  refine lv_istore hx hb dL_law_191 hl (by decide) rfl (fun ls hl => ?_)
  refine lv_aload_n hx hb dL_law_193 rfl (lv_at hl 3 rfl) ?_
  refine lo_arg (j := 1) hx hb hX hbl hS1 hL hk (by decide) (by decide) (lv_at hl 1 rfl) (lv_at hl 5 rfl) dL_law_194 dL_law_195 dL_law_197 dL_law_198 dL_law_199 ?_
  refine lo_arg (j := 2) hx hb hX hbl hS1 hL hk (by decide) (by decide) (lv_at hl 1 rfl) (lv_at hl 5 rfl) dL_law_200 dL_law_201 dL_law_203 dL_law_204 dL_law_205 ?_
  refine lo_arg (j := 3) hx hb hX hbl hS1 hL hk (by decide) (by decide) (lv_at hl 1 rfl) (lv_at hl 5 rfl) dL_law_206 dL_law_207 dL_law_209 dL_law_210 dL_law_211 ?_
  refine ef_Vi (As := [.int (xs (k4 + 1)), .int (xs (k4 + 2)), .int (xs (k4 + 3))]) (rest := []) hcw (c_X3_bid l D K H1.size am th M n d (xs (k4 + 1)) (xs (k4 + 2)) (xs (k4 + 3)) I.2.1.mok) (cwV 3 hts gL_law_X3_bid rfl rfl rfl (by decide +kernel) ⟨(Nat.le_of_ble_eq_true rfl), (Nat.le_of_ble_eq_true rfl)⟩) hPm I.2.2.2.2.2.2.1 hE.1 hE.2.2.1 (va_recv hE.1 hPm (ci := 3) (q0 := 0) rfl rfl) rfl rfl hl.1 (Nat.le_of_ble_eq_true rfl) dL_law_212 hcs hS1 (lI_free I hS1.1) (fun H2 locs2 hP2 hD2 hz2 hk2 hS2 => ?_)
  refine lv_istore hx hb dL_law_215 hl (by decide) rfl (fun ls hl => ?_)
  obtain ⟨t1, t2, t3⟩ := lI_step I hz1 (hB.to (fun h => lB.refl I.2.2.1 h)) hz2 hk2 hP2 hD2 hS2 (step_bid I.2.1 hc0 (xs (k4 + 1)) (xs (k4 + 2)) (xs (k4 + 3)))
  refine lo_head (P := 217) (tgt := 245) hx hb hc hts hE hP2 hcs hl (lv_at hl 4 rfl) (lv_at hl 1 rfl) t1 (by decide) dL_law_217 dL_law_218 dL_law_221 dL_law_223 dL_law_228 dL_law_230 (fun h0 => ?_) (fun h0 => ?_)
  · obtain ⟨hrm, ad2, ha, I2⟩ := t2 h0
    refine lo_cmp (P := 233) hx hb hE I2.2.2.2.2.2.1 (lv_at hl 5 rfl) (lv_at hl 0 rfl) (by rw [hrm]; exact if_pos rfl) dL_law_233 dL_law_234 dL_law_235 dL_law_236 dL_law_238 dL_law_239 dL_law_240 ?_
    refine lv_goto (tgt := 1240) hx hb dL_law_245 (by decide) ?_
    exact kk H2 locs2 ls ad2 _ _ _ _ _ _ ha I2 (lv_sub hl [2, 3, 4, 5, 6] rfl)
  · refine lv_goto (tgt := 1240) hx hb dL_law_245 (by decide) ?_
    exact kk H2 locs2 ls ad _ _ _ _ _ _ rfl (t3 h0) (lv_sub hl [2, 3, 4, 5, 6] rfl)

set_option maxHeartbeats 4000000 in
set_option maxRecDepth 100000 in
theorem lk_withdraw {p : Program} {e : Env} {s : State} {m : MethodId} {below : List Frame} {meth : Method} {c : Code} {H : Heap} {locs : List Loc} {cells slots : Nat} {Q : State → Prop} {b L k4 c0 : Nat} {xs : Nat → Int32} {D : va_G} {K : Nat → ClassId} {ls : Array Slot} {ad : Nat → Nat → Nat} {am : Nat → Nat} {o : Nat} {f : Nat → Int64} {th : Int32} {n d : Nat} {S : Nat → Nat → Nat → Int32} {M : Nat → Nat → Int32} (l : Launch) (hl0 : l.stackTraces = false) (hx : p.tables.exec = Jvm.exec) (hb : c.code = cL_law) (hc : CallFix p m c cL_law 7 s #[Value.ref b] lw_tbl RL) (hts : ∀ w ∈ wsL_law, w.before #[Value.ref b] s = true) (hE : lE D K s) (hX : va_X b L xs s s.heap) (hbl : b < s.heap.size) (hL : L ≤ 2048) (hk : k4 + 4 ≤ L) (hc0 : c0 < 1000) (hcs : cells + 4 ≤ 601024 ∧ slots + 60 ≤ 7293034) (I : lI D K s ad am o f th n d S M c0 H locs) (hl : lv_has ls 7 (lL b (ad 0 0) (am 0) o k4)) (kk : lKK p l e s m below meth c Q b D K am o k4 (c0 + 1) (ad 0 0) (cells + 4) (slots + 60)) : W p l e room_1 s m #[Value.ref b] below meth c H locs cells slots Q (F0 m 248 ls []) := by
  have hS := I.2.2.2.2.2.2.2
  have hcw : CallFix p m c cL_law 7 s #[Value.ref b] wsL_law RL := ⟨hc.1, hc.2.1, hc.2.2.1, hc.2.2.2.1, hts⟩
  have hcs0 : cells ≤ 601024 ∧ slots ≤ 7293034 := ⟨by omega, by omega⟩
  refine lv_aload_n hx hb dL_law_248 rfl (lv_at hl 1 rfl) ?_
  refine lo_arg (j := 1) hx hb hX hbl hS hL hk (by decide) (by decide) (lv_at hl 0 rfl) (lv_at hl 4 rfl) dL_law_249 dL_law_250 dL_law_252 dL_law_253 dL_law_254 ?_
  refine lo_arg (j := 2) hx hb hX hbl hS hL hk (by decide) (by decide) (lv_at hl 0 rfl) (lv_at hl 4 rfl) dL_law_255 dL_law_256 dL_law_258 dL_law_259 dL_law_260 ?_
  refine lv_aload_n hx hb dL_law_261 rfl (lv_at hl 3 rfl) ?_
  refine lc_S (As := [.ref (ad 0 0), .int (xs (k4 + 1)), .int (xs (k4 + 2)), .ref o]) (rest := []) hcw (c_L_withdraw l hl0 D K H.size ad n d S o f (xs (k4 + 1)) (xs (k4 + 2)) I.2.2.1 I.1.2.2.2.2.1) (vx_cwSW 4 hts gL_law_L_withdraw rfl rfl rfl (by decide +kernel) ⟨(Nat.le_of_ble_eq_true rfl), (Nat.le_of_ble_eq_true rfl)⟩) hE I rfl rfl hl.1 (Nat.le_of_ble_eq_true rfl) dL_law_262 hcs (fun H1 locs1 hz1 hB hPm hS1 => ?_)
  refine lv_istore hx hb dL_law_265 hl (by decide) rfl (fun ls hl => ?_)
  refine lv_aload_n hx hb dL_law_267 rfl (lv_at hl 3 rfl) ?_
  refine lo_arg (j := 1) hx hb hX hbl hS1 hL hk (by decide) (by decide) (lv_at hl 1 rfl) (lv_at hl 5 rfl) dL_law_268 dL_law_269 dL_law_271 dL_law_272 dL_law_273 ?_
  refine lo_arg (j := 2) hx hb hX hbl hS1 hL hk (by decide) (by decide) (lv_at hl 1 rfl) (lv_at hl 5 rfl) dL_law_274 dL_law_275 dL_law_277 dL_law_278 dL_law_279 ?_
  refine ef_Vi (As := [.int (xs (k4 + 1)), .int (xs (k4 + 2))]) (rest := []) hcw (c_X3_withdraw l D K H1.size am th M n d (xs (k4 + 1)) (xs (k4 + 2)) I.2.1.mok) (cwV 2 hts gL_law_X3_withdraw rfl rfl rfl (by decide +kernel) ⟨(Nat.le_of_ble_eq_true rfl), (Nat.le_of_ble_eq_true rfl)⟩) hPm I.2.2.2.2.2.2.1 hE.1 hE.2.2.1 (va_recv hE.1 hPm (ci := 3) (q0 := 0) rfl rfl) rfl rfl hl.1 (Nat.le_of_ble_eq_true rfl) dL_law_280 hcs hS1 (lI_free I hS1.1) (fun H2 locs2 hP2 hD2 hz2 hk2 hS2 => ?_)
  refine lv_istore hx hb dL_law_283 hl (by decide) rfl (fun ls hl => ?_)
  obtain ⟨t1, t2, t3⟩ := lI_step I hz1 (hB.to (fun h => lB.refl I.2.2.1 h)) hz2 hk2 hP2 hD2 hS2 (step_withdraw I.2.1 hc0 (xs (k4 + 1)) (xs (k4 + 2)))
  refine lo_head (P := 285) (tgt := 313) hx hb hc hts hE hP2 hcs hl (lv_at hl 4 rfl) (lv_at hl 1 rfl) t1 (by decide) dL_law_285 dL_law_286 dL_law_289 dL_law_291 dL_law_296 dL_law_298 (fun h0 => ?_) (fun h0 => ?_)
  · obtain ⟨hrm, ad2, ha, I2⟩ := t2 h0
    refine lo_cmp (P := 301) hx hb hE I2.2.2.2.2.2.1 (lv_at hl 5 rfl) (lv_at hl 0 rfl) (by rw [hrm]; exact if_pos rfl) dL_law_301 dL_law_302 dL_law_303 dL_law_304 dL_law_306 dL_law_307 dL_law_308 ?_
    refine lv_goto (tgt := 1240) hx hb dL_law_313 (by decide) ?_
    exact kk H2 locs2 ls ad2 _ _ _ _ _ _ ha I2 (lv_sub hl [2, 3, 4, 5, 6] rfl)
  · refine lv_goto (tgt := 1240) hx hb dL_law_313 (by decide) ?_
    exact kk H2 locs2 ls ad _ _ _ _ _ _ rfl (t3 h0) (lv_sub hl [2, 3, 4, 5, 6] rfl)

set_option maxHeartbeats 4000000 in
set_option maxRecDepth 100000 in
theorem lk_award {p : Program} {e : Env} {s : State} {m : MethodId} {below : List Frame} {meth : Method} {c : Code} {H : Heap} {locs : List Loc} {cells slots : Nat} {Q : State → Prop} {b L k4 c0 : Nat} {xs : Nat → Int32} {D : va_G} {K : Nat → ClassId} {ls : Array Slot} {ad : Nat → Nat → Nat} {am : Nat → Nat} {o : Nat} {f : Nat → Int64} {th : Int32} {n d : Nat} {S : Nat → Nat → Nat → Int32} {M : Nat → Nat → Int32} (l : Launch) (hl0 : l.stackTraces = false) (hx : p.tables.exec = Jvm.exec) (hb : c.code = cL_law) (hc : CallFix p m c cL_law 7 s #[Value.ref b] lw_tbl RL) (hts : ∀ w ∈ wsL_law, w.before #[Value.ref b] s = true) (hE : lE D K s) (hX : va_X b L xs s s.heap) (hbl : b < s.heap.size) (hL : L ≤ 2048) (hk : k4 + 4 ≤ L) (hc0 : c0 < 1000) (hcs : cells + 4 ≤ 601024 ∧ slots + 60 ≤ 7293034) (I : lI D K s ad am o f th n d S M c0 H locs) (hl : lv_has ls 7 (lL b (ad 0 0) (am 0) o k4)) (kk : lKK p l e s m below meth c Q b D K am o k4 (c0 + 1) (ad 0 0) (cells + 4) (slots + 60)) : W p l e room_1 s m #[Value.ref b] below meth c H locs cells slots Q (F0 m 316 ls []) := by
  have hS := I.2.2.2.2.2.2.2
  have hcw : CallFix p m c cL_law 7 s #[Value.ref b] wsL_law RL := ⟨hc.1, hc.2.1, hc.2.2.1, hc.2.2.2.1, hts⟩
  have hcs0 : cells ≤ 601024 ∧ slots ≤ 7293034 := ⟨by omega, by omega⟩
  refine lv_aload_n hx hb dL_law_316 rfl (lv_at hl 1 rfl) ?_
  refine lo_arg (j := 1) hx hb hX hbl hS hL hk (by decide) (by decide) (lv_at hl 0 rfl) (lv_at hl 4 rfl) dL_law_317 dL_law_318 dL_law_320 dL_law_321 dL_law_322 ?_
  refine lv_aload_n hx hb dL_law_323 rfl (lv_at hl 3 rfl) ?_
  refine lc_S (As := [.ref (ad 0 0), .int (xs (k4 + 1)), .ref o]) (rest := []) hcw (c_L_award l hl0 D K H.size ad n d S o f (xs (k4 + 1)) I.2.2.1 I.1.2.2.2.2.1) (vx_cwSW 3 hts gL_law_L_award rfl rfl rfl (by decide +kernel) ⟨(Nat.le_of_ble_eq_true rfl), (Nat.le_of_ble_eq_true rfl)⟩) hE I rfl rfl hl.1 (Nat.le_of_ble_eq_true rfl) dL_law_324 hcs (fun H1 locs1 hz1 hB hPm hS1 => ?_)
  refine lv_istore hx hb dL_law_327 hl (by decide) rfl (fun ls hl => ?_)
  refine lv_aload_n hx hb dL_law_329 rfl (lv_at hl 3 rfl) ?_
  refine lo_arg (j := 1) hx hb hX hbl hS1 hL hk (by decide) (by decide) (lv_at hl 1 rfl) (lv_at hl 5 rfl) dL_law_330 dL_law_331 dL_law_333 dL_law_334 dL_law_335 ?_
  refine ef_Vi (As := [.int (xs (k4 + 1))]) (rest := []) hcw (c_X3_award l D K H1.size am th M n d (xs (k4 + 1)) I.2.1.mok) (cwV 1 hts gL_law_X3_award rfl rfl rfl (by decide +kernel) ⟨(Nat.le_of_ble_eq_true rfl), (Nat.le_of_ble_eq_true rfl)⟩) hPm I.2.2.2.2.2.2.1 hE.1 hE.2.2.1 (va_recv hE.1 hPm (ci := 3) (q0 := 0) rfl rfl) rfl rfl hl.1 (Nat.le_of_ble_eq_true rfl) dL_law_336 hcs hS1 (lI_free I hS1.1) (fun H2 locs2 hP2 hD2 hz2 hk2 hS2 => ?_)
  refine lv_istore hx hb dL_law_339 hl (by decide) rfl (fun ls hl => ?_)
  obtain ⟨t1, t2, t3⟩ := lI_step I hz1 (hB.to (fun h => lB.refl I.2.2.1 h)) hz2 hk2 hP2 hD2 hS2 (step_award I.2.1 hc0 (xs (k4 + 1)))
  refine lo_head (P := 341) (tgt := 369) hx hb hc hts hE hP2 hcs hl (lv_at hl 4 rfl) (lv_at hl 1 rfl) t1 (by decide) dL_law_341 dL_law_342 dL_law_345 dL_law_347 dL_law_352 dL_law_354 (fun h0 => ?_) (fun h0 => ?_)
  · obtain ⟨hrm, ad2, ha, I2⟩ := t2 h0
    refine lo_cmp (P := 357) hx hb hE I2.2.2.2.2.2.1 (lv_at hl 5 rfl) (lv_at hl 0 rfl) (by rw [hrm]; exact if_pos rfl) dL_law_357 dL_law_358 dL_law_359 dL_law_360 dL_law_362 dL_law_363 dL_law_364 ?_
    refine lv_goto (tgt := 1240) hx hb dL_law_369 (by decide) ?_
    exact kk H2 locs2 ls ad2 _ _ _ _ _ _ ha I2 (lv_sub hl [2, 3, 4, 5, 6] rfl)
  · refine lv_goto (tgt := 1240) hx hb dL_law_369 (by decide) ?_
    exact kk H2 locs2 ls ad _ _ _ _ _ _ rfl (t3 h0) (lv_sub hl [2, 3, 4, 5, 6] rfl)

set_option maxHeartbeats 4000000 in
set_option maxRecDepth 100000 in
theorem lk_passOn {p : Program} {e : Env} {s : State} {m : MethodId} {below : List Frame} {meth : Method} {c : Code} {H : Heap} {locs : List Loc} {cells slots : Nat} {Q : State → Prop} {b L k4 c0 : Nat} {xs : Nat → Int32} {D : va_G} {K : Nat → ClassId} {ls : Array Slot} {ad : Nat → Nat → Nat} {am : Nat → Nat} {o : Nat} {f : Nat → Int64} {th : Int32} {n d : Nat} {S : Nat → Nat → Nat → Int32} {M : Nat → Nat → Int32} (l : Launch) (hl0 : l.stackTraces = false) (hx : p.tables.exec = Jvm.exec) (hb : c.code = cL_law) (hc : CallFix p m c cL_law 7 s #[Value.ref b] lw_tbl RL) (hts : ∀ w ∈ wsL_law, w.before #[Value.ref b] s = true) (hE : lE D K s) (hX : va_X b L xs s s.heap) (hbl : b < s.heap.size) (hL : L ≤ 2048) (hk : k4 + 4 ≤ L) (hc0 : c0 < 1000) (hcs : cells + 4 ≤ 601024 ∧ slots + 60 ≤ 7293034) (I : lI D K s ad am o f th n d S M c0 H locs) (hl : lv_has ls 7 (lL b (ad 0 0) (am 0) o k4)) (kk : lKK p l e s m below meth c Q b D K am o k4 (c0 + 1) (ad 0 0) (cells + 4) (slots + 60)) : W p l e room_1 s m #[Value.ref b] below meth c H locs cells slots Q (F0 m 372 ls []) := by
  have hS := I.2.2.2.2.2.2.2
  have hcw : CallFix p m c cL_law 7 s #[Value.ref b] wsL_law RL := ⟨hc.1, hc.2.1, hc.2.2.1, hc.2.2.2.1, hts⟩
  have hcs0 : cells ≤ 601024 ∧ slots ≤ 7293034 := ⟨by omega, by omega⟩
  refine lv_aload_n hx hb dL_law_372 rfl (lv_at hl 1 rfl) ?_
  refine lo_arg (j := 1) hx hb hX hbl hS hL hk (by decide) (by decide) (lv_at hl 0 rfl) (lv_at hl 4 rfl) dL_law_373 dL_law_374 dL_law_376 dL_law_377 dL_law_378 ?_
  refine lo_arg (j := 2) hx hb hX hbl hS hL hk (by decide) (by decide) (lv_at hl 0 rfl) (lv_at hl 4 rfl) dL_law_379 dL_law_380 dL_law_382 dL_law_383 dL_law_384 ?_
  refine lo_arg (j := 3) hx hb hX hbl hS hL hk (by decide) (by decide) (lv_at hl 0 rfl) (lv_at hl 4 rfl) dL_law_385 dL_law_386 dL_law_388 dL_law_389 dL_law_390 ?_
  refine lv_aload_n hx hb dL_law_391 rfl (lv_at hl 3 rfl) ?_
  refine lc_S (As := [.ref (ad 0 0), .int (xs (k4 + 1)), .int (xs (k4 + 2)), .int (xs (k4 + 3)), .ref o]) (rest := []) hcw (c_L_passOn l hl0 D K H.size ad n d S o f (xs (k4 + 1)) (xs (k4 + 2)) (xs (k4 + 3)) I.2.2.1 I.1.2.2.2.2.1) (vx_cwSW 5 hts gL_law_L_passOn rfl rfl rfl (by decide +kernel) ⟨(Nat.le_of_ble_eq_true rfl), (Nat.le_of_ble_eq_true rfl)⟩) hE I rfl rfl hl.1 (Nat.le_of_ble_eq_true rfl) dL_law_392 hcs (fun H1 locs1 hz1 hB hPm hS1 => ?_)
  refine lv_istore hx hb dL_law_395 hl (by decide) rfl (fun ls hl => ?_)
  refine lv_aload_n hx hb dL_law_397 rfl (lv_at hl 3 rfl) ?_
  refine lo_arg (j := 1) hx hb hX hbl hS1 hL hk (by decide) (by decide) (lv_at hl 1 rfl) (lv_at hl 5 rfl) dL_law_398 dL_law_399 dL_law_401 dL_law_402 dL_law_403 ?_
  refine lo_arg (j := 2) hx hb hX hbl hS1 hL hk (by decide) (by decide) (lv_at hl 1 rfl) (lv_at hl 5 rfl) dL_law_404 dL_law_405 dL_law_407 dL_law_408 dL_law_409 ?_
  refine lo_arg (j := 3) hx hb hX hbl hS1 hL hk (by decide) (by decide) (lv_at hl 1 rfl) (lv_at hl 5 rfl) dL_law_410 dL_law_411 dL_law_413 dL_law_414 dL_law_415 ?_
  refine ef_Vi (As := [.int (xs (k4 + 1)), .int (xs (k4 + 2)), .int (xs (k4 + 3))]) (rest := []) hcw (c_X3_passOn l D K H1.size am th M n d (xs (k4 + 1)) (xs (k4 + 2)) (xs (k4 + 3)) I.2.1.mok) (cwV 3 hts gL_law_X3_passOn rfl rfl rfl (by decide +kernel) ⟨(Nat.le_of_ble_eq_true rfl), (Nat.le_of_ble_eq_true rfl)⟩) hPm I.2.2.2.2.2.2.1 hE.1 hE.2.2.1 (va_recv hE.1 hPm (ci := 3) (q0 := 0) rfl rfl) rfl rfl hl.1 (Nat.le_of_ble_eq_true rfl) dL_law_416 hcs hS1 (lI_free I hS1.1) (fun H2 locs2 hP2 hD2 hz2 hk2 hS2 => ?_)
  refine lv_istore hx hb dL_law_419 hl (by decide) rfl (fun ls hl => ?_)
  obtain ⟨t1, t2, t3⟩ := lI_step I hz1 (hB.to (fun h => lB.refl I.2.2.1 h)) hz2 hk2 hP2 hD2 hS2 (step_passOn I.2.1 hc0 (xs (k4 + 1)) (xs (k4 + 2)) (xs (k4 + 3)))
  refine lo_head (P := 421) (tgt := 449) hx hb hc hts hE hP2 hcs hl (lv_at hl 4 rfl) (lv_at hl 1 rfl) t1 (by decide) dL_law_421 dL_law_422 dL_law_425 dL_law_427 dL_law_432 dL_law_434 (fun h0 => ?_) (fun h0 => ?_)
  · obtain ⟨hrm, ad2, ha, I2⟩ := t2 h0
    refine lo_cmp (P := 437) hx hb hE I2.2.2.2.2.2.1 (lv_at hl 5 rfl) (lv_at hl 0 rfl) (by rw [hrm]; exact if_pos rfl) dL_law_437 dL_law_438 dL_law_439 dL_law_440 dL_law_442 dL_law_443 dL_law_444 ?_
    refine lv_goto (tgt := 1240) hx hb dL_law_449 (by decide) ?_
    exact kk H2 locs2 ls ad2 _ _ _ _ _ _ ha I2 (lv_sub hl [2, 3, 4, 5, 6] rfl)
  · refine lv_goto (tgt := 1240) hx hb dL_law_449 (by decide) ?_
    exact kk H2 locs2 ls ad _ _ _ _ _ _ rfl (t3 h0) (lv_sub hl [2, 3, 4, 5, 6] rfl)

set_option maxHeartbeats 4000000 in
set_option maxRecDepth 100000 in
theorem lk_turnover {p : Program} {e : Env} {s : State} {m : MethodId} {below : List Frame} {meth : Method} {c : Code} {H : Heap} {locs : List Loc} {cells slots : Nat} {Q : State → Prop} {b L k4 c0 : Nat} {xs : Nat → Int32} {D : va_G} {K : Nat → ClassId} {ls : Array Slot} {ad : Nat → Nat → Nat} {am : Nat → Nat} {o : Nat} {f : Nat → Int64} {th : Int32} {n d : Nat} {S : Nat → Nat → Nat → Int32} {M : Nat → Nat → Int32} (l : Launch) (hl0 : l.stackTraces = false) (hx : p.tables.exec = Jvm.exec) (hb : c.code = cL_law) (hc : CallFix p m c cL_law 7 s #[Value.ref b] lw_tbl RL) (hts : ∀ w ∈ wsL_law, w.before #[Value.ref b] s = true) (hE : lE D K s) (hX : va_X b L xs s s.heap) (hbl : b < s.heap.size) (hL : L ≤ 2048) (hk : k4 + 4 ≤ L) (hc0 : c0 < 1000) (hcs : cells + 4 ≤ 601024 ∧ slots + 60 ≤ 7293034) (I : lI D K s ad am o f th n d S M c0 H locs) (hl : lv_has ls 7 (lL b (ad 0 0) (am 0) o k4)) (kk : lKK p l e s m below meth c Q b D K am o k4 (c0 + 1) (ad 0 0) (cells + 4) (slots + 60)) : W p l e room_1 s m #[Value.ref b] below meth c H locs cells slots Q (F0 m 452 ls []) := by
  have hS := I.2.2.2.2.2.2.2
  have hcw : CallFix p m c cL_law 7 s #[Value.ref b] wsL_law RL := ⟨hc.1, hc.2.1, hc.2.2.1, hc.2.2.2.1, hts⟩
  have hcs0 : cells ≤ 601024 ∧ slots ≤ 7293034 := ⟨by omega, by omega⟩
  refine lv_aload_n hx hb dL_law_452 rfl (lv_at hl 1 rfl) ?_
  refine lo_arg (j := 1) hx hb hX hbl hS hL hk (by decide) (by decide) (lv_at hl 0 rfl) (lv_at hl 4 rfl) dL_law_453 dL_law_454 dL_law_456 dL_law_457 dL_law_458 ?_
  refine lv_aload_n hx hb dL_law_459 rfl (lv_at hl 3 rfl) ?_
  refine lc_S (As := [.ref (ad 0 0), .int (xs (k4 + 1)), .ref o]) (rest := []) hcw (c_L_turnover l hl0 D K H.size ad n d S o f (xs (k4 + 1)) I.1.2.2.2.2.1) (vx_cwSW 3 hts gL_law_L_turnover rfl rfl rfl (by decide +kernel) ⟨(Nat.le_of_ble_eq_true rfl), (Nat.le_of_ble_eq_true rfl)⟩) hE I rfl rfl hl.1 (Nat.le_of_ble_eq_true rfl) dL_law_460 hcs (fun H1 locs1 hz1 hB hPm hS1 => ?_)
  refine lv_istore hx hb dL_law_463 hl (by decide) rfl (fun ls hl => ?_)
  refine lv_aload_n hx hb dL_law_465 rfl (lv_at hl 3 rfl) ?_
  refine lo_arg (j := 1) hx hb hX hbl hS1 hL hk (by decide) (by decide) (lv_at hl 1 rfl) (lv_at hl 5 rfl) dL_law_466 dL_law_467 dL_law_469 dL_law_470 dL_law_471 ?_
  refine ef_Vi (As := [.int (xs (k4 + 1))]) (rest := []) hcw (c_X3_turnover l D K H1.size am th M n d (xs (k4 + 1)) I.2.1.mok) (cwV 1 hts gL_law_X3_turnover rfl rfl rfl (by decide +kernel) ⟨(Nat.le_of_ble_eq_true rfl), (Nat.le_of_ble_eq_true rfl)⟩) hPm I.2.2.2.2.2.2.1 hE.1 hE.2.2.1 (va_recv hE.1 hPm (ci := 3) (q0 := 0) rfl rfl) rfl rfl hl.1 (Nat.le_of_ble_eq_true rfl) dL_law_472 hcs hS1 (lI_free I hS1.1) (fun H2 locs2 hP2 hD2 hz2 hk2 hS2 => ?_)
  refine lv_istore hx hb dL_law_475 hl (by decide) rfl (fun ls hl => ?_)
  obtain ⟨t1, t2, t3⟩ := lI_step I hz1 (hB.to (fun h => lB.refl I.2.2.1 h)) hz2 hk2 hP2 hD2 hS2 (step_turnover I.2.1 hc0 (xs (k4 + 1)))
  refine lo_head (P := 477) (tgt := 505) hx hb hc hts hE hP2 hcs hl (lv_at hl 4 rfl) (lv_at hl 1 rfl) t1 (by decide) dL_law_477 dL_law_478 dL_law_481 dL_law_483 dL_law_488 dL_law_490 (fun h0 => ?_) (fun h0 => ?_)
  · obtain ⟨hrm, ad2, ha, I2⟩ := t2 h0
    refine lo_cmp (P := 493) hx hb hE I2.2.2.2.2.2.1 (lv_at hl 5 rfl) (lv_at hl 0 rfl) (by rw [hrm]; exact if_pos rfl) dL_law_493 dL_law_494 dL_law_495 dL_law_496 dL_law_498 dL_law_499 dL_law_500 ?_
    refine lv_goto (tgt := 1240) hx hb dL_law_505 (by decide) ?_
    exact kk H2 locs2 ls ad2 _ _ _ _ _ _ ha I2 (lv_sub hl [2, 3, 4, 5, 6] rfl)
  · refine lv_goto (tgt := 1240) hx hb dL_law_505 (by decide) ?_
    exact kk H2 locs2 ls ad _ _ _ _ _ _ rfl (t3 h0) (lv_sub hl [2, 3, 4, 5, 6] rfl)

set_option maxHeartbeats 4000000 in
set_option maxRecDepth 100000 in
theorem lk_won {p : Program} {e : Env} {s : State} {m : MethodId} {below : List Frame} {meth : Method} {c : Code} {H : Heap} {locs : List Loc} {cells slots : Nat} {Q : State → Prop} {b L k4 c0 : Nat} {xs : Nat → Int32} {D : va_G} {K : Nat → ClassId} {ls : Array Slot} {ad : Nat → Nat → Nat} {am : Nat → Nat} {o : Nat} {f : Nat → Int64} {th : Int32} {n d : Nat} {S : Nat → Nat → Nat → Int32} {M : Nat → Nat → Int32} (l : Launch) (hl0 : l.stackTraces = false) (hx : p.tables.exec = Jvm.exec) (hb : c.code = cL_law) (hc : CallFix p m c cL_law 7 s #[Value.ref b] lw_tbl RL) (hts : ∀ w ∈ wsL_law, w.before #[Value.ref b] s = true) (hE : lE D K s) (hX : va_X b L xs s s.heap) (hbl : b < s.heap.size) (hL : L ≤ 2048) (hk : k4 + 4 ≤ L) (hc0 : c0 < 1000) (hcs : cells + 4 ≤ 601024 ∧ slots + 60 ≤ 7293034) (I : lI D K s ad am o f th n d S M c0 H locs) (hl : lv_has ls 7 (lL b (ad 0 0) (am 0) o k4)) (kk : lKK p l e s m below meth c Q b D K am o k4 (c0 + 1) (ad 0 0) (cells + 4) (slots + 60)) : W p l e room_1 s m #[Value.ref b] below meth c H locs cells slots Q (F0 m 508 ls []) := by
  have hS := I.2.2.2.2.2.2.2
  have hcw : CallFix p m c cL_law 7 s #[Value.ref b] wsL_law RL := ⟨hc.1, hc.2.1, hc.2.2.1, hc.2.2.2.1, hts⟩
  have hcs0 : cells ≤ 601024 ∧ slots ≤ 7293034 := ⟨by omega, by omega⟩
  refine lv_aload_n hx hb dL_law_508 rfl (lv_at hl 1 rfl) ?_
  refine lo_arg (j := 1) hx hb hX hbl hS hL hk (by decide) (by decide) (lv_at hl 0 rfl) (lv_at hl 4 rfl) dL_law_509 dL_law_510 dL_law_512 dL_law_513 dL_law_514 ?_
  refine lv_aload_n hx hb dL_law_515 rfl (lv_at hl 3 rfl) ?_
  refine lc_S (As := [.ref (ad 0 0), .int (xs (k4 + 1)), .ref o]) (rest := []) hcw (c_L_won l hl0 D K H.size ad n d S o f (xs (k4 + 1)) I.1.2.2.2.2.1) (vx_cwSW 3 hts gL_law_L_won rfl rfl rfl (by decide +kernel) ⟨(Nat.le_of_ble_eq_true rfl), (Nat.le_of_ble_eq_true rfl)⟩) hE I rfl rfl hl.1 (Nat.le_of_ble_eq_true rfl) dL_law_516 hcs (fun H1 locs1 hz1 hB hPm hS1 => ?_)
  refine lv_istore hx hb dL_law_519 hl (by decide) rfl (fun ls hl => ?_)
  refine lv_aload_n hx hb dL_law_521 rfl (lv_at hl 3 rfl) ?_
  refine lo_arg (j := 1) hx hb hX hbl hS1 hL hk (by decide) (by decide) (lv_at hl 1 rfl) (lv_at hl 5 rfl) dL_law_522 dL_law_523 dL_law_525 dL_law_526 dL_law_527 ?_
  refine ef_Vi (As := [.int (xs (k4 + 1))]) (rest := []) hcw (c_X3_won l D K H1.size am th M n d (xs (k4 + 1)) I.2.1.mok) (cwV 1 hts gL_law_X3_won rfl rfl rfl (by decide +kernel) ⟨(Nat.le_of_ble_eq_true rfl), (Nat.le_of_ble_eq_true rfl)⟩) hPm I.2.2.2.2.2.2.1 hE.1 hE.2.2.1 (va_recv hE.1 hPm (ci := 3) (q0 := 0) rfl rfl) rfl rfl hl.1 (Nat.le_of_ble_eq_true rfl) dL_law_528 hcs hS1 (lI_free I hS1.1) (fun H2 locs2 hP2 hD2 hz2 hk2 hS2 => ?_)
  refine lv_istore hx hb dL_law_531 hl (by decide) rfl (fun ls hl => ?_)
  obtain ⟨t1, t2, t3⟩ := lI_step I hz1 (hB.to (fun h => lB.refl I.2.2.1 h)) hz2 hk2 hP2 hD2 hS2 (step_won I.2.1 hc0 (xs (k4 + 1)))
  refine lo_head (P := 533) (tgt := 561) hx hb hc hts hE hP2 hcs hl (lv_at hl 4 rfl) (lv_at hl 1 rfl) t1 (by decide) dL_law_533 dL_law_534 dL_law_537 dL_law_539 dL_law_544 dL_law_546 (fun h0 => ?_) (fun h0 => ?_)
  · obtain ⟨hrm, ad2, ha, I2⟩ := t2 h0
    refine lo_cmp (P := 549) hx hb hE I2.2.2.2.2.2.1 (lv_at hl 5 rfl) (lv_at hl 0 rfl) (by rw [hrm]; exact if_pos rfl) dL_law_549 dL_law_550 dL_law_551 dL_law_552 dL_law_554 dL_law_555 dL_law_556 ?_
    refine lv_goto (tgt := 1240) hx hb dL_law_561 (by decide) ?_
    exact kk H2 locs2 ls ad2 _ _ _ _ _ _ ha I2 (lv_sub hl [2, 3, 4, 5, 6] rfl)
  · refine lv_goto (tgt := 1240) hx hb dL_law_561 (by decide) ?_
    exact kk H2 locs2 ls ad _ _ _ _ _ _ rfl (t3 h0) (lv_sub hl [2, 3, 4, 5, 6] rfl)

set_option maxHeartbeats 4000000 in
set_option maxRecDepth 100000 in
theorem lk_suspicion {p : Program} {e : Env} {s : State} {m : MethodId} {below : List Frame} {meth : Method} {c : Code} {H : Heap} {locs : List Loc} {cells slots : Nat} {Q : State → Prop} {b L k4 c0 : Nat} {xs : Nat → Int32} {D : va_G} {K : Nat → ClassId} {ls : Array Slot} {ad : Nat → Nat → Nat} {am : Nat → Nat} {o : Nat} {f : Nat → Int64} {th : Int32} {n d : Nat} {S : Nat → Nat → Nat → Int32} {M : Nat → Nat → Int32} (l : Launch) (hl0 : l.stackTraces = false) (hx : p.tables.exec = Jvm.exec) (hb : c.code = cL_law) (hc : CallFix p m c cL_law 7 s #[Value.ref b] lw_tbl RL) (hts : ∀ w ∈ wsL_law, w.before #[Value.ref b] s = true) (hE : lE D K s) (hX : va_X b L xs s s.heap) (hbl : b < s.heap.size) (hL : L ≤ 2048) (hk : k4 + 4 ≤ L) (hc0 : c0 < 1000) (hcs : cells + 4 ≤ 601024 ∧ slots + 60 ≤ 7293034) (I : lI D K s ad am o f th n d S M c0 H locs) (hl : lv_has ls 7 (lL b (ad 0 0) (am 0) o k4)) (kk : lKK p l e s m below meth c Q b D K am o k4 (c0 + 1) (ad 0 0) (cells + 4) (slots + 60)) : W p l e room_1 s m #[Value.ref b] below meth c H locs cells slots Q (F0 m 564 ls []) := by
  have hS := I.2.2.2.2.2.2.2
  have hcw : CallFix p m c cL_law 7 s #[Value.ref b] wsL_law RL := ⟨hc.1, hc.2.1, hc.2.2.1, hc.2.2.2.1, hts⟩
  have hcs0 : cells ≤ 601024 ∧ slots ≤ 7293034 := ⟨by omega, by omega⟩
  refine lv_aload_n hx hb dL_law_564 rfl (lv_at hl 1 rfl) ?_
  refine lo_arg (j := 1) hx hb hX hbl hS hL hk (by decide) (by decide) (lv_at hl 0 rfl) (lv_at hl 4 rfl) dL_law_565 dL_law_566 dL_law_568 dL_law_569 dL_law_570 ?_
  refine lo_arg (j := 2) hx hb hX hbl hS hL hk (by decide) (by decide) (lv_at hl 0 rfl) (lv_at hl 4 rfl) dL_law_571 dL_law_572 dL_law_574 dL_law_575 dL_law_576 ?_
  refine lv_aload_n hx hb dL_law_577 rfl (lv_at hl 3 rfl) ?_
  refine lc_S (As := [.ref (ad 0 0), .int (xs (k4 + 1)), .int (xs (k4 + 2)), .ref o]) (rest := []) hcw (c_L_suspicion l hl0 D K H.size ad n d S o f (xs (k4 + 1)) (xs (k4 + 2)) I.1.2.2.2.2.1) (vx_cwSW 4 hts gL_law_L_suspicion rfl rfl rfl (by decide +kernel) ⟨(Nat.le_of_ble_eq_true rfl), (Nat.le_of_ble_eq_true rfl)⟩) hE I rfl rfl hl.1 (Nat.le_of_ble_eq_true rfl) dL_law_578 hcs (fun H1 locs1 hz1 hB hPm hS1 => ?_)
  refine lv_istore hx hb dL_law_581 hl (by decide) rfl (fun ls hl => ?_)
  refine lv_aload_n hx hb dL_law_583 rfl (lv_at hl 3 rfl) ?_
  refine lo_arg (j := 1) hx hb hX hbl hS1 hL hk (by decide) (by decide) (lv_at hl 1 rfl) (lv_at hl 5 rfl) dL_law_584 dL_law_585 dL_law_587 dL_law_588 dL_law_589 ?_
  refine lo_arg (j := 2) hx hb hX hbl hS1 hL hk (by decide) (by decide) (lv_at hl 1 rfl) (lv_at hl 5 rfl) dL_law_590 dL_law_591 dL_law_593 dL_law_594 dL_law_595 ?_
  refine ef_Vi (As := [.int (xs (k4 + 1)), .int (xs (k4 + 2))]) (rest := []) hcw (c_X3_suspicion l D K H1.size am th M n d (xs (k4 + 1)) (xs (k4 + 2)) I.2.1.mok) (cwV 2 hts gL_law_X3_suspicion rfl rfl rfl (by decide +kernel) ⟨(Nat.le_of_ble_eq_true rfl), (Nat.le_of_ble_eq_true rfl)⟩) hPm I.2.2.2.2.2.2.1 hE.1 hE.2.2.1 (va_recv hE.1 hPm (ci := 3) (q0 := 0) rfl rfl) rfl rfl hl.1 (Nat.le_of_ble_eq_true rfl) dL_law_596 hcs hS1 (lI_free I hS1.1) (fun H2 locs2 hP2 hD2 hz2 hk2 hS2 => ?_)
  refine lv_istore hx hb dL_law_599 hl (by decide) rfl (fun ls hl => ?_)
  obtain ⟨t1, t2, t3⟩ := lI_step I hz1 (hB.to (fun h => lB.refl I.2.2.1 h)) hz2 hk2 hP2 hD2 hS2 (step_suspicion I.2.1 hc0 (xs (k4 + 1)) (xs (k4 + 2)))
  refine lo_head (P := 601) (tgt := 629) hx hb hc hts hE hP2 hcs hl (lv_at hl 4 rfl) (lv_at hl 1 rfl) t1 (by decide) dL_law_601 dL_law_602 dL_law_605 dL_law_607 dL_law_612 dL_law_614 (fun h0 => ?_) (fun h0 => ?_)
  · obtain ⟨hrm, ad2, ha, I2⟩ := t2 h0
    refine lo_cmp (P := 617) hx hb hE I2.2.2.2.2.2.1 (lv_at hl 5 rfl) (lv_at hl 0 rfl) (by rw [hrm]; exact if_pos rfl) dL_law_617 dL_law_618 dL_law_619 dL_law_620 dL_law_622 dL_law_623 dL_law_624 ?_
    refine lv_goto (tgt := 1240) hx hb dL_law_629 (by decide) ?_
    exact kk H2 locs2 ls ad2 _ _ _ _ _ _ ha I2 (lv_sub hl [2, 3, 4, 5, 6] rfl)
  · refine lv_goto (tgt := 1240) hx hb dL_law_629 (by decide) ?_
    exact kk H2 locs2 ls ad _ _ _ _ _ _ rfl (t3 h0) (lv_sub hl [2, 3, 4, 5, 6] rfl)

set_option maxHeartbeats 4000000 in
set_option maxRecDepth 100000 in
theorem lk_sign {p : Program} {e : Env} {s : State} {m : MethodId} {below : List Frame} {meth : Method} {c : Code} {H : Heap} {locs : List Loc} {cells slots : Nat} {Q : State → Prop} {b L k4 c0 : Nat} {xs : Nat → Int32} {D : va_G} {K : Nat → ClassId} {ls : Array Slot} {ad : Nat → Nat → Nat} {am : Nat → Nat} {o : Nat} {f : Nat → Int64} {th : Int32} {n d : Nat} {S : Nat → Nat → Nat → Int32} {M : Nat → Nat → Int32} (l : Launch) (hl0 : l.stackTraces = false) (hx : p.tables.exec = Jvm.exec) (hb : c.code = cL_law) (hc : CallFix p m c cL_law 7 s #[Value.ref b] lw_tbl RL) (hts : ∀ w ∈ wsL_law, w.before #[Value.ref b] s = true) (hE : lE D K s) (hX : va_X b L xs s s.heap) (hbl : b < s.heap.size) (hL : L ≤ 2048) (hk : k4 + 4 ≤ L) (hc0 : c0 < 1000) (hcs : cells + 4 ≤ 601024 ∧ slots + 60 ≤ 7293034) (I : lI D K s ad am o f th n d S M c0 H locs) (hl : lv_has ls 7 (lL b (ad 0 0) (am 0) o k4)) (kk : lKK p l e s m below meth c Q b D K am o k4 (c0 + 1) (ad 0 0) (cells + 4) (slots + 60)) : W p l e room_1 s m #[Value.ref b] below meth c H locs cells slots Q (F0 m 632 ls []) := by
  have hS := I.2.2.2.2.2.2.2
  have hcw : CallFix p m c cL_law 7 s #[Value.ref b] wsL_law RL := ⟨hc.1, hc.2.1, hc.2.2.1, hc.2.2.2.1, hts⟩
  have hcs0 : cells ≤ 601024 ∧ slots ≤ 7293034 := ⟨by omega, by omega⟩
  refine lv_aload_n hx hb dL_law_632 rfl (lv_at hl 1 rfl) ?_
  refine lo_arg (j := 1) hx hb hX hbl hS hL hk (by decide) (by decide) (lv_at hl 0 rfl) (lv_at hl 4 rfl) dL_law_633 dL_law_634 dL_law_636 dL_law_637 dL_law_638 ?_
  refine lo_arg (j := 2) hx hb hX hbl hS hL hk (by decide) (by decide) (lv_at hl 0 rfl) (lv_at hl 4 rfl) dL_law_639 dL_law_640 dL_law_642 dL_law_643 dL_law_644 ?_
  refine lo_arg (j := 3) hx hb hX hbl hS hL hk (by decide) (by decide) (lv_at hl 0 rfl) (lv_at hl 4 rfl) dL_law_645 dL_law_646 dL_law_648 dL_law_649 dL_law_650 ?_
  refine lv_aload_n hx hb dL_law_651 rfl (lv_at hl 3 rfl) ?_
  refine lc_S (As := [.ref (ad 0 0), .int (xs (k4 + 1)), .int (xs (k4 + 2)), .int (xs (k4 + 3)), .ref o]) (rest := []) hcw (c_L_sign l hl0 D K H.size ad n d S o f (xs (k4 + 1)) (xs (k4 + 2)) (xs (k4 + 3)) I.1.2.2.2.2.1) (vx_cwSW 5 hts gL_law_L_sign rfl rfl rfl (by decide +kernel) ⟨(Nat.le_of_ble_eq_true rfl), (Nat.le_of_ble_eq_true rfl)⟩) hE I rfl rfl hl.1 (Nat.le_of_ble_eq_true rfl) dL_law_652 hcs (fun H1 locs1 hz1 hB hPm hS1 => ?_)
  refine lv_istore hx hb dL_law_655 hl (by decide) rfl (fun ls hl => ?_)
  refine lv_aload_n hx hb dL_law_657 rfl (lv_at hl 3 rfl) ?_
  refine lo_arg (j := 1) hx hb hX hbl hS1 hL hk (by decide) (by decide) (lv_at hl 1 rfl) (lv_at hl 5 rfl) dL_law_658 dL_law_659 dL_law_661 dL_law_662 dL_law_663 ?_
  refine lo_arg (j := 2) hx hb hX hbl hS1 hL hk (by decide) (by decide) (lv_at hl 1 rfl) (lv_at hl 5 rfl) dL_law_664 dL_law_665 dL_law_667 dL_law_668 dL_law_669 ?_
  refine lo_arg (j := 3) hx hb hX hbl hS1 hL hk (by decide) (by decide) (lv_at hl 1 rfl) (lv_at hl 5 rfl) dL_law_670 dL_law_671 dL_law_673 dL_law_674 dL_law_675 ?_
  refine ef_Vi (As := [.int (xs (k4 + 1)), .int (xs (k4 + 2)), .int (xs (k4 + 3))]) (rest := []) hcw (c_X3_sign l D K H1.size am th M n d (xs (k4 + 1)) (xs (k4 + 2)) (xs (k4 + 3)) I.2.1.mok) (cwV 3 hts gL_law_X3_sign rfl rfl rfl (by decide +kernel) ⟨(Nat.le_of_ble_eq_true rfl), (Nat.le_of_ble_eq_true rfl)⟩) hPm I.2.2.2.2.2.2.1 hE.1 hE.2.2.1 (va_recv hE.1 hPm (ci := 3) (q0 := 0) rfl rfl) rfl rfl hl.1 (Nat.le_of_ble_eq_true rfl) dL_law_676 hcs hS1 (lI_free I hS1.1) (fun H2 locs2 hP2 hD2 hz2 hk2 hS2 => ?_)
  refine lv_istore hx hb dL_law_679 hl (by decide) rfl (fun ls hl => ?_)
  obtain ⟨t1, t2, t3⟩ := lI_step I hz1 (hB.to (fun h => lB.refl I.2.2.1 h)) hz2 hk2 hP2 hD2 hS2 (step_sign I.2.1 hc0 (xs (k4 + 1)) (xs (k4 + 2)) (xs (k4 + 3)))
  refine lo_head (P := 681) (tgt := 709) hx hb hc hts hE hP2 hcs hl (lv_at hl 4 rfl) (lv_at hl 1 rfl) t1 (by decide) dL_law_681 dL_law_682 dL_law_685 dL_law_687 dL_law_692 dL_law_694 (fun h0 => ?_) (fun h0 => ?_)
  · obtain ⟨hrm, ad2, ha, I2⟩ := t2 h0
    refine lo_cmp (P := 697) hx hb hE I2.2.2.2.2.2.1 (lv_at hl 5 rfl) (lv_at hl 0 rfl) (by rw [hrm]; exact if_pos rfl) dL_law_697 dL_law_698 dL_law_699 dL_law_700 dL_law_702 dL_law_703 dL_law_704 ?_
    refine lv_goto (tgt := 1240) hx hb dL_law_709 (by decide) ?_
    exact kk H2 locs2 ls ad2 _ _ _ _ _ _ ha I2 (lv_sub hl [2, 3, 4, 5, 6] rfl)
  · refine lv_goto (tgt := 1240) hx hb dL_law_709 (by decide) ?_
    exact kk H2 locs2 ls ad _ _ _ _ _ _ rfl (t3 h0) (lv_sub hl [2, 3, 4, 5, 6] rfl)

set_option maxHeartbeats 4000000 in
set_option maxRecDepth 100000 in
theorem lk_setMark {p : Program} {e : Env} {s : State} {m : MethodId} {below : List Frame} {meth : Method} {c : Code} {H : Heap} {locs : List Loc} {cells slots : Nat} {Q : State → Prop} {b L k4 c0 : Nat} {xs : Nat → Int32} {D : va_G} {K : Nat → ClassId} {ls : Array Slot} {ad : Nat → Nat → Nat} {am : Nat → Nat} {o : Nat} {f : Nat → Int64} {th : Int32} {n d : Nat} {S : Nat → Nat → Nat → Int32} {M : Nat → Nat → Int32} (l : Launch) (hl0 : l.stackTraces = false) (hx : p.tables.exec = Jvm.exec) (hb : c.code = cL_law) (hc : CallFix p m c cL_law 7 s #[Value.ref b] lw_tbl RL) (hts : ∀ w ∈ wsL_law, w.before #[Value.ref b] s = true) (hE : lE D K s) (hX : va_X b L xs s s.heap) (hbl : b < s.heap.size) (hL : L ≤ 2048) (hk : k4 + 4 ≤ L) (hc0 : c0 < 1000) (hcs : cells + 4 ≤ 601024 ∧ slots + 60 ≤ 7293034) (I : lI D K s ad am o f th n d S M c0 H locs) (hl : lv_has ls 7 (lL b (ad 0 0) (am 0) o k4)) (kk : lKK p l e s m below meth c Q b D K am o k4 (c0 + 1) (ad 0 0) (cells + 4) (slots + 60)) : W p l e room_1 s m #[Value.ref b] below meth c H locs cells slots Q (F0 m 712 ls []) := by
  have hS := I.2.2.2.2.2.2.2
  have hcw : CallFix p m c cL_law 7 s #[Value.ref b] wsL_law RL := ⟨hc.1, hc.2.1, hc.2.2.1, hc.2.2.2.1, hts⟩
  have hcs0 : cells ≤ 601024 ∧ slots ≤ 7293034 := ⟨by omega, by omega⟩
  refine lv_aload_n hx hb dL_law_712 rfl (lv_at hl 1 rfl) ?_
  refine lo_arg (j := 1) hx hb hX hbl hS hL hk (by decide) (by decide) (lv_at hl 0 rfl) (lv_at hl 4 rfl) dL_law_713 dL_law_714 dL_law_716 dL_law_717 dL_law_718 ?_
  refine lv_aload_n hx hb dL_law_719 rfl (lv_at hl 3 rfl) ?_
  refine lc_S (As := [.ref (ad 0 0), .int (xs (k4 + 1)), .ref o]) (rest := []) hcw (c_L_setMark l hl0 D K H.size ad n d S o f (xs (k4 + 1)) I.2.2.1 I.1.2.2.2.2.1) (vx_cwSW 3 hts gL_law_L_setMark rfl rfl rfl (by decide +kernel) ⟨(Nat.le_of_ble_eq_true rfl), (Nat.le_of_ble_eq_true rfl)⟩) hE I rfl rfl hl.1 (Nat.le_of_ble_eq_true rfl) dL_law_720 hcs (fun H1 locs1 hz1 hB hPm hS1 => ?_)
  refine lv_istore hx hb dL_law_723 hl (by decide) rfl (fun ls hl => ?_)
  refine lv_aload_n hx hb dL_law_725 rfl (lv_at hl 3 rfl) ?_
  refine lo_arg (j := 1) hx hb hX hbl hS1 hL hk (by decide) (by decide) (lv_at hl 1 rfl) (lv_at hl 5 rfl) dL_law_726 dL_law_727 dL_law_729 dL_law_730 dL_law_731 ?_
  refine ef_Vi (As := [.int (xs (k4 + 1))]) (rest := []) hcw (c_X3_setMark l D K H1.size am th M n d (xs (k4 + 1)) I.2.1.mok) (cwV 1 hts gL_law_X3_setMark rfl rfl rfl (by decide +kernel) ⟨(Nat.le_of_ble_eq_true rfl), (Nat.le_of_ble_eq_true rfl)⟩) hPm I.2.2.2.2.2.2.1 hE.1 hE.2.2.1 (va_recv hE.1 hPm (ci := 3) (q0 := 0) rfl rfl) rfl rfl hl.1 (Nat.le_of_ble_eq_true rfl) dL_law_732 hcs hS1 (lI_free I hS1.1) (fun H2 locs2 hP2 hD2 hz2 hk2 hS2 => ?_)
  refine lv_istore hx hb dL_law_735 hl (by decide) rfl (fun ls hl => ?_)
  obtain ⟨t1, t2, t3⟩ := lI_step I hz1 (hB.to (fun h => lB.refl I.2.2.1 h)) hz2 hk2 hP2 hD2 hS2 (step_setMark I.2.1 hc0 (xs (k4 + 1)))
  refine lo_head (P := 737) (tgt := 765) hx hb hc hts hE hP2 hcs hl (lv_at hl 4 rfl) (lv_at hl 1 rfl) t1 (by decide) dL_law_737 dL_law_738 dL_law_741 dL_law_743 dL_law_748 dL_law_750 (fun h0 => ?_) (fun h0 => ?_)
  · obtain ⟨hrm, ad2, ha, I2⟩ := t2 h0
    refine lo_cmp (P := 753) hx hb hE I2.2.2.2.2.2.1 (lv_at hl 5 rfl) (lv_at hl 0 rfl) (by rw [hrm]; exact if_pos rfl) dL_law_753 dL_law_754 dL_law_755 dL_law_756 dL_law_758 dL_law_759 dL_law_760 ?_
    refine lv_goto (tgt := 1240) hx hb dL_law_765 (by decide) ?_
    exact kk H2 locs2 ls ad2 _ _ _ _ _ _ ha I2 (lv_sub hl [2, 3, 4, 5, 6] rfl)
  · refine lv_goto (tgt := 1240) hx hb dL_law_765 (by decide) ?_
    exact kk H2 locs2 ls ad _ _ _ _ _ _ rfl (t3 h0) (lv_sub hl [2, 3, 4, 5, 6] rfl)

set_option maxHeartbeats 4000000 in
set_option maxRecDepth 100000 in
theorem lk_worst {p : Program} {e : Env} {s : State} {m : MethodId} {below : List Frame} {meth : Method} {c : Code} {H : Heap} {locs : List Loc} {cells slots : Nat} {Q : State → Prop} {b L k4 c0 : Nat} {xs : Nat → Int32} {D : va_G} {K : Nat → ClassId} {ls : Array Slot} {ad : Nat → Nat → Nat} {am : Nat → Nat} {o : Nat} {f : Nat → Int64} {th : Int32} {n d : Nat} {S : Nat → Nat → Nat → Int32} {M : Nat → Nat → Int32} (l : Launch) (hl0 : l.stackTraces = false) (hx : p.tables.exec = Jvm.exec) (hb : c.code = cL_law) (hc : CallFix p m c cL_law 7 s #[Value.ref b] lw_tbl RL) (hts : ∀ w ∈ wsL_law, w.before #[Value.ref b] s = true) (hE : lE D K s) (hX : va_X b L xs s s.heap) (hbl : b < s.heap.size) (hL : L ≤ 2048) (hk : k4 + 4 ≤ L) (hc0 : c0 < 1000) (hcs : cells + 4 ≤ 601024 ∧ slots + 60 ≤ 7293034) (I : lI D K s ad am o f th n d S M c0 H locs) (hl : lv_has ls 7 (lL b (ad 0 0) (am 0) o k4)) (kk : lKK p l e s m below meth c Q b D K am o k4 (c0 + 1) (ad 0 0) (cells + 4) (slots + 60)) : W p l e room_1 s m #[Value.ref b] below meth c H locs cells slots Q (F0 m 768 ls []) := by
  have hS := I.2.2.2.2.2.2.2
  have hcw : CallFix p m c cL_law 7 s #[Value.ref b] wsL_law RL := ⟨hc.1, hc.2.1, hc.2.2.1, hc.2.2.2.1, hts⟩
  have hcs0 : cells ≤ 601024 ∧ slots ≤ 7293034 := ⟨by omega, by omega⟩
  refine lv_aload_n hx hb dL_law_768 rfl (lv_at hl 1 rfl) ?_
  refine pu_V (As := []) (rest := []) hcw (c_X2_worst l D K ad n d S) (cwV 0 hts gL_law_X2_worst rfl rfl rfl (by decide +kernel) ⟨(Nat.le_of_ble_eq_true rfl), (Nat.le_of_ble_eq_true rfl)⟩) I.2.2.2.1 hE.1 hE.2.2.1 (va_recv hE.1 I.2.2.2.1.2.2.1 (ci := 2) (q0 := 0) rfl rfl) rfl rfl hl.1 (Nat.le_of_ble_eq_true rfl) dL_law_769 hcs0 ?_
  refine lv_aload_n hx hb dL_law_772 rfl (lv_at hl 2 rfl) ?_
  refine ef_Vi (As := []) (rest := [.int (sp_X2_worst n S)]) hcw (c_X3_worst l D K H.size am th M n d I.2.1.mok) (cwV 0 hts gL_law_X3_worst rfl rfl rfl (by decide +kernel) ⟨(Nat.le_of_ble_eq_true rfl), (Nat.le_of_ble_eq_true rfl)⟩) I.2.2.2.2.1 I.2.2.2.2.2.2.1 hE.1 hE.2.2.1 (va_recv hE.1 I.2.2.2.2.1 (ci := 3) (q0 := 0) rfl rfl) rfl rfl hl.1 (Nat.le_of_ble_eq_true rfl) dL_law_773 hcs0 hS (lI_free I hS.1) (fun H2 locs2 hP2 hD2 hz2 hk2 hS2 => ?_)
  obtain ⟨w1, w2⟩ := step_worst I.2.1 hc0
  refine lv_icmp_eq (tgt := 1240) hx hb dL_law_776 (by decide) (fun _ => ?_) (fun h => absurd w1.symm h)
  refine W.widen (k := cells + 4) (n := slots + 60) (by omega) (by omega) ?_
  exact kk H2 locs2 ls ad f _ n d S _ rfl (lI_mod I hz2 hk2 hP2 hD2 hS2 w2) hl

set_option maxHeartbeats 4000000 in
set_option maxRecDepth 100000 in
theorem lk_file {p : Program} {e : Env} {s : State} {m : MethodId} {below : List Frame} {meth : Method} {c : Code} {H : Heap} {locs : List Loc} {cells slots : Nat} {Q : State → Prop} {b L k4 c0 : Nat} {xs : Nat → Int32} {D : va_G} {K : Nat → ClassId} {ls : Array Slot} {ad : Nat → Nat → Nat} {am : Nat → Nat} {o : Nat} {f : Nat → Int64} {th : Int32} {n d : Nat} {S : Nat → Nat → Nat → Int32} {M : Nat → Nat → Int32} (l : Launch) (hl0 : l.stackTraces = false) (hx : p.tables.exec = Jvm.exec) (hb : c.code = cL_law) (hc : CallFix p m c cL_law 7 s #[Value.ref b] lw_tbl RL) (hts : ∀ w ∈ wsL_law, w.before #[Value.ref b] s = true) (hE : lE D K s) (hX : va_X b L xs s s.heap) (hbl : b < s.heap.size) (hL : L ≤ 2048) (hk : k4 + 4 ≤ L) (hc0 : c0 < 1000) (hcs : cells + 4 ≤ 601024 ∧ slots + 60 ≤ 7293034) (I : lI D K s ad am o f th n d S M c0 H locs) (hl : lv_has ls 7 (lL b (ad 0 0) (am 0) o k4)) (kk : lKK p l e s m below meth c Q b D K am o k4 (c0 + 1) (ad 0 0) (cells + 4) (slots + 60)) : W p l e room_1 s m #[Value.ref b] below meth c H locs cells slots Q (F0 m 781 ls []) := by
  have hS := I.2.2.2.2.2.2.2
  have hcw : CallFix p m c cL_law 7 s #[Value.ref b] wsL_law RL := ⟨hc.1, hc.2.1, hc.2.2.1, hc.2.2.2.1, hts⟩
  have hcs0 : cells ≤ 601024 ∧ slots ≤ 7293034 := ⟨by omega, by omega⟩
  refine lv_aload_n hx hb dL_law_781 rfl (lv_at hl 1 rfl) ?_
  refine lo_arg (j := 1) hx hb hX hbl hS hL hk (by decide) (by decide) (lv_at hl 0 rfl) (lv_at hl 4 rfl) dL_law_782 dL_law_783 dL_law_785 dL_law_786 dL_law_787 ?_
  refine lo_arg (j := 2) hx hb hX hbl hS hL hk (by decide) (by decide) (lv_at hl 0 rfl) (lv_at hl 4 rfl) dL_law_788 dL_law_789 dL_law_791 dL_law_792 dL_law_793 ?_
  refine lv_aload_n hx hb dL_law_794 rfl (lv_at hl 3 rfl) ?_
  refine lc_S (As := [.ref (ad 0 0), .int (xs (k4 + 1)), .int (xs (k4 + 2)), .ref o]) (rest := []) hcw (c_L_file l hl0 D K H.size ad n d S o f (xs (k4 + 1)) (xs (k4 + 2)) I.2.2.1 I.1.2.2.2.2.1) (vx_cwSW 4 hts gL_law_L_file rfl rfl rfl (by decide +kernel) ⟨(Nat.le_of_ble_eq_true rfl), (Nat.le_of_ble_eq_true rfl)⟩) hE I rfl rfl hl.1 (Nat.le_of_ble_eq_true rfl) dL_law_795 hcs (fun H1 locs1 hz1 hB hPm hS1 => ?_)
  refine lv_istore hx hb dL_law_798 hl (by decide) rfl (fun ls hl => ?_)
  refine lv_aload_n hx hb dL_law_800 rfl (lv_at hl 3 rfl) ?_
  refine lo_arg (j := 1) hx hb hX hbl hS1 hL hk (by decide) (by decide) (lv_at hl 1 rfl) (lv_at hl 5 rfl) dL_law_801 dL_law_802 dL_law_804 dL_law_805 dL_law_806 ?_
  refine lo_arg (j := 2) hx hb hX hbl hS1 hL hk (by decide) (by decide) (lv_at hl 1 rfl) (lv_at hl 5 rfl) dL_law_807 dL_law_808 dL_law_810 dL_law_811 dL_law_812 ?_
  refine ef_Vi (As := [.int (xs (k4 + 1)), .int (xs (k4 + 2))]) (rest := []) hcw (c_X3_file l D K H1.size am th M n d (xs (k4 + 1)) (xs (k4 + 2)) I.2.1.mok) (cwV 2 hts gL_law_X3_file rfl rfl rfl (by decide +kernel) ⟨(Nat.le_of_ble_eq_true rfl), (Nat.le_of_ble_eq_true rfl)⟩) hPm I.2.2.2.2.2.2.1 hE.1 hE.2.2.1 (va_recv hE.1 hPm (ci := 3) (q0 := 0) rfl rfl) rfl rfl hl.1 (Nat.le_of_ble_eq_true rfl) dL_law_813 hcs hS1 (lI_free I hS1.1) (fun H2 locs2 hP2 hD2 hz2 hk2 hS2 => ?_)
  refine lv_istore hx hb dL_law_816 hl (by decide) rfl (fun ls hl => ?_)
  obtain ⟨t1, t2, t3⟩ := lI_step I hz1 (hB.to (fun h => h)) hz2 hk2 hP2 hD2 hS2 (step_file I.2.1 hc0 (xs (k4 + 1)) (xs (k4 + 2)))
  refine lo_head (P := 818) (tgt := 846) hx hb hc hts hE hP2 hcs hl (lv_at hl 4 rfl) (lv_at hl 1 rfl) t1 (by decide) dL_law_818 dL_law_819 dL_law_822 dL_law_824 dL_law_829 dL_law_831 (fun h0 => ?_) (fun h0 => ?_)
  · obtain ⟨hrm, ad2, ha, I2⟩ := t2 h0
    refine lo_cmp (P := 834) hx hb hE I2.2.2.2.2.2.1 (lv_at hl 5 rfl) (lv_at hl 0 rfl) (by rw [hrm]; exact if_pos rfl) dL_law_834 dL_law_835 dL_law_836 dL_law_837 dL_law_839 dL_law_840 dL_law_841 ?_
    refine lv_goto (tgt := 1240) hx hb dL_law_846 (by decide) ?_
    exact kk H2 locs2 ls ad2 _ _ _ _ _ _ ha I2 (lv_sub hl [2, 3, 4, 5, 6] rfl)
  · refine lv_goto (tgt := 1240) hx hb dL_law_846 (by decide) ?_
    exact kk H2 locs2 ls ad _ _ _ _ _ _ rfl (t3 h0) (lv_sub hl [2, 3, 4, 5, 6] rfl)

set_option maxHeartbeats 4000000 in
set_option maxRecDepth 100000 in
theorem lk_matters {p : Program} {e : Env} {s : State} {m : MethodId} {below : List Frame} {meth : Method} {c : Code} {H : Heap} {locs : List Loc} {cells slots : Nat} {Q : State → Prop} {b L k4 c0 : Nat} {xs : Nat → Int32} {D : va_G} {K : Nat → ClassId} {ls : Array Slot} {ad : Nat → Nat → Nat} {am : Nat → Nat} {o : Nat} {f : Nat → Int64} {th : Int32} {n d : Nat} {S : Nat → Nat → Nat → Int32} {M : Nat → Nat → Int32} (l : Launch) (hl0 : l.stackTraces = false) (hx : p.tables.exec = Jvm.exec) (hb : c.code = cL_law) (hc : CallFix p m c cL_law 7 s #[Value.ref b] lw_tbl RL) (hts : ∀ w ∈ wsL_law, w.before #[Value.ref b] s = true) (hE : lE D K s) (hX : va_X b L xs s s.heap) (hbl : b < s.heap.size) (hL : L ≤ 2048) (hk : k4 + 4 ≤ L) (hc0 : c0 < 1000) (hcs : cells + 4 ≤ 601024 ∧ slots + 60 ≤ 7293034) (I : lI D K s ad am o f th n d S M c0 H locs) (hl : lv_has ls 7 (lL b (ad 0 0) (am 0) o k4)) (kk : lKK p l e s m below meth c Q b D K am o k4 (c0 + 1) (ad 0 0) (cells + 4) (slots + 60)) : W p l e room_1 s m #[Value.ref b] below meth c H locs cells slots Q (F0 m 849 ls []) := by
  have hS := I.2.2.2.2.2.2.2
  have hcw : CallFix p m c cL_law 7 s #[Value.ref b] wsL_law RL := ⟨hc.1, hc.2.1, hc.2.2.1, hc.2.2.2.1, hts⟩
  have hcs0 : cells ≤ 601024 ∧ slots ≤ 7293034 := ⟨by omega, by omega⟩
  refine lv_aload_n hx hb dL_law_849 rfl (lv_at hl 1 rfl) ?_
  refine lo_arg (j := 1) hx hb hX hbl hS hL hk (by decide) (by decide) (lv_at hl 0 rfl) (lv_at hl 4 rfl) dL_law_850 dL_law_851 dL_law_853 dL_law_854 dL_law_855 ?_
  refine lv_aload_n hx hb dL_law_856 rfl (lv_at hl 3 rfl) ?_
  refine lc_S (As := [.ref (ad 0 0), .int (xs (k4 + 1)), .ref o]) (rest := []) hcw (c_L_matters l hl0 D K H.size ad n d S o f (xs (k4 + 1)) I.1.2.2.2.2.1) (vx_cwSW 3 hts gL_law_L_matters rfl rfl rfl (by decide +kernel) ⟨(Nat.le_of_ble_eq_true rfl), (Nat.le_of_ble_eq_true rfl)⟩) hE I rfl rfl hl.1 (Nat.le_of_ble_eq_true rfl) dL_law_857 hcs (fun H1 locs1 hz1 hB hPm hS1 => ?_)
  refine lv_istore hx hb dL_law_860 hl (by decide) rfl (fun ls hl => ?_)
  refine lv_aload_n hx hb dL_law_862 rfl (lv_at hl 3 rfl) ?_
  refine lo_arg (j := 1) hx hb hX hbl hS1 hL hk (by decide) (by decide) (lv_at hl 1 rfl) (lv_at hl 5 rfl) dL_law_863 dL_law_864 dL_law_866 dL_law_867 dL_law_868 ?_
  refine ef_Vi (As := [.int (xs (k4 + 1))]) (rest := []) hcw (c_X3_matters l D K H1.size am th M n d (xs (k4 + 1)) I.2.1.mok) (cwV 1 hts gL_law_X3_matters rfl rfl rfl (by decide +kernel) ⟨(Nat.le_of_ble_eq_true rfl), (Nat.le_of_ble_eq_true rfl)⟩) hPm I.2.2.2.2.2.2.1 hE.1 hE.2.2.1 (va_recv hE.1 hPm (ci := 3) (q0 := 0) rfl rfl) rfl rfl hl.1 (Nat.le_of_ble_eq_true rfl) dL_law_869 hcs hS1 (lI_free I hS1.1) (fun H2 locs2 hP2 hD2 hz2 hk2 hS2 => ?_)
  refine lv_istore hx hb dL_law_872 hl (by decide) rfl (fun ls hl => ?_)
  obtain ⟨t1, t2, t3⟩ := lI_step I hz1 (hB.to (fun h => lB.refl I.2.2.1 h)) hz2 hk2 hP2 hD2 hS2 (step_matters I.2.1 hc0 (xs (k4 + 1)))
  refine lo_head (P := 874) (tgt := 902) hx hb hc hts hE hP2 hcs hl (lv_at hl 4 rfl) (lv_at hl 1 rfl) t1 (by decide) dL_law_874 dL_law_875 dL_law_878 dL_law_880 dL_law_885 dL_law_887 (fun h0 => ?_) (fun h0 => ?_)
  · obtain ⟨hrm, ad2, ha, I2⟩ := t2 h0
    refine lo_cmp (P := 890) hx hb hE I2.2.2.2.2.2.1 (lv_at hl 5 rfl) (lv_at hl 0 rfl) (by rw [hrm]; exact if_pos rfl) dL_law_890 dL_law_891 dL_law_892 dL_law_893 dL_law_895 dL_law_896 dL_law_897 ?_
    refine lv_goto (tgt := 1240) hx hb dL_law_902 (by decide) ?_
    exact kk H2 locs2 ls ad2 _ _ _ _ _ _ ha I2 (lv_sub hl [2, 3, 4, 5, 6] rfl)
  · refine lv_goto (tgt := 1240) hx hb dL_law_902 (by decide) ?_
    exact kk H2 locs2 ls ad _ _ _ _ _ _ rfl (t3 h0) (lv_sub hl [2, 3, 4, 5, 6] rfl)

set_option maxHeartbeats 4000000 in
set_option maxRecDepth 100000 in
theorem lk_tell {p : Program} {e : Env} {s : State} {m : MethodId} {below : List Frame} {meth : Method} {c : Code} {H : Heap} {locs : List Loc} {cells slots : Nat} {Q : State → Prop} {b L k4 c0 : Nat} {xs : Nat → Int32} {D : va_G} {K : Nat → ClassId} {ls : Array Slot} {ad : Nat → Nat → Nat} {am : Nat → Nat} {o : Nat} {f : Nat → Int64} {th : Int32} {n d : Nat} {S : Nat → Nat → Nat → Int32} {M : Nat → Nat → Int32} (l : Launch) (hl0 : l.stackTraces = false) (hx : p.tables.exec = Jvm.exec) (hb : c.code = cL_law) (hc : CallFix p m c cL_law 7 s #[Value.ref b] lw_tbl RL) (hts : ∀ w ∈ wsL_law, w.before #[Value.ref b] s = true) (hE : lE D K s) (hX : va_X b L xs s s.heap) (hbl : b < s.heap.size) (hL : L ≤ 2048) (hk : k4 + 4 ≤ L) (hc0 : c0 < 1000) (hcs : cells + 4 ≤ 601024 ∧ slots + 60 ≤ 7293034) (I : lI D K s ad am o f th n d S M c0 H locs) (hl : lv_has ls 7 (lL b (ad 0 0) (am 0) o k4)) (kk : lKK p l e s m below meth c Q b D K am o k4 (c0 + 1) (ad 0 0) (cells + 4) (slots + 60)) : W p l e room_1 s m #[Value.ref b] below meth c H locs cells slots Q (F0 m 905 ls []) := by
  have hS := I.2.2.2.2.2.2.2
  have hcw : CallFix p m c cL_law 7 s #[Value.ref b] wsL_law RL := ⟨hc.1, hc.2.1, hc.2.2.1, hc.2.2.2.1, hts⟩
  have hcs0 : cells ≤ 601024 ∧ slots ≤ 7293034 := ⟨by omega, by omega⟩
  refine lv_aload_n hx hb dL_law_905 rfl (lv_at hl 1 rfl) ?_
  refine lo_arg (j := 1) hx hb hX hbl hS hL hk (by decide) (by decide) (lv_at hl 0 rfl) (lv_at hl 4 rfl) dL_law_906 dL_law_907 dL_law_909 dL_law_910 dL_law_911 ?_
  refine lo_arg (j := 2) hx hb hX hbl hS hL hk (by decide) (by decide) (lv_at hl 0 rfl) (lv_at hl 4 rfl) dL_law_912 dL_law_913 dL_law_915 dL_law_916 dL_law_917 ?_
  refine lo_arg (j := 3) hx hb hX hbl hS hL hk (by decide) (by decide) (lv_at hl 0 rfl) (lv_at hl 4 rfl) dL_law_918 dL_law_919 dL_law_921 dL_law_922 dL_law_923 ?_
  refine lv_aload_n hx hb dL_law_924 rfl (lv_at hl 3 rfl) ?_
  refine lc_S (As := [.ref (ad 0 0), .int (xs (k4 + 1)), .int (xs (k4 + 2)), .int (xs (k4 + 3)), .ref o]) (rest := []) hcw (c_L_tell l hl0 D K H.size ad n d S o f (xs (k4 + 1)) (xs (k4 + 2)) (xs (k4 + 3)) I.2.2.1 I.2.1.hz I.2.1.hO I.1.2.2.2.2.1) (vx_cwSW 5 hts gL_law_L_tell rfl rfl rfl (by decide +kernel) ⟨(Nat.le_of_ble_eq_true rfl), (Nat.le_of_ble_eq_true rfl)⟩) hE I rfl rfl hl.1 (Nat.le_of_ble_eq_true rfl) dL_law_925 hcs (fun H1 locs1 hz1 hB hPm hS1 => ?_)
  refine lv_istore hx hb dL_law_928 hl (by decide) rfl (fun ls hl => ?_)
  refine lv_aload_n hx hb dL_law_930 rfl (lv_at hl 3 rfl) ?_
  refine lo_arg (j := 1) hx hb hX hbl hS1 hL hk (by decide) (by decide) (lv_at hl 1 rfl) (lv_at hl 5 rfl) dL_law_931 dL_law_932 dL_law_934 dL_law_935 dL_law_936 ?_
  refine lo_arg (j := 2) hx hb hX hbl hS1 hL hk (by decide) (by decide) (lv_at hl 1 rfl) (lv_at hl 5 rfl) dL_law_937 dL_law_938 dL_law_940 dL_law_941 dL_law_942 ?_
  refine lo_arg (j := 3) hx hb hX hbl hS1 hL hk (by decide) (by decide) (lv_at hl 1 rfl) (lv_at hl 5 rfl) dL_law_943 dL_law_944 dL_law_946 dL_law_947 dL_law_948 ?_
  refine ef_Vi (As := [.int (xs (k4 + 1)), .int (xs (k4 + 2)), .int (xs (k4 + 3))]) (rest := []) hcw (c_X3_tell l D K H1.size am th M n d (xs (k4 + 1)) (xs (k4 + 2)) (xs (k4 + 3)) I.2.1.mok) (cwV 3 hts gL_law_X3_tell rfl rfl rfl (by decide +kernel) ⟨(Nat.le_of_ble_eq_true rfl), (Nat.le_of_ble_eq_true rfl)⟩) hPm I.2.2.2.2.2.2.1 hE.1 hE.2.2.1 (va_recv hE.1 hPm (ci := 3) (q0 := 0) rfl rfl) rfl rfl hl.1 (Nat.le_of_ble_eq_true rfl) dL_law_949 hcs hS1 (lI_free I hS1.1) (fun H2 locs2 hP2 hD2 hz2 hk2 hS2 => ?_)
  refine lv_istore hx hb dL_law_952 hl (by decide) rfl (fun ls hl => ?_)
  obtain ⟨t1, t2, t3⟩ := lI_step I hz1 (hB.to (fun h => lB.refl I.2.2.1 h)) hz2 hk2 hP2 hD2 hS2 (step_tell I.2.1 hc0 (xs (k4 + 1)) (xs (k4 + 2)) (xs (k4 + 3)))
  refine lo_head (P := 954) (tgt := 989) hx hb hc hts hE hP2 hcs hl (lv_at hl 4 rfl) (lv_at hl 1 rfl) t1 (by decide) dL_law_954 dL_law_955 dL_law_958 dL_law_960 dL_law_965 dL_law_967 (fun h0 => ?_) (fun h0 => ?_)
  · obtain ⟨hrm, ad2, ha, I2⟩ := t2 h0
    refine lo_cmpZ (P := 970) hx hb hE I2.2.2.2.2.2.1 (lv_at hl 5 rfl) (lv_at hl 0 rfl) (by rw [hrm]; exact if_pos rfl) dL_law_970 dL_law_971 dL_law_972 dL_law_973 dL_law_975 dL_law_978 dL_law_979 dL_law_982 dL_law_983 dL_law_984 ?_
    refine lv_goto (tgt := 1240) hx hb dL_law_989 (by decide) ?_
    exact kk H2 locs2 ls ad2 _ _ _ _ _ _ ha I2 (lv_sub hl [2, 3, 4, 5, 6] rfl)
  · refine lv_goto (tgt := 1240) hx hb dL_law_989 (by decide) ?_
    exact kk H2 locs2 ls ad _ _ _ _ _ _ rfl (t3 h0) (lv_sub hl [2, 3, 4, 5, 6] rfl)

set_option maxHeartbeats 4000000 in
set_option maxRecDepth 100000 in
theorem lk_compensate {p : Program} {e : Env} {s : State} {m : MethodId} {below : List Frame} {meth : Method} {c : Code} {H : Heap} {locs : List Loc} {cells slots : Nat} {Q : State → Prop} {b L k4 c0 : Nat} {xs : Nat → Int32} {D : va_G} {K : Nat → ClassId} {ls : Array Slot} {ad : Nat → Nat → Nat} {am : Nat → Nat} {o : Nat} {f : Nat → Int64} {th : Int32} {n d : Nat} {S : Nat → Nat → Nat → Int32} {M : Nat → Nat → Int32} (l : Launch) (hl0 : l.stackTraces = false) (hx : p.tables.exec = Jvm.exec) (hb : c.code = cL_law) (hc : CallFix p m c cL_law 7 s #[Value.ref b] lw_tbl RL) (hts : ∀ w ∈ wsL_law, w.before #[Value.ref b] s = true) (hE : lE D K s) (hX : va_X b L xs s s.heap) (hbl : b < s.heap.size) (hL : L ≤ 2048) (hk : k4 + 4 ≤ L) (hc0 : c0 < 1000) (hcs : cells + 4 ≤ 601024 ∧ slots + 60 ≤ 7293034) (I : lI D K s ad am o f th n d S M c0 H locs) (hl : lv_has ls 7 (lL b (ad 0 0) (am 0) o k4)) (kk : lKK p l e s m below meth c Q b D K am o k4 (c0 + 1) (ad 0 0) (cells + 4) (slots + 60)) : W p l e room_1 s m #[Value.ref b] below meth c H locs cells slots Q (F0 m 992 ls []) := by
  have hS := I.2.2.2.2.2.2.2
  have hcw : CallFix p m c cL_law 7 s #[Value.ref b] wsL_law RL := ⟨hc.1, hc.2.1, hc.2.2.1, hc.2.2.2.1, hts⟩
  have hcs0 : cells ≤ 601024 ∧ slots ≤ 7293034 := ⟨by omega, by omega⟩
  refine lv_aload_n hx hb dL_law_992 rfl (lv_at hl 1 rfl) ?_
  refine lo_arg (j := 1) hx hb hX hbl hS hL hk (by decide) (by decide) (lv_at hl 0 rfl) (lv_at hl 4 rfl) dL_law_993 dL_law_994 dL_law_996 dL_law_997 dL_law_998 ?_
  refine lo_arg (j := 2) hx hb hX hbl hS hL hk (by decide) (by decide) (lv_at hl 0 rfl) (lv_at hl 4 rfl) dL_law_999 dL_law_1000 dL_law_1002 dL_law_1003 dL_law_1004 ?_
  refine lv_aload_n hx hb dL_law_1005 rfl (lv_at hl 3 rfl) ?_
  refine lc_S (As := [.ref (ad 0 0), .int (xs (k4 + 1)), .int (xs (k4 + 2)), .ref o]) (rest := []) hcw (c_L_compensate l hl0 D K H.size ad n d S o f (xs (k4 + 1)) (xs (k4 + 2)) I.2.2.1 I.1.2.2.2.2.1) (vx_cwSW 4 hts gL_law_L_compensate rfl rfl rfl (by decide +kernel) ⟨(Nat.le_of_ble_eq_true rfl), (Nat.le_of_ble_eq_true rfl)⟩) hE I rfl rfl hl.1 (Nat.le_of_ble_eq_true rfl) dL_law_1006 hcs (fun H1 locs1 hz1 hB hPm hS1 => ?_)
  refine lv_istore hx hb dL_law_1009 hl (by decide) rfl (fun ls hl => ?_)
  refine lv_aload_n hx hb dL_law_1011 rfl (lv_at hl 3 rfl) ?_
  refine lo_arg (j := 1) hx hb hX hbl hS1 hL hk (by decide) (by decide) (lv_at hl 1 rfl) (lv_at hl 5 rfl) dL_law_1012 dL_law_1013 dL_law_1015 dL_law_1016 dL_law_1017 ?_
  refine lo_arg (j := 2) hx hb hX hbl hS1 hL hk (by decide) (by decide) (lv_at hl 1 rfl) (lv_at hl 5 rfl) dL_law_1018 dL_law_1019 dL_law_1021 dL_law_1022 dL_law_1023 ?_
  refine ef_Vi (As := [.int (xs (k4 + 1)), .int (xs (k4 + 2))]) (rest := []) hcw (c_X3_compensate l D K H1.size am th M n d (xs (k4 + 1)) (xs (k4 + 2)) I.2.1.mok) (cwV 2 hts gL_law_X3_compensate rfl rfl rfl (by decide +kernel) ⟨(Nat.le_of_ble_eq_true rfl), (Nat.le_of_ble_eq_true rfl)⟩) hPm I.2.2.2.2.2.2.1 hE.1 hE.2.2.1 (va_recv hE.1 hPm (ci := 3) (q0 := 0) rfl rfl) rfl rfl hl.1 (Nat.le_of_ble_eq_true rfl) dL_law_1024 hcs hS1 (lI_free I hS1.1) (fun H2 locs2 hP2 hD2 hz2 hk2 hS2 => ?_)
  refine lv_istore hx hb dL_law_1027 hl (by decide) rfl (fun ls hl => ?_)
  obtain ⟨t1, t2, t3⟩ := lI_step I hz1 (hB.to (fun h => lB.refl I.2.2.1 h)) hz2 hk2 hP2 hD2 hS2 (step_compensate I.2.1 hc0 (xs (k4 + 1)) (xs (k4 + 2)))
  refine lo_head (P := 1029) (tgt := 1057) hx hb hc hts hE hP2 hcs hl (lv_at hl 4 rfl) (lv_at hl 1 rfl) t1 (by decide) dL_law_1029 dL_law_1030 dL_law_1033 dL_law_1035 dL_law_1040 dL_law_1042 (fun h0 => ?_) (fun h0 => ?_)
  · obtain ⟨hrm, ad2, ha, I2⟩ := t2 h0
    refine lo_cmp (P := 1045) hx hb hE I2.2.2.2.2.2.1 (lv_at hl 5 rfl) (lv_at hl 0 rfl) (by rw [hrm]; exact if_pos rfl) dL_law_1045 dL_law_1046 dL_law_1047 dL_law_1048 dL_law_1050 dL_law_1051 dL_law_1052 ?_
    refine lv_goto (tgt := 1240) hx hb dL_law_1057 (by decide) ?_
    exact kk H2 locs2 ls ad2 _ _ _ _ _ _ ha I2 (lv_sub hl [2, 3, 4, 5, 6] rfl)
  · refine lv_goto (tgt := 1240) hx hb dL_law_1057 (by decide) ?_
    exact kk H2 locs2 ls ad _ _ _ _ _ _ rfl (t3 h0) (lv_sub hl [2, 3, 4, 5, 6] rfl)

set_option maxHeartbeats 4000000 in
set_option maxRecDepth 100000 in
theorem lk_close {p : Program} {e : Env} {s : State} {m : MethodId} {below : List Frame} {meth : Method} {c : Code} {H : Heap} {locs : List Loc} {cells slots : Nat} {Q : State → Prop} {b L k4 c0 : Nat} {xs : Nat → Int32} {D : va_G} {K : Nat → ClassId} {ls : Array Slot} {ad : Nat → Nat → Nat} {am : Nat → Nat} {o : Nat} {f : Nat → Int64} {th : Int32} {n d : Nat} {S : Nat → Nat → Nat → Int32} {M : Nat → Nat → Int32} (l : Launch) (hl0 : l.stackTraces = false) (hx : p.tables.exec = Jvm.exec) (hb : c.code = cL_law) (hc : CallFix p m c cL_law 7 s #[Value.ref b] lw_tbl RL) (hts : ∀ w ∈ wsL_law, w.before #[Value.ref b] s = true) (hE : lE D K s) (hX : va_X b L xs s s.heap) (hbl : b < s.heap.size) (hL : L ≤ 2048) (hk : k4 + 4 ≤ L) (hc0 : c0 < 1000) (hcs : cells + 4 ≤ 601024 ∧ slots + 60 ≤ 7293034) (I : lI D K s ad am o f th n d S M c0 H locs) (hl : lv_has ls 7 (lL b (ad 0 0) (am 0) o k4)) (kk : lKK p l e s m below meth c Q b D K am o k4 (c0 + 1) (ad 0 0) (cells + 4) (slots + 60)) : W p l e room_1 s m #[Value.ref b] below meth c H locs cells slots Q (F0 m 1060 ls []) := by
  have hS := I.2.2.2.2.2.2.2
  have hcw : CallFix p m c cL_law 7 s #[Value.ref b] wsL_law RL := ⟨hc.1, hc.2.1, hc.2.2.1, hc.2.2.2.1, hts⟩
  have hcs0 : cells ≤ 601024 ∧ slots ≤ 7293034 := ⟨by omega, by omega⟩
  refine lv_aload_n hx hb dL_law_1060 rfl (lv_at hl 1 rfl) ?_
  refine lo_arg (j := 1) hx hb hX hbl hS hL hk (by decide) (by decide) (lv_at hl 0 rfl) (lv_at hl 4 rfl) dL_law_1061 dL_law_1062 dL_law_1064 dL_law_1065 dL_law_1066 ?_
  refine lv_aload_n hx hb dL_law_1067 rfl (lv_at hl 3 rfl) ?_
  refine lc_S (As := [.ref (ad 0 0), .int (xs (k4 + 1)), .ref o]) (rest := []) hcw (c_L_close l hl0 D K H.size ad n d S o f (xs (k4 + 1)) I.2.2.1 I.2.1.hz I.2.1.hO I.1.2.2.2.2.1) (vx_cwSW 3 hts gL_law_L_close rfl rfl rfl (by decide +kernel) ⟨(Nat.le_of_ble_eq_true rfl), (Nat.le_of_ble_eq_true rfl)⟩) hE I rfl rfl hl.1 (Nat.le_of_ble_eq_true rfl) dL_law_1068 hcs (fun H1 locs1 hz1 hB hPm hS1 => ?_)
  refine lv_istore hx hb dL_law_1071 hl (by decide) rfl (fun ls hl => ?_)
  refine lv_aload_n hx hb dL_law_1073 rfl (lv_at hl 3 rfl) ?_
  refine lo_arg (j := 1) hx hb hX hbl hS1 hL hk (by decide) (by decide) (lv_at hl 1 rfl) (lv_at hl 5 rfl) dL_law_1074 dL_law_1075 dL_law_1077 dL_law_1078 dL_law_1079 ?_
  refine ef_Vi (As := [.int (xs (k4 + 1))]) (rest := []) hcw (c_X3_close l D K H1.size am th M n d (xs (k4 + 1)) I.2.1.mok) (cwV 1 hts gL_law_X3_close rfl rfl rfl (by decide +kernel) ⟨(Nat.le_of_ble_eq_true rfl), (Nat.le_of_ble_eq_true rfl)⟩) hPm I.2.2.2.2.2.2.1 hE.1 hE.2.2.1 (va_recv hE.1 hPm (ci := 3) (q0 := 0) rfl rfl) rfl rfl hl.1 (Nat.le_of_ble_eq_true rfl) dL_law_1080 hcs hS1 (lI_free I hS1.1) (fun H2 locs2 hP2 hD2 hz2 hk2 hS2 => ?_)
  refine lv_istore hx hb dL_law_1083 hl (by decide) rfl (fun ls hl => ?_)
  obtain ⟨t1, t2, t3⟩ := lI_step I hz1 (hB.to (fun h => lB.refl I.2.2.1 h)) hz2 hk2 hP2 hD2 hS2 (step_close I.2.1 hc0 (xs (k4 + 1)))
  refine lo_head (P := 1085) (tgt := 1113) hx hb hc hts hE hP2 hcs hl (lv_at hl 4 rfl) (lv_at hl 1 rfl) t1 (by decide) dL_law_1085 dL_law_1086 dL_law_1089 dL_law_1091 dL_law_1096 dL_law_1098 (fun h0 => ?_) (fun h0 => ?_)
  · obtain ⟨hrm, ad2, ha, I2⟩ := t2 h0
    refine lo_cmp (P := 1101) hx hb hE I2.2.2.2.2.2.1 (lv_at hl 5 rfl) (lv_at hl 0 rfl) (by rw [hrm]; exact if_pos rfl) dL_law_1101 dL_law_1102 dL_law_1103 dL_law_1104 dL_law_1106 dL_law_1107 dL_law_1108 ?_
    refine lv_goto (tgt := 1240) hx hb dL_law_1113 (by decide) ?_
    exact kk H2 locs2 ls ad2 _ _ _ _ _ _ ha I2 (lv_sub hl [2, 3, 4, 5, 6] rfl)
  · refine lv_goto (tgt := 1240) hx hb dL_law_1113 (by decide) ?_
    exact kk H2 locs2 ls ad _ _ _ _ _ _ rfl (t3 h0) (lv_sub hl [2, 3, 4, 5, 6] rfl)

set_option maxHeartbeats 4000000 in
set_option maxRecDepth 100000 in
theorem lk_fine {p : Program} {e : Env} {s : State} {m : MethodId} {below : List Frame} {meth : Method} {c : Code} {H : Heap} {locs : List Loc} {cells slots : Nat} {Q : State → Prop} {b L k4 c0 : Nat} {xs : Nat → Int32} {D : va_G} {K : Nat → ClassId} {ls : Array Slot} {ad : Nat → Nat → Nat} {am : Nat → Nat} {o : Nat} {f : Nat → Int64} {th : Int32} {n d : Nat} {S : Nat → Nat → Nat → Int32} {M : Nat → Nat → Int32} (l : Launch) (hl0 : l.stackTraces = false) (hx : p.tables.exec = Jvm.exec) (hb : c.code = cL_law) (hc : CallFix p m c cL_law 7 s #[Value.ref b] lw_tbl RL) (hts : ∀ w ∈ wsL_law, w.before #[Value.ref b] s = true) (hE : lE D K s) (hX : va_X b L xs s s.heap) (hbl : b < s.heap.size) (hL : L ≤ 2048) (hk : k4 + 4 ≤ L) (hc0 : c0 < 1000) (hcs : cells + 4 ≤ 601024 ∧ slots + 60 ≤ 7293034) (I : lI D K s ad am o f th n d S M c0 H locs) (hl : lv_has ls 7 (lL b (ad 0 0) (am 0) o k4)) (kk : lKK p l e s m below meth c Q b D K am o k4 (c0 + 1) (ad 0 0) (cells + 4) (slots + 60)) : W p l e room_1 s m #[Value.ref b] below meth c H locs cells slots Q (F0 m 1116 ls []) := by
  have hS := I.2.2.2.2.2.2.2
  have hcw : CallFix p m c cL_law 7 s #[Value.ref b] wsL_law RL := ⟨hc.1, hc.2.1, hc.2.2.1, hc.2.2.2.1, hts⟩
  have hcs0 : cells ≤ 601024 ∧ slots ≤ 7293034 := ⟨by omega, by omega⟩
  refine lv_aload_n hx hb dL_law_1116 rfl (lv_at hl 1 rfl) ?_
  refine lo_arg (j := 1) hx hb hX hbl hS hL hk (by decide) (by decide) (lv_at hl 0 rfl) (lv_at hl 4 rfl) dL_law_1117 dL_law_1118 dL_law_1120 dL_law_1121 dL_law_1122 ?_
  refine lo_arg (j := 2) hx hb hX hbl hS hL hk (by decide) (by decide) (lv_at hl 0 rfl) (lv_at hl 4 rfl) dL_law_1123 dL_law_1124 dL_law_1126 dL_law_1127 dL_law_1128 ?_
  refine lv_aload_n hx hb dL_law_1129 rfl (lv_at hl 3 rfl) ?_
  refine lc_S (As := [.ref (ad 0 0), .int (xs (k4 + 1)), .int (xs (k4 + 2)), .ref o]) (rest := []) hcw (c_L_fine l hl0 D K H.size ad n d S o f (xs (k4 + 1)) (xs (k4 + 2)) I.1.2.2.2.2.1) (vx_cwSW 4 hts gL_law_L_fine rfl rfl rfl (by decide +kernel) ⟨(Nat.le_of_ble_eq_true rfl), (Nat.le_of_ble_eq_true rfl)⟩) hE I rfl rfl hl.1 (Nat.le_of_ble_eq_true rfl) dL_law_1130 hcs (fun H1 locs1 hz1 hB hPm hS1 => ?_)
  refine lv_istore hx hb dL_law_1133 hl (by decide) rfl (fun ls hl => ?_)
  refine lv_aload_n hx hb dL_law_1135 rfl (lv_at hl 3 rfl) ?_
  refine lo_arg (j := 1) hx hb hX hbl hS1 hL hk (by decide) (by decide) (lv_at hl 1 rfl) (lv_at hl 5 rfl) dL_law_1136 dL_law_1137 dL_law_1139 dL_law_1140 dL_law_1141 ?_
  refine lo_arg (j := 2) hx hb hX hbl hS1 hL hk (by decide) (by decide) (lv_at hl 1 rfl) (lv_at hl 5 rfl) dL_law_1142 dL_law_1143 dL_law_1145 dL_law_1146 dL_law_1147 ?_
  refine ef_Vi (As := [.int (xs (k4 + 1)), .int (xs (k4 + 2))]) (rest := []) hcw (c_X3_fine l D K H1.size am th M n d (xs (k4 + 1)) (xs (k4 + 2)) I.2.1.mok) (cwV 2 hts gL_law_X3_fine rfl rfl rfl (by decide +kernel) ⟨(Nat.le_of_ble_eq_true rfl), (Nat.le_of_ble_eq_true rfl)⟩) hPm I.2.2.2.2.2.2.1 hE.1 hE.2.2.1 (va_recv hE.1 hPm (ci := 3) (q0 := 0) rfl rfl) rfl rfl hl.1 (Nat.le_of_ble_eq_true rfl) dL_law_1148 hcs hS1 (lI_free I hS1.1) (fun H2 locs2 hP2 hD2 hz2 hk2 hS2 => ?_)
  refine lv_istore hx hb dL_law_1151 hl (by decide) rfl (fun ls hl => ?_)
  obtain ⟨t1, t2, t3⟩ := lI_step I hz1 (hB.to (fun h => lB.refl I.2.2.1 h)) hz2 hk2 hP2 hD2 hS2 (step_fine I.2.1 hc0 (xs (k4 + 1)) (xs (k4 + 2)))
  refine lo_head (P := 1153) (tgt := 1181) hx hb hc hts hE hP2 hcs hl (lv_at hl 4 rfl) (lv_at hl 1 rfl) t1 (by decide) dL_law_1153 dL_law_1154 dL_law_1157 dL_law_1159 dL_law_1164 dL_law_1166 (fun h0 => ?_) (fun h0 => ?_)
  · obtain ⟨hrm, ad2, ha, I2⟩ := t2 h0
    refine lo_cmp (P := 1169) hx hb hE I2.2.2.2.2.2.1 (lv_at hl 5 rfl) (lv_at hl 0 rfl) (by rw [hrm]; exact if_pos rfl) dL_law_1169 dL_law_1170 dL_law_1171 dL_law_1172 dL_law_1174 dL_law_1175 dL_law_1176 ?_
    refine lv_goto (tgt := 1240) hx hb dL_law_1181 (by decide) ?_
    exact kk H2 locs2 ls ad2 _ _ _ _ _ _ ha I2 (lv_sub hl [2, 3, 4, 5, 6] rfl)
  · refine lv_goto (tgt := 1240) hx hb dL_law_1181 (by decide) ?_
    exact kk H2 locs2 ls ad _ _ _ _ _ _ rfl (t3 h0) (lv_sub hl [2, 3, 4, 5, 6] rfl)

set_option maxHeartbeats 4000000 in
set_option maxRecDepth 100000 in
theorem lk_firstTeller {p : Program} {e : Env} {s : State} {m : MethodId} {below : List Frame} {meth : Method} {c : Code} {H : Heap} {locs : List Loc} {cells slots : Nat} {Q : State → Prop} {b L k4 c0 : Nat} {xs : Nat → Int32} {D : va_G} {K : Nat → ClassId} {ls : Array Slot} {ad : Nat → Nat → Nat} {am : Nat → Nat} {o : Nat} {f : Nat → Int64} {th : Int32} {n d : Nat} {S : Nat → Nat → Nat → Int32} {M : Nat → Nat → Int32} (l : Launch) (hl0 : l.stackTraces = false) (hx : p.tables.exec = Jvm.exec) (hb : c.code = cL_law) (hc : CallFix p m c cL_law 7 s #[Value.ref b] lw_tbl RL) (hts : ∀ w ∈ wsL_law, w.before #[Value.ref b] s = true) (hE : lE D K s) (hX : va_X b L xs s s.heap) (hbl : b < s.heap.size) (hL : L ≤ 2048) (hk : k4 + 4 ≤ L) (hc0 : c0 < 1000) (hcs : cells + 4 ≤ 601024 ∧ slots + 60 ≤ 7293034) (I : lI D K s ad am o f th n d S M c0 H locs) (hl : lv_has ls 7 (lL b (ad 0 0) (am 0) o k4)) (kk : lKK p l e s m below meth c Q b D K am o k4 (c0 + 1) (ad 0 0) (cells + 4) (slots + 60)) : W p l e room_1 s m #[Value.ref b] below meth c H locs cells slots Q (F0 m 1184 ls []) := by
  have hS := I.2.2.2.2.2.2.2
  have hcw : CallFix p m c cL_law 7 s #[Value.ref b] wsL_law RL := ⟨hc.1, hc.2.1, hc.2.2.1, hc.2.2.2.1, hts⟩
  have hcs0 : cells ≤ 601024 ∧ slots ≤ 7293034 := ⟨by omega, by omega⟩
  refine lv_aload_n hx hb dL_law_1184 rfl (lv_at hl 1 rfl) ?_
  refine lo_arg (j := 1) hx hb hX hbl hS hL hk (by decide) (by decide) (lv_at hl 0 rfl) (lv_at hl 4 rfl) dL_law_1185 dL_law_1186 dL_law_1188 dL_law_1189 dL_law_1190 ?_
  refine lv_aload_n hx hb dL_law_1191 rfl (lv_at hl 3 rfl) ?_
  refine lc_S (As := [.ref (ad 0 0), .int (xs (k4 + 1)), .ref o]) (rest := []) hcw (c_L_firstTeller l hl0 D K H.size ad n d S o f (xs (k4 + 1)) I.1.2.2.2.2.1) (vx_cwSW 3 hts gL_law_L_firstTeller rfl rfl rfl (by decide +kernel) ⟨(Nat.le_of_ble_eq_true rfl), (Nat.le_of_ble_eq_true rfl)⟩) hE I rfl rfl hl.1 (Nat.le_of_ble_eq_true rfl) dL_law_1192 hcs (fun H1 locs1 hz1 hB hPm hS1 => ?_)
  refine lv_istore hx hb dL_law_1195 hl (by decide) rfl (fun ls hl => ?_)
  refine lv_aload_n hx hb dL_law_1197 rfl (lv_at hl 3 rfl) ?_
  refine lo_arg (j := 1) hx hb hX hbl hS1 hL hk (by decide) (by decide) (lv_at hl 1 rfl) (lv_at hl 5 rfl) dL_law_1198 dL_law_1199 dL_law_1201 dL_law_1202 dL_law_1203 ?_
  refine ef_Vi (As := [.int (xs (k4 + 1))]) (rest := []) hcw (c_X3_firstTeller l D K H1.size am th M n d (xs (k4 + 1)) I.2.1.mok) (cwV 1 hts gL_law_X3_firstTeller rfl rfl rfl (by decide +kernel) ⟨(Nat.le_of_ble_eq_true rfl), (Nat.le_of_ble_eq_true rfl)⟩) hPm I.2.2.2.2.2.2.1 hE.1 hE.2.2.1 (va_recv hE.1 hPm (ci := 3) (q0 := 0) rfl rfl) rfl rfl hl.1 (Nat.le_of_ble_eq_true rfl) dL_law_1204 hcs hS1 (lI_free I hS1.1) (fun H2 locs2 hP2 hD2 hz2 hk2 hS2 => ?_)
  refine lv_istore hx hb dL_law_1207 hl (by decide) rfl (fun ls hl => ?_)
  obtain ⟨t1, t2, t3⟩ := lI_step I hz1 (hB.to (fun h => lB.refl I.2.2.1 h)) hz2 hk2 hP2 hD2 hS2 (step_firstTeller I.2.1 hc0 (xs (k4 + 1)))
  refine lo_head (P := 1209) (tgt := 1237) hx hb hc hts hE hP2 hcs hl (lv_at hl 4 rfl) (lv_at hl 1 rfl) t1 (by decide) dL_law_1209 dL_law_1210 dL_law_1213 dL_law_1215 dL_law_1220 dL_law_1222 (fun h0 => ?_) (fun h0 => ?_)
  · obtain ⟨hrm, ad2, ha, I2⟩ := t2 h0
    refine lo_cmp (P := 1225) hx hb hE I2.2.2.2.2.2.1 (lv_at hl 5 rfl) (lv_at hl 0 rfl) (by rw [hrm]; exact if_pos rfl) dL_law_1225 dL_law_1226 dL_law_1227 dL_law_1228 dL_law_1230 dL_law_1231 dL_law_1232 ?_
    refine lv_goto (tgt := 1240) hx hb dL_law_1237 (by decide) ?_
    exact kk H2 locs2 ls ad2 _ _ _ _ _ _ ha I2 (lv_sub hl [2, 3, 4, 5, 6] rfl)
  · refine lv_goto (tgt := 1240) hx hb dL_law_1237 (by decide) ?_
    exact kk H2 locs2 ls ad _ _ _ _ _ _ rfl (t3 h0) (lv_sub hl [2, 3, 4, 5, 6] rfl)
