/-! what the tables say at the law's entry -/
def lE (D : va_G) (K : Nat → ClassId) (s : State) : Prop := va_K D vwCl (TYS K) s ∧ EV s ∧ EX s ∧ EN s ∧ vx_Zq Bundle.tN "UNASSIGNED_STACK" Bundle.steD (fun q => s.heap.size ≤ q) s s.heap ∧ vx_Zq Bundle.tN "SUPPRESSED_SENTINEL" Bundle.listD (fun q => s.heap.size ≤ q) s s.heap
theorem lE_prim {ty : FieldType} {args : Array Value} {s : State} (h : (Cond.arrayClass ty).before args s = true) (hp : ∀ c, va_RA s c ty ↔ s.vm.findClass ("[" ++ ty.toString) = some c) (hc : ty = .int ∨ ty = .boolean) : ∃ c, ArrOfT s c ty ∧ va_RA s c ty := by
  obtain ⟨c, k, comp, h1, h2, h3⟩ := Cond.arrayClass_spec h
  refine ⟨c, fun n z => ⟨fun k9 h9 => ?_, k, h2, comp, h3⟩, (hp c).mpr h1⟩
  rcases hc with rfl | rfl <;> cases h9
theorem lE_obj {C : String} {args : Array Value} {s : State} (h : (Cond.arrayOver (.object C)).before args s = true) : ∃ c, ArrOfT s c (.object C) ∧ va_RA s c (.object C) := by
  obtain ⟨comp, c, k, h1, -, h2, h3, h4⟩ := Cond.arrayOver_spec h
  exact ⟨c, fun n z => ⟨(fun k9 h9 => by cases h9), k, h2, comp, h3⟩, k, comp, h2, h3, h1, h4⟩
theorem lE_w0 : Cond.arrayClass .int ∈ lw_tbl := wsL_law_in _ (by decide +kernel)
theorem lE_w1 : Cond.arrayClass .boolean ∈ lw_tbl := by decide +kernel
theorem lE_w2 : Cond.arrayOver (.object RX0) ∈ lw_tbl := by decide +kernel
theorem lE_w3 : Cond.arrayOver (.object RX1) ∈ lw_tbl := by decide +kernel
theorem lE_i0 : Cond.instantiable RX0 8 ∈ lw_tbl := by decide +kernel
theorem lE_i1 : Cond.instantiable RX1 6 ∈ lw_tbl := by decide +kernel
theorem lE_i2 : Cond.instantiable RX2 6 ∈ lw_tbl := wsL_law_in _ (by decide +kernel)
theorem lE_n0 : Cond.methodLinkNest RX1 33 yX2_isBidder RX2 ∈ lw_tbl := by decide +kernel
theorem lE_n1 : Cond.methodLinkNest RX0 39 yX2_isBidder RX2 ∈ lw_tbl := by decide +kernel
theorem lE_n2 : Cond.methodLinkNest RX2 42 yX1_init RX2 ∈ lw_tbl := by decide +kernel
theorem lE_str : ∀ q ∈ strT, Cond.stringRef RX2 q.1 q.2 ∈ lw_tbl := by decide +kernel
theorem lE_dcl : ∀ w ∈ dclT, w ∈ lw_tbl := by decide +kernel
theorem lE_z0 : Cond.laysStatic Bundle.tN "UNASSIGNED_STACK" Bundle.steD ∈ lw_tbl := by decide +kernel
theorem lE_z1 : Cond.laysStatic Bundle.tN "SUPPRESSED_SENTINEL" Bundle.listD ∈ lw_tbl := by decide +kernel
theorem lE_z2 : Cond.initialized Bundle.tN ∈ lw_tbl := by decide +kernel
theorem lE_K {args : Array Value} {s : State} (hts : ∀ w ∈ lw_tbl, w.before args s = true) : ∃ (D : va_G) (K : Nat → ClassId), va_K D vwCl (TYS K) s := by
  obtain ⟨d0, e0, k0⟩ := u_known hts (fun w h => inX0 w h) (hts _ lE_i0)
  obtain ⟨d1, e1, k1⟩ := u_known hts (fun w h => inX1 w h) (hts _ lE_i1)
  obtain ⟨d2, e2, k2⟩ := u_known hts (fun w h => inX2 w h) (hts _ lE_i2)
  obtain ⟨a0, x0, y0⟩ := lE_prim (hts _ lE_w0) (fun c => Iff.rfl) (Or.inl rfl)
  obtain ⟨a1, x1, y1⟩ := lE_prim (hts _ lE_w1) (fun c => Iff.rfl) (Or.inr rfl)
  obtain ⟨a2, x2, y2⟩ := lE_obj (hts _ lE_w2)
  obtain ⟨a3, x3, y3⟩ := lE_obj (hts _ lE_w3)
  refine ⟨(fun c => match c with | 0 => d0 | 1 => d1 | _ => d2, fun c => match c with | 0 => e0 | 1 => e1 | _ => e2), fun k => match k with | 0 => a0 | 1 => a1 | 2 => a2 | _ => a3, fun c q hq => ?_, fun k q hq => ?_⟩
  · rcases c with _ | _ | _ | c
    · cases hq; exact k0
    · cases hq; exact k1
    · cases hq; exact k2
    · exact absurd hq (by simp [vwCl])
  · rcases k with _ | _ | _ | _ | k
    · cases hq; exact ⟨x0, y0⟩
    · cases hq; exact ⟨x1, y1⟩
    · cases hq; exact ⟨x2, y2⟩
    · cases hq; exact ⟨x3, y3⟩
    · exact absurd hq (by simp [TYS])
theorem lE_of {b : Addr} {s : State} (hts : ∀ w ∈ lw_tbl, w.before #[Value.ref b] s = true) (hgv : (Jvm.Cond.and given_1 narrow_1).before #[Value.ref b] s = true) : ∃ (D : va_G) (K : Nat → ClassId), lE D K s := by
  obtain ⟨D, K, hK⟩ := lE_K hts
  have hs := flat_of_before _ hgv
  refine ⟨D, K, hK, ⟨va_Nw.of rfl (hts _ lE_n0), va_Nw.of rfl (hts _ lE_n1), va_Nw.of rfl (hts _ lE_n2), va_AO.of (hts _ lE_w2), va_AO.of (hts _ lE_w3)⟩, ⟨fun q hq => ?_, fun w hw => va_Nw.of (dcl_on w hw) (hts _ (lE_dcl w hw))⟩, fun q hq => ?_, vx_Zqof (hts _ lE_z0) (hts _ lE_z2) (hs _ (by decide +kernel)) (fun a h1 h2 => by omega), vx_Zqof (hts _ lE_z1) (hts _ lE_z2) (hs _ (by decide +kernel)) (fun a h1 h2 => by omega)⟩
  · obtain ⟨cC, kC, hfc, -⟩ := Cond.instantiable_spec (hts _ lE_i2)
    have h1 := hts _ (lE_str q hq)
    obtain ⟨k, cf, i, a, -, -, -, -, -, h2⟩ := Cond.stringRef_spec hfc h1
    exact ⟨a, vk_R.of h1 h2⟩
  · simp only [ncT, List.mem_cons, List.not_mem_nil, or_false] at hq
    subst hq
    exact va_Nc.of (hs _ (by decide +kernel))
/-! the law's script -/
def sp_L_cell (L : Nat) (xs : Nat → Int32) (k : Nat) : Int32 := if Int32.ofNat L ≤ nI k then 48757 * (nI k + 35) + 2056915 else xs k
set_option maxHeartbeats 4000000 in
set_option maxRecDepth 100000 in
theorem c_L_cell (l : Launch) {b L : Nat} {xs : Nat → Int32} (k : Nat) (hL : L ≤ 260) (hk : k < 100) : Met l yL_cell wsL_cell ({ frames := 0, cells := 0, slots := 0, locals := 0 }) (va_Pc [.ref b, .int (nI k)] (fun U => va_X b L xs U U.heap)) (QcV (.int (sp_L_cell L xs k))) 0 0 (fun _ => False) := by
  refine Met.ofW (cc := cL_cell) (maxL := 2) (ret := (some .int)) (by decide) rfl ?_
  intro p e s m args below meth c s₁ B hml hv
  obtain ⟨rfl, hX⟩ := hv
  have hx := B.exec
  have hb := B.bytes
  have hr := B.returns
  have hts := atoms_spec (ws := wsL_cell) B.pre
  have hown : s.vm.findClass RL = some m.cls := findClass_of_methodNamed B.named
  have hlocks := B.notSynchronized
  have hbl : b < s.heap.size := by
    obtain ⟨scr, h1, -⟩ := hX
    exact (Array.getElem?_eq_some_iff.mp h1).1
  have hS : va_S (fun _ => False) s.heap s.heap [] := va_S.rf
  have hl := lv_entry ([.ref b, .int (nI k)]) (n := 2) (Nat.le_of_ble_eq_true rfl)
  rw [lg_entry_eq]
  generalize (lg_sl ([.ref b, .int (nI k)]) ++ List.replicate (2 - (lg_sl ([.ref b, .int (nI k)])).length) Slot.unset).toArray = ls at hl ⊢
  have hl : lv_has ls 2 [(0, .ref b), (1, .int (nI k))] := hl
  refine lv_iload_n hx hb dL_cell_0 rfl (lv_at hl 1 rfl) ?_
  refine lv_aload_n hx hb dL_cell_1 rfl (lv_at hl 0 rfl) ?_
  refine va_slen (A := fun _ => False) hx hb hX hbl (fun h => h) hS dL_cell_2 ?_
  refine lv_icmp_ge (tgt := 12) hx hb dL_cell_3 (by decide) (fun c_3 => ?_) (fun c_3 => ?_)
  · refine lv_ldc hx hb hown (hts (.constant RL 7 (48757)) (by decide +kernel)) dL_cell_12 ?_
    refine lv_iload_n hx hb dL_cell_14 rfl (lv_at hl 1 rfl) ?_
    refine lv_bipush (v := 35) hx hb dL_cell_15 (by decide) ?_
    refine lv_iadd hx hb dL_cell_17 ?_
    refine lv_imul hx hb dL_cell_18 ?_
    refine lv_ldc hx hb hown (hts (.constant RL 8 (2056915)) (by decide +kernel)) dL_cell_19 ?_
    refine lv_iadd hx hb dL_cell_21 ?_
    exact pu_iret hx hb hr hlocks dL_cell_22 (if_pos c_3).symm
  · have hlt : k < L := by
      rcases Nat.lt_or_ge k L with q | q
      · exact q
      · exact absurd (show Int32.ofNat L ≤ nI k from nI_le (a := L) (b := k) q (by omega)) c_3
    refine lv_aload_n hx hb dL_cell_6 rfl (lv_at hl 0 rfl) ?_
    refine lv_iload_n hx hb dL_cell_7 rfl (lv_at hl 1 rfl) ?_
    refine va_sld (A := fun _ => False) hx hb hX hbl (fun h => h) hS (vp_in_nI hlt (by omega)) dL_cell_8 ?_
    refine lv_goto (tgt := 22) hx hb dL_cell_9 (by decide) ?_
    exact pu_iret hx hb hr hlocks dL_cell_22 (by rw [nI_clamp (show k < 2 ^ 31 by omega)]; exact (if_neg c_3).symm)
theorem cell_blind {b L : Nat} {xs : Nat → Int32} {av : List Value} : FrameBlind (va_Pc av (fun U => va_X b L xs U U.heap)) := fun _ U g mk q => ⟨q.1, va_X.moved (u := U) (U := U.calling g mk _) (Vm.Alike.refl U.vm) q.2⟩
/-! the law's loop: its state, a call each -/
def lI (D : va_G) (K : Nat → ClassId) (s : State) (ad : Nat → Nat → Nat) (oa : Nat → Nat) (n d : Nat) (S : Nat → Nat → Nat → Int32) (M : Nat → Nat → Int32) (c0 : Nat) (H : Heap) (locs : List Loc) : Prop :=
  ((∀ k i, s.heap.size ≤ ad k i) ∧ ∀ j, s.heap.size ≤ oa j ∧ ∃ i, i < 6 ∧ oa j = oa i) ∧ Sep ad oa n d ∧ Rel n d S M c0 ∧ LPH D K ad oa n d S M H ∧ va_S (fun q => s.heap.size ≤ q) s.heap H locs
theorem oa_lt {D : va_G} {K : Nat → ClassId} {oa : Nat → Nat} {M : Nat → Nat → Int32} {H : Heap} {j : Nat} (hP : va_P D vwCl (aW K oa M) H) (h : ∃ i, i < 6 ∧ oa j = oa i) : oa j < H.size := by
  obtain ⟨i, hi, e⟩ := h
  rw [e]
  rcases (show i = 0 ∨ i = 1 ∨ i = 2 ∨ i = 3 ∨ i = 4 ∨ i = 5 by omega) with rfl | rfl | rfl | rfl | rfl | rfl
  · exact (hP 0 _ rfl).lt
  · exact (hP 1 _ rfl).lt
  · exact (hP 2 _ rfl).lt
  · exact (hP 3 _ rfl).lt
  · exact (hP 4 _ rfl).lt
  · exact (hP 5 _ rfl).lt
theorem lI_of {D : va_G} {K : Nat → ClassId} {s : State} {ad ad2 : Nat → Nat → Nat} {oa : Nat → Nat} {n2 d2 c1 : Nat} {S2 : Nat → Nat → Nat → Int32} {M2 : Nat → Nat → Int32} {H H1 : Heap} {locs1 : List Loc} (a1 : ∀ k i, s.heap.size ≤ ad k i) (a2 : ∀ j, s.heap.size ≤ oa j ∧ ∃ i, i < 6 ∧ oa j = oa i) (hlt : ∀ j, oa j < H.size) (hsep : ∀ k i j, ad k i ≠ oa j) (hOA : ∀ i j, i < 6 → j < 6 → oa i = oa j → i = j) (h9 : ∀ k i, ad2 k i = ad k i ∨ 4 ≤ k ∧ H.size ≤ ad2 k i) (hs : s.heap.size ≤ H.size) (hz : H.size ≤ H1.size)
    (R : Rel n2 d2 S2 M2 c1) (hDJ : DJ ad2 n2 d2) (hX : XP D K ad2 n2 d2 S2 H1) (hPa : va_P D vwCl (aW K oa M2) H1) (hS1 : va_S (fun q => s.heap.size ≤ q) s.heap H1 locs1) : ∃ (ad2 : Nat → Nat → Nat) (n2 d2 : Nat) (S2 : Nat → Nat → Nat → Int32) (M2 : Nat → Nat → Int32), ad2 0 0 = ad 0 0 ∧ lI D K s ad2 oa n2 d2 S2 M2 c1 H1 locs1 := by
  refine ⟨ad2, n2, d2, S2, M2, (h9 0 0).elim id (fun q => absurd q.1 (by decide)), ⟨fun k i => ?_, a2⟩, ⟨hDJ, fun k i j h => ?_, hOA⟩, R, ⟨hX, hPa⟩, hS1⟩
  · rcases h9 k i with q | q
    · rw [q]; exact a1 k i
    · exact Nat.le_trans hs q.2
  · rcases h9 k i with q | q
    · exact hsep k i j (by rw [← q]; exact h)
    · have := hlt j; omega
section LC
variable {p : Program} {l : Launch} {e : Env} {R : Room} {s : State} {m : MethodId} {args : Array Value} {below : List Frame} {meth : Method} {c : Code} {H : Heap} {locs : List Loc} {cells slots : Nat} {Q : State → Prop}
variable {y : MethodName} {bytes cc : ByteArray} {maxL nL nn index fr lo : Nat} {ret : Option FieldType} {ws Ts : List Cond} {D : va_G} {K : Nat → ClassId} {own : String} {As rest st0 : List Value} {pc : Nat} {ls : Array Slot}
variable {ad : Nat → Nat → Nat} {oa : Nat → Nat} {n d c1 : Nat} {S : Nat → Nat → Nat → Int32} {M : Nat → Nat → Int32} {B2 : Heap → Prop} {r code : Int32} {E1 E2 E3 : String}
theorem lXA (a1 : ∀ k i, s.heap.size ≤ ad k i) (hS : va_S (fun q => s.heap.size ≤ q) s.heap H locs) : ∀ q, XA ad H.size q → s.heap.size ≤ q := fun q h => by
  rcases h with ⟨k, i, rfl⟩ | h
  · exact a1 k i
  · exact Nat.le_trans hS.1 h
/-- a call of the class that answers -/
theorem lc_X (Sx : CallFix p m c cc nL s args Ts own) (hM : XMet l y ws fr lo D K (.ref (ad 0 0) :: As) H.size (XA ad H.size) (fun H => XP D K ad n d S H) r code B2 E1 E2 E3) (h0 : code = 0) (cw : CallW R s args own RX2 index y bytes maxL ret ws ({ frames := fr, cells := 4, slots := 60, locals := lo }) 4 60 nn) (hLE : lE D K s)
    (a1 : ∀ k i, s.heap.size ≤ ad k i) (a2 : ∀ j, s.heap.size ≤ oa j ∧ ∃ i, i < 6 ∧ oa j = oa i) (hsep : ∀ k i j, ad k i ≠ oa j) (hXP : XP D K ad n d S H) (hPa : va_P D vwCl (aW K oa M) H) (hS : va_S (fun q => s.heap.size ≤ q) s.heap H locs)
    (hst : st0 = As.reverse ++ .ref (ad 0 0) :: rest) (hn : As.length = nn) (hsz : ls.size = nL) (hW : (rest.map fun v => v.category).sum ≤ 8) (hdg : decode cc pc = .ok (.invokevirtual index, 3)) (hf : cells + 4 ≤ R.cells ∧ slots + 60 ≤ R.slots)
    (kk : ∀ (H1 : Heap) (locs1 : List Loc), H.size ≤ H1.size → B2 H1 → va_P D vwCl (aW K oa M) H1 → va_S (fun q => s.heap.size ≤ q) s.heap H1 locs1 → W p l e R s m args below meth c H1 locs1 (cells + 4) (slots + 60) Q (F0 m (pc + 3) ls (.int r :: rest))) : W p l e R s m args below meth c H locs cells slots Q (F0 m pc ls st0) := by
  have hLA := lXA a1 hS
  obtain ⟨hK, hE, hX, -, hZ1, hZ2⟩ := hLE
  refine vx_calli (vx_runV (g := F0 m pc ls st0) Sx hM cw ⟨XPre_blind, va_recv hK hXP.2.2.1 (ci := 2) (q0 := 0) rfl rfl, XPre_at hXP hK hE hX ⟨(hZ1.kept (fun a h1 h2 => hS.2.1 a h1 h2)).narrow hLA, (hZ2.kept (fun a h1 h2 => hS.2.1 a h1 h2)).narrow hLA⟩⟩ rfl hn hsz hst (lv_room hW) hdg hf) hS (fun q _ h => hLA q h) hLA (fun q _ h => hLA q h) (fun E ce q9 u t H1 locs1 ht hvm hp hB hz1 hk1 hS1 hce hcv hcl => ?_) (fun r1 u t H1 locs1 ht hvm hp hB hz1 hk1 hS1 => ?_)
  · obtain ⟨hen, -⟩ := hB
    rcases hen with ⟨h, -⟩ | ⟨h, -⟩ | ⟨h, -⟩ <;> (rw [h0] at h; exact absurd h (by decide))
  · obtain ⟨-, rfl⟩ := hp
    rw [ht] at hB
    refine kk H1 locs1 hz1 hB (hPa.kept (fun k q hq => ?_)) hS1
    have hlt := aW_lt hPa hq
    obtain ⟨h1, e1⟩ := aW_ix hq
    rw [e1] at hlt ⊢
    refine hk1 _ hlt ?_
    rintro (⟨k9, i9, h⟩ | h)
    · exact hsep k9 i9 _ h
    · omega
/-- a call of one of the law's own -/
theorem lc_G (Sx : CallFix p m c cc nL s args Ts own) (hM : GMet l y ws fr lo D K As H.size ad oa (LPH D K ad oa n d S M) (GB ad oa H.size D K c1)) (cw : CallB R s args own index y bytes maxL ret ws ({ frames := fr, cells := 4, slots := 60, locals := lo }) 4 60 nn ∧ (Cond.static y).before args s = true) (hLE : lE D K s)
    (a1 : ∀ k i, s.heap.size ≤ ad k i) (a2 : ∀ j, s.heap.size ≤ oa j ∧ ∃ i, i < 6 ∧ oa j = oa i) (hsep : ∀ k i j, ad k i ≠ oa j) (hOA : ∀ i j, i < 6 → j < 6 → oa i = oa j → i = j) (hXP : XP D K ad n d S H) (hPa : va_P D vwCl (aW K oa M) H) (hS : va_S (fun q => s.heap.size ≤ q) s.heap H locs)
    (hst : st0 = As.reverse ++ rest) (hn : As.length = nn) (hsz : ls.size = nL) (hW : (rest.map fun v => v.category).sum ≤ 8) (hdg : decode cc pc = .ok (.invokestatic index, 3)) (hf : cells + 4 ≤ R.cells ∧ slots + 60 ≤ R.slots)
    (kk : ∀ (H1 : Heap) (locs1 : List Loc), (∃ (ad2 : Nat → Nat → Nat) (n2 d2 : Nat) (S2 : Nat → Nat → Nat → Int32) (M2 : Nat → Nat → Int32), ad2 0 0 = ad 0 0 ∧ lI D K s ad2 oa n2 d2 S2 M2 c1 H1 locs1) → W p l e R s m args below meth c H1 locs1 (cells + 4) (slots + 60) Q (F0 m (pc + 3) ls (.int 1 :: rest))) : W p l e R s m args below meth c H locs cells slots Q (F0 m pc ls st0) := by
  have hLA : ∀ q, GA ad oa H.size q → s.heap.size ≤ q := fun q h => h.elim (lXA a1 hS q) (fun ⟨j, e⟩ => by rw [← e]; exact (a2 j).1)
  obtain ⟨hK, hE, hX, hN, hZ1, hZ2⟩ := hLE
  refine va_calli (va_runS (g := F0 m pc ls st0) Sx hM cw ⟨GPre_blind, GPre_at ⟨hXP, hPa⟩ hK hE hX ⟨(hZ1.kept (fun a h1 h2 => hS.2.1 a h1 h2)).narrow hLA, (hZ2.kept (fun a h1 h2 => hS.2.1 a h1 h2)).narrow hLA⟩ hN⟩ rfl hn hsz hst (lv_room hW) hdg hf) hS (fun q _ h => hLA q h) hLA (fun r1 u t H1 locs1 ht _ hp hB hz hk hS1 => ?_)
  subst hp
  rw [ht] at hB
  obtain ⟨ad2, n2, d2, S2, M2, hR, hDJ, h9, hX2, hP2⟩ := hB
  exact kk H1 locs1 (lI_of a1 a2 (fun j => oa_lt hPa (a2 j).2) hsep hOA h9 hS.1 hz hR hDJ hX2 hP2 hS1)
/-- a word of the script -/
theorem lc_cell {b L c0 : Nat} {xs : Nat → Int32} (Sx : CallFix p m c cL_law 14 s args wsL_law RL) (hX : va_X b L xs s s.heap) (hbl : b < s.heap.size) (hL : L ≤ 260) (hc0 : c0 < 100) (hS : va_S (fun q => s.heap.size ≤ q) s.heap H locs) (hsz : ls.size = 14) (cw : CallB R s args RL 98 yL_cell cL_cell 2 (some .int) wsL_cell ({ frames := 0, cells := 0, slots := 0, locals := 0 }) 0 0 2 ∧ (Cond.static yL_cell).before args s = true) (hf : cells ≤ R.cells ∧ slots ≤ R.slots)
    (kk : ∀ v : Int32, W p l e R s m args below meth c H locs cells slots Q (F0 m 63 ls [.int v])) : W p l e R s m args below meth c H locs cells slots Q (F0 m 60 ls [.int (nI c0), .ref b]) :=
  pu_call (va_runS (g := F0 m 60 ls [.int (nI c0), .ref b]) (As := [.ref b, .int (nI c0)]) (rest := []) Sx (c_L_cell l (b := b) (xs := xs) c0 hL hc0) cw ⟨cell_blind, fun U hU hW => ⟨rfl, by show va_X b L xs U U.heap; rw [hU]; exact va_X.moved hW.alike (hX.kept (hS.2.1 b hbl (by omega)))⟩⟩ rfl rfl hsz rfl (lv_room (Nat.le_of_ble_eq_true rfl)) dL_law_60 hf) (kk _)
end LC
