/-! the base of all contracts: a method that reads alone is one instruction to its caller -/
def bI (b : Bool) : Int32 := match b with | true => 1 | false => 0
theorem bI_eq {a b : Bool} (h : a = b) : bI a = bI b := congrArg bI h
theorem bI_f {b : Bool} (h : bI b = 0) : b = false := by cases b <;> first | rfl | exact absurd h (by decide)
theorem bI_t {b : Bool} (h : ¬ bI b = 0) : b = true := by cases b <;> first | rfl | exact absurd (by rfl) h
theorem bI_nar (b : Bool) : narrow .boolean (.int (bI b)) = .int (bI b) := by cases b <;> rfl
def QcV (v : Value) : Array Value → State → Outcome → State → Prop := fun _ st o t => o = .returned (some v) ∧ t.heap = st.heap
/-- the class links between nest mates -/
def EV (U : State) : Prop := va_Nw (.methodLinkNest RX1 33 yX2_isBidder RX2) U ∧ va_Nw (.methodLinkNest RX0 39 yX2_isBidder RX2) U ∧ va_Nw (.methodLinkNest RX2 42 yX1_init RX2) U ∧ va_AO RX0 U ∧ va_AO RX1 U
theorem EV.warm {s U : State} (hW : s.WarmedH U.vm) (h : EV s) : EV U := ⟨va_Nw.warmM hW h.1, va_Nw.warmM hW h.2.1, va_Nw.warmM hW h.2.2.1, va_AO.moved hW.alike h.2.2.2.1, va_AO.moved hW.alike h.2.2.2.2⟩
theorem EV.same {u U : State} (h : u.vm = U.vm) (hE : EV u) : EV U := ⟨va_Nw.same rfl h hE.1, va_Nw.same rfl h hE.2.1, va_Nw.same rfl h hE.2.2.1, va_AO.moved (by rw [h]; exact Vm.Alike.refl _) hE.2.2.2.1, va_AO.moved (by rw [h]; exact Vm.Alike.refl _) hE.2.2.2.2⟩
abbrev TYS (K : Nat → ClassId) : List (ClassId × FieldType) := [(K 0, .int), (K 1, .boolean), (K 2, .object RX0), (K 3, .object RX1)]
def PK (D : va_G) (K : Nat → ClassId) (B : Heap → Prop) : State → Prop := fun U => B U.heap ∧ va_K D vwCl (TYS K) U ∧ EV U
theorem PK_blind {D : va_G} {K : Nat → ClassId} {B : Heap → Prop} {av : List Value} : FrameBlind (va_Pc av (PK D K B)) := fun _ U g mk q => ⟨q.1, q.2.1, va_K.moved (u := U) (U := U.calling g mk _) (Vm.Alike.refl U.vm) q.2.2.1, EV.same (u := U) (U := U.calling g mk _) rfl q.2.2.2⟩
theorem PK_at {D : va_G} {K : Nat → ClassId} {B : Heap → Prop} {av : List Value} {s : State} {H : Heap} (hB : B H) (hK : va_K D vwCl (TYS K) s) (hE : EV s) : ∀ U : State, U.heap = H → s.WarmedH U.vm → va_Pc av (PK D K B) av.toArray U := fun U hU hW => ⟨rfl, by rw [hU]; exact hB, va_K.moved hW.alike hK, EV.warm hW hE⟩
/-- a method that reads alone: from any heap with B it returns v, and the heap is as it was -/
def PU (l : Launch) (y : MethodName) (ws : List Cond) (fr lo : Nat) (D : va_G) (K : Nat → ClassId) (av : List Value) (B : Heap → Prop) (v : Value) : Prop :=
  Met l y ws ({ frames := fr, cells := 0, slots := 0, locals := lo }) (va_Pc av (PK D K B)) (QcV v) 0 0 (fun _ => False)
section PUS
variable {p : Program} {l : Launch} {e : Env} {R : Room} {s : State} {m : MethodId} {args : Array Value} {below : List Frame} {meth : Method} {c : Code} {H : Heap} {locs : List Loc} {cells slots : Nat} {Q : State → Prop}
theorem pu_call {v : Value} {a : Array Value} {g : JFrame} {rest : List Value} (hr : va_Run p l e R s m args below meth c H locs cells slots 0 0 g rest (QcV v a) (fun _ => False))
    (kk : W p l e R s m args below meth c H locs cells slots Q { g with pc := g.pc + 3, stack := v :: rest }) : W p l e R s m args below meth c H locs cells slots Q g := by
  intro T hT X
  obtain ⟨w, st₀, t, T', L, h0, X', hL, e1, e2, ⟨hv, hh⟩, st⟩ := hr T hT X
  cases hv
  obtain ⟨t2, a1, b1⟩ := kk T' (by rw [e1, hh, h0]) (Stand.forget X' (fun q h => (hL q h).elim))
  exact ⟨t2, st t2 a1, b1⟩
variable {y : MethodName} {bytes cc : ByteArray} {maxL nL n index fr lo : Nat} {ret : Option FieldType} {ws Ts : List Cond} {D : va_G} {K : Nat → ClassId} {B : Heap → Prop} {own C host : String} {b : Nat} {As rest st0 : List Value} {v : Value} {pc : Nat} {ls : Array Slot}
theorem pu_V (S : CallFix p m c cc nL s args Ts own) (hM : PU l y ws fr lo D K (.ref b :: As) B v) (cw : CallW R s args own C index y bytes maxL ret ws ({ frames := fr, cells := 0, slots := 0, locals := lo }) 0 0 n)
    (hB : B H) (hK : va_K D vwCl (TYS K) s) (hE : EV s) (hrecv : ∃ cell : Cell, H[b]? = some cell ∧ cell.vm.isStatics = false ∧ s.vm.findClass C = some cell.cls)
    (hst : st0 = As.reverse ++ .ref b :: rest) (hn : As.length = n) (hsz : ls.size = nL) (hW : (rest.map fun v => v.category).sum ≤ 8) (hdg : decode cc pc = .ok (.invokevirtual index, 3)) (hf : cells ≤ R.cells ∧ slots ≤ R.slots)
    (kk : W p l e R s m args below meth c H locs cells slots Q (F0 m (pc + 3) ls (v :: rest))) : W p l e R s m args below meth c H locs cells slots Q (F0 m pc ls st0) :=
  pu_call (va_runV (g := F0 m pc ls st0) S hM cw ⟨PK_blind, hrecv, PK_at hB hK hE⟩ rfl hn hsz hst (lv_room hW) hdg hf) kk
theorem pu_S (S : CallFix p m c cc nL s args Ts own) (hM : PU l y ws fr lo D K As B v) (cw : CallB R s args own index y bytes maxL ret ws ({ frames := fr, cells := 0, slots := 0, locals := lo }) 0 0 n ∧ (Cond.static y).before args s = true)
    (hB : B H) (hK : va_K D vwCl (TYS K) s) (hE : EV s)
    (hst : st0 = As.reverse ++ rest) (hn : As.length = n) (hsz : ls.size = nL) (hW : (rest.map fun v => v.category).sum ≤ 8) (hdg : decode cc pc = .ok (.invokestatic index, 3)) (hf : cells ≤ R.cells ∧ slots ≤ R.slots)
    (kk : W p l e R s m args below meth c H locs cells slots Q (F0 m (pc + 3) ls (v :: rest))) : W p l e R s m args below meth c H locs cells slots Q (F0 m pc ls st0) :=
  pu_call (va_runS (g := F0 m pc ls st0) S hM cw ⟨PK_blind, PK_at hB hK hE⟩ rfl hn hsz hst (lv_room hW) hdg hf) kk
theorem pu_SN (S : CallFix p m c cc nL s args Ts own) (hM : PU l y ws fr lo D K As B v) (cw : va_CN R s args own index y host bytes maxL ret ws ({ frames := fr, cells := 0, slots := 0, locals := lo }) 0 0 n ∧ (Cond.static y).before args s = true ∧ True)
    (hB : B H) (hK : va_K D vwCl (TYS K) s) (hE : EV s)
    (hst : st0 = As.reverse ++ rest) (hn : As.length = n) (hsz : ls.size = nL) (hW : (rest.map fun v => v.category).sum ≤ 8) (hdg : decode cc pc = .ok (.invokestatic index, 3)) (hf : cells ≤ R.cells ∧ slots ≤ R.slots)
    (kk : W p l e R s m args below meth c H locs cells slots Q (F0 m (pc + 3) ls (v :: rest))) : W p l e R s m args below meth c H locs cells slots Q (F0 m pc ls st0) :=
  pu_call (va_runSN (g := F0 m pc ls st0) S hM cw ⟨PK_blind, PK_at hB hK hE⟩ rfl hn hsz hst (lv_room hW) hdg hf) kk
variable {cc0 : ByteArray}
theorem pu_iret {r w : Int32} (hexec : p.tables.exec = Jvm.exec) (hb : c.code = cc) (hr : meth.sig.returnType = some .int) (hlocks : meth.locks = false) (hdg : decode cc pc = .ok (.ireturn, 1)) (h : r = w) : W p l e R s m args below meth c s.heap [] 0 0 (MQ below (QcV (.int w)) args s 0 0 (fun _ => False)) (F0 m pc ls [.int r]) := by
  subst h
  exact W.iret hexec hb hr (fun t ht _ => ⟨rfl, ht⟩) (fun _ h => by cases h) hdg hlocks
theorem pu_zret {r w : Int32} (hexec : p.tables.exec = Jvm.exec) (hb : c.code = cc) (hr : meth.sig.returnType = some .boolean) (hlocks : meth.locks = false) (hdg : decode cc pc = .ok (.ireturn, 1)) (hn : narrow .boolean (.int w) = .int w) (h : r = w) : W p l e R s m args below meth c s.heap [] 0 0 (MQ below (QcV (.int w)) args s 0 0 (fun _ => False)) (F0 m pc ls [.int r]) := by
  subst h
  exact W.zret hexec hb hr hn (fun t ht _ => ⟨rfl, ht⟩) (fun _ h => by cases h) hdg hlocks
theorem pu_aret {o o' : Option Nat} {rn : String} (hexec : p.tables.exec = Jvm.exec) (hb : c.code = cc) (hr : meth.sig.returnType = some (.object rn)) (hlocks : meth.locks = false) (hdg : decode cc pc = .ok (.areturn, 1)) (h : o = o') : W p l e R s m args below meth c s.heap [] 0 0 (MQ below (QcV (va_rf o')) args s 0 0 (fun _ => False)) (F0 m pc ls [va_rf o]) := by
  subst h
  exact W.aret hexec hb hr (Or.inl ⟨_, rfl⟩) (va_rf_or _) (fun t ht _ => ⟨rfl, ht⟩) (fun _ h => by cases h) hdg hlocks
/-- a branch on a boolean -/
theorem lb_eq (hexec : p.tables.exec = Jvm.exec) (hb : c.code = cc) {x : Bool} {off : Int} {tgt : Nat} (hdg : decode cc pc = .ok (.ifCond .eq off, 3)) (ht : (pc : Int) + off = (tgt : Int))
    (kt : x = false → W p l e R s m args below meth c H locs cells slots Q (F0 m tgt ls rest)) (kf : x = true → W p l e R s m args below meth c H locs cells slots Q (F0 m (pc + 3) ls rest)) : W p l e R s m args below meth c H locs cells slots Q (F0 m pc ls (.int (bI x) :: rest)) :=
  lv_if_eq hexec hb hdg ht (fun h => kt (bI_f h)) (fun h => kf (bI_t h))
theorem lb_ne (hexec : p.tables.exec = Jvm.exec) (hb : c.code = cc) {x : Bool} {off : Int} {tgt : Nat} (hdg : decode cc pc = .ok (.ifCond .ne off, 3)) (ht : (pc : Int) + off = (tgt : Int))
    (kt : x = true → W p l e R s m args below meth c H locs cells slots Q (F0 m tgt ls rest)) (kf : x = false → W p l e R s m args below meth c H locs cells slots Q (F0 m (pc + 3) ls rest)) : W p l e R s m args below meth c H locs cells slots Q (F0 m pc ls (.int (bI x) :: rest)) :=
  lv_if_ne hexec hb hdg ht (fun h => kt (bI_t h)) (fun h => kf (bI_f h))
end PUS
/-- a method that writes its own world, makes nothing and throws nothing -/
def EFi (l : Launch) (y : MethodName) (ws : List Cond) (fr lo : Nat) (D : va_G) (K : Nat → ClassId) (av : List Value) (sz : Nat) (W1 W2 : va_W) (r : Int32) : Prop :=
  Met l y ws ({ frames := fr, cells := 0, slots := 0, locals := lo }) (va_Pc av (fun U => U.heap.size = sz ∧ va_D (fun _ => True) W1 ∧ PK D K (fun H => va_P D vwCl W1 H) U)) (va_Qi (fun x (_ : Unit) => x = r) (fun _ t => va_P D vwCl W2 t.heap ∧ va_D (va_A W1 sz) W2) (va_A W1 sz)) 0 0 (va_A W1 sz)
def EFv (l : Launch) (y : MethodName) (ws : List Cond) (fr lo : Nat) (D : va_G) (K : Nat → ClassId) (av : List Value) (sz : Nat) (W1 W2 : va_W) : Prop :=
  Met l y ws ({ frames := fr, cells := 0, slots := 0, locals := lo }) (va_Pc av (fun U => U.heap.size = sz ∧ va_D (fun _ => True) W1 ∧ PK D K (fun H => va_P D vwCl W1 H) U)) (va_Qv (fun (_ : Unit) => True) (fun _ t => va_P D vwCl W2 t.heap ∧ va_D (va_A W1 sz) W2) (va_A W1 sz)) 0 0 (va_A W1 sz)
theorem EF_blind {D : va_G} {K : Nat → ClassId} {sz : Nat} {W1 : va_W} {av : List Value} : FrameBlind (va_Pc av (fun U => U.heap.size = sz ∧ va_D (fun _ => True) W1 ∧ PK D K (fun H => va_P D vwCl W1 H) U)) := fun _ U g mk q => ⟨q.1, q.2.1, q.2.2.1, (PK_blind (av := av) _ U g mk ⟨q.1, q.2.2.2⟩).2⟩
theorem EF_at {D : va_G} {K : Nat → ClassId} {W1 : va_W} {av : List Value} {s : State} {H : Heap} (hP : va_P D vwCl W1 H) (hD : va_D (fun _ => True) W1) (hK : va_K D vwCl (TYS K) s) (hE : EV s) : ∀ U : State, U.heap = H → s.WarmedH U.vm → va_Pc av (fun U => U.heap.size = H.size ∧ va_D (fun _ => True) W1 ∧ PK D K (fun H => va_P D vwCl W1 H) U) av.toArray U := fun U hU hW => ⟨rfl, by rw [hU], hD, by rw [hU]; exact hP, va_K.moved hW.alike hK, EV.warm hW hE⟩
section EFS
variable {p : Program} {l : Launch} {e : Env} {R : Room} {s : State} {m : MethodId} {args : Array Value} {below : List Frame} {meth : Method} {c : Code} {H : Heap} {locs : List Loc} {cells slots : Nat} {Q : State → Prop}
variable {y : MethodName} {bytes cc : ByteArray} {maxL nL n index fr lo : Nat} {ret : Option FieldType} {ws Ts : List Cond} {D : va_G} {K : Nat → ClassId} {W1 W2 : va_W} {own C : String} {b : Nat} {As rest st0 : List Value} {r : Int32} {pc : Nat} {ls : Array Slot} {A0 : Nat → Prop} {H0 : Heap}
theorem ef_Vi (S : CallFix p m c cc nL s args Ts own) (hM : EFi l y ws fr lo D K (.ref b :: As) H.size W1 W2 r) (cw : CallW R s args own C index y bytes maxL ret ws ({ frames := fr, cells := 0, slots := 0, locals := lo }) 0 0 n)
    (hP : va_P D vwCl W1 H) (hD : va_D (fun _ => True) W1) (hK : va_K D vwCl (TYS K) s) (hE : EV s) (hrecv : ∃ cell : Cell, H[b]? = some cell ∧ cell.vm.isStatics = false ∧ s.vm.findClass C = some cell.cls)
    (hst : st0 = As.reverse ++ .ref b :: rest) (hn : As.length = n) (hsz : ls.size = nL) (hW : (rest.map fun v => v.category).sum ≤ 8) (hdg : decode cc pc = .ok (.invokevirtual index, 3)) (hf : cells ≤ R.cells ∧ slots ≤ R.slots)
    (hS : va_S A0 H0 H locs) (hF : ∀ q, va_A W1 H.size q → A0 q)
    (kk : ∀ (H1 : Heap) (locs1 : List Loc), va_P D vwCl W2 H1 → va_D (va_A W1 H.size) W2 → H.size ≤ H1.size → (∀ q : Nat, q < H.size → ¬ va_A W1 H.size q → H1[q]? = H[q]?) → va_S A0 H0 H1 locs1 → W p l e R s m args below meth c H1 locs1 cells slots Q (F0 m (pc + 3) ls (.int r :: rest))) : W p l e R s m args below meth c H locs cells slots Q (F0 m pc ls st0) := by
  refine va_calli (va_runV (g := F0 m pc ls st0) S hM cw ⟨EF_blind, hrecv, EF_at hP hD hK hE⟩ rfl hn hsz hst (lv_room hW) hdg hf) hS (fun q _ h => hF q h) hF (fun x u t H1 locs1 ht _ hx hB hz hk hS1 => ?_)
  subst hx
  rw [ht] at hB
  exact kk H1 locs1 hB.1 hB.2 hz hk hS1
theorem ef_Vv (S : CallFix p m c cc nL s args Ts own) (hM : EFv l y ws fr lo D K (.ref b :: As) H.size W1 W2) (cw : CallW R s args own C index y bytes maxL ret ws ({ frames := fr, cells := 0, slots := 0, locals := lo }) 0 0 n)
    (hP : va_P D vwCl W1 H) (hD : va_D (fun _ => True) W1) (hK : va_K D vwCl (TYS K) s) (hE : EV s) (hrecv : ∃ cell : Cell, H[b]? = some cell ∧ cell.vm.isStatics = false ∧ s.vm.findClass C = some cell.cls)
    (hst : st0 = As.reverse ++ .ref b :: rest) (hn : As.length = n) (hsz : ls.size = nL) (hW : (rest.map fun v => v.category).sum ≤ 8) (hdg : decode cc pc = .ok (.invokevirtual index, 3)) (hf : cells ≤ R.cells ∧ slots ≤ R.slots)
    (hS : va_S A0 H0 H locs) (hF : ∀ q, va_A W1 H.size q → A0 q)
    (kk : ∀ (H1 : Heap) (locs1 : List Loc), va_P D vwCl W2 H1 → va_D (va_A W1 H.size) W2 → H.size ≤ H1.size → (∀ q : Nat, q < H.size → ¬ va_A W1 H.size q → H1[q]? = H[q]?) → va_S A0 H0 H1 locs1 → W p l e R s m args below meth c H1 locs1 cells slots Q (F0 m (pc + 3) ls rest)) : W p l e R s m args below meth c H locs cells slots Q (F0 m pc ls st0) := by
  refine va_callv (va_runV (g := F0 m pc ls st0) S hM cw ⟨EF_blind, hrecv, EF_at hP hD hK hE⟩ rfl hn hsz hst (lv_room hW) hdg hf) hS (fun q _ h => hF q h) hF (fun u t H1 locs1 ht _ _ hB hz hk hS1 => ?_)
  rw [ht] at hB
  exact kk H1 locs1 hB.1 hB.2 hz hk hS1
end EFS
theorem va_K_uniq {D : va_G} {cl : List vw_C} {tys : List (ClassId × FieldType)} {s : State} {i j : Nat} {cA cB : ClassId} {ty : FieldType} (hK : va_K D cl tys s) (hi : tys[i]? = some (cA, ty)) (hj : tys[j]? = some (cB, ty)) : cA = cB := by
  have h1 := (hK.2 i _ hi).2
  have h2 := (hK.2 j _ hj).2
  cases ty with
  | object C =>
    obtain ⟨_, _, _, _, _, a⟩ := h1
    obtain ⟨_, _, _, _, _, b⟩ := h2
    exact Option.some.inj (a.symm.trans b)
  | _ => exact Option.some.inj (Eq.trans (Eq.symm h1) h2)
theorem vin_nn {x : Int32} {n : Nat} (h : vp_in x n) : ¬ x < 0 := fun q => h (Or.inl q)
theorem vin_ge {x y : Int32} {n : Nat} (h : vp_in x n) (hn : n < 2 ^ 31) (hy : y = nI n) : ¬ y ≤ x := by
  obtain ⟨j, hj, rfl⟩ := vp_in_of h hn
  rw [hy]
  exact nI_ge hj hn
/-- a constructor: it makes mc cells of ms slots in all -/
def EFn (l : Launch) (y : MethodName) (ws : List Cond) (fr lo mc ms : Nat) (D : va_G) (K : Nat → ClassId) (av : List Value) (sz : Nat) (W1 : va_W) (B : Heap → Prop) : Prop :=
  Met l y ws ({ frames := fr, cells := mc, slots := ms, locals := lo }) (va_Pc av (fun U => U.heap.size = sz ∧ va_D (fun _ => True) W1 ∧ PK D K (fun H => va_P D vwCl W1 H) U)) (va_Qv (fun (_ : Unit) => True) (fun _ t => B t.heap) (va_A W1 sz)) mc ms (va_A W1 sz)
