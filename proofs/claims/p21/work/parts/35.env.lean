/-! what a throw needs of the launch and of the start; a method of the watch that returns or throws -/
def strT : List (Nat × String) := [(37, "there are as many tenders as there can be"), (49, "no such tender"), (61, "bidder or sum is out of range"), (71, "the tender is not open, or the bidder has made a bid"), (81, "bidder is out of range"), (86, "the tender is not open, or the bidder does not stand in it"), (96, "the tender is not open"), (110, "the tender was not awarded, or was passed on"), (112, "bidder or part is out of range, or bidder is the winner"), (124, "one or other is out of range, or both are the same"), (134, "mark is out of range"), (139, "suspicion is below the mark, or no file is left for the pair"), (150, "no such file"), (155, "no such file or tender"), (160, "bidder is none of the pair"), (165, "the file is closed"), (170, "bidder or money is out of range")]
def dclT : List Cond := [.declares (Bundle.initS "java/lang/RuntimeException"), .declares (Bundle.initS "java/lang/Exception"), .declares (Bundle.initS Bundle.tN), .castable "java/lang/IllegalStateException" "java/lang/IllegalStateException", .castable "java/lang/IllegalArgumentException" "java/lang/IllegalArgumentException", .castable "java/lang/IndexOutOfBoundsException" "java/lang/IndexOutOfBoundsException"]
def EX (U : State) : Prop := (∀ q ∈ strT, ∃ sa, vk_R RX2 q.1 q.2 sa U) ∧ ∀ w ∈ dclT, va_Nw w U
theorem dcl_on : ∀ w ∈ dclT, w.onTables = true := by decide +kernel
theorem EX.same {u U : State} (h : U.vm = u.vm) (hE : EX u) : EX U := ⟨fun q hq => (hE.1 q hq).imp (fun _ h1 => vk_R.same h h1), fun w hw => va_Nw.same (dcl_on w hw) h.symm (hE.2 w hw)⟩
theorem EX.warm {s U : State} (hW : s.WarmedH U.vm) (hE : EX s) : EX U := by
  refine ⟨fun q hq => (hE.1 q hq).imp (fun _ h1 => vk_R.warm hW h1), fun w hw => ?_⟩
  have h0 := hE.2 w hw
  simp only [dclT, List.mem_cons, List.not_mem_nil, or_false] at hw
  rcases hw with rfl | rfl | rfl | rfl | rfl | rfl
  · exact va_Nw.warmD hW h0
  · exact va_Nw.warmD hW h0
  · exact va_Nw.warmD hW h0
  · exact va_Nw.warmC hW h0
  · exact va_Nw.warmC hW h0
  · exact va_Nw.warmC hW h0
def SZ (A : Nat → Prop) (U : State) : Prop := vx_Zq Bundle.tN "UNASSIGNED_STACK" Bundle.steD A U U.heap ∧ vx_Zq Bundle.tN "SUPPRESSED_SENTINEL" Bundle.listD A U U.heap
theorem x_hat39 {args : Array Value} {s : State} (h : ∀ w ∈ (vx_atS RX2 39 "java/lang/IllegalStateException" ["java/lang/RuntimeException", "java/lang/Exception"]).filter goodWord, w.before args s = true) (hX : EX s) : ∀ w ∈ vx_atS RX2 39 "java/lang/IllegalStateException" ["java/lang/RuntimeException", "java/lang/Exception"], w.before args s = true := vx_hat h (by decide +kernel) (fun w hw => va_Nw.use (dcl_on w hw) (hX.2 w hw))
theorem x_hat51 {args : Array Value} {s : State} (h : ∀ w ∈ (vx_atS RX2 51 "java/lang/IndexOutOfBoundsException" ["java/lang/RuntimeException", "java/lang/Exception"]).filter goodWord, w.before args s = true) (hX : EX s) : ∀ w ∈ vx_atS RX2 51 "java/lang/IndexOutOfBoundsException" ["java/lang/RuntimeException", "java/lang/Exception"], w.before args s = true := vx_hat h (by decide +kernel) (fun w hw => va_Nw.use (dcl_on w hw) (hX.2 w hw))
theorem x_hat63 {args : Array Value} {s : State} (h : ∀ w ∈ (vx_atS RX2 63 "java/lang/IllegalArgumentException" ["java/lang/RuntimeException", "java/lang/Exception"]).filter goodWord, w.before args s = true) (hX : EX s) : ∀ w ∈ vx_atS RX2 63 "java/lang/IllegalArgumentException" ["java/lang/RuntimeException", "java/lang/Exception"], w.before args s = true := vx_hat h (by decide +kernel) (fun w hw => va_Nw.use (dcl_on w hw) (hX.2 w hw))
theorem x_good39 : ∀ w ∈ Cond.classLink RX2 35 "java/lang/IllegalStateException" :: Cond.initialized "java/lang/IllegalStateException" :: vx_atS RX2 39 "java/lang/IllegalStateException" ["java/lang/RuntimeException", "java/lang/Exception"], vx_ot w = true := by decide +kernel
theorem x_good51 : ∀ w ∈ Cond.classLink RX2 47 "java/lang/IndexOutOfBoundsException" :: Cond.initialized "java/lang/IndexOutOfBoundsException" :: vx_atS RX2 51 "java/lang/IndexOutOfBoundsException" ["java/lang/RuntimeException", "java/lang/Exception"], vx_ot w = true := by decide +kernel
theorem x_good63 : ∀ w ∈ Cond.classLink RX2 59 "java/lang/IllegalArgumentException" :: Cond.initialized "java/lang/IllegalArgumentException" :: vx_atS RX2 63 "java/lang/IllegalArgumentException" ["java/lang/RuntimeException", "java/lang/Exception"], vx_ot w = true := by decide +kernel
theorem x_fit39 : Bundle.fit "java/lang/IllegalStateException" = true := by decide +kernel
theorem x_fit51 : Bundle.fit "java/lang/IndexOutOfBoundsException" = true := by decide +kernel
theorem x_fit63 : Bundle.fit "java/lang/IllegalArgumentException" = true := by decide +kernel
theorem x_fits : ∀ n ∈ ["java/lang/RuntimeException", "java/lang/Exception"], Bundle.fit n = true := by decide +kernel
/-- the name of what is thrown, by its number in the document's order -/
def ename (E1 E2 E3 E : String) (code : Int32) : Prop := (code = 1 ∧ E = E1) ∨ (code = 2 ∧ E = E2) ∨ (code = 3 ∧ E = E3)
def XA (ad : Nat → Nat → Nat) (sz : Nat) : Nat → Prop := fun q => (∃ k i, ad k i = q) ∨ sz ≤ q
abbrev XQc (r code : Int32) (B : Heap → Prop) (A : Nat → Prop) : Array Value → State → Outcome → State → Prop := va_Qi (fun x (_ : Unit) => code = 0 ∧ x = r) (fun _ t => B t.heap) A
abbrev XXc (E1 E2 E3 : String) (code : Int32) (B : Heap → Prop) (A : Nat → Prop) : String → State → State → Prop := vx_X (fun (_ : Unit) => True) (fun E _ t => ename E1 E2 E3 E code ∧ B t.heap) A
abbrev XPre (D : va_G) (K : Nat → ClassId) (sz : Nat) (A : Nat → Prop) (B : Heap → Prop) : State → Prop := fun U => U.heap.size = sz ∧ SZ A U ∧ EX U ∧ PK D K B U
def XMet (l : Launch) (y : MethodName) (ws : List Cond) (fr lo : Nat) (D : va_G) (K : Nat → ClassId) (av : List Value) (sz : Nat) (A : Nat → Prop) (B : Heap → Prop) (r code : Int32) (B2 : Heap → Prop) (E1 E2 E3 : String) : Prop :=
  vx_Met l y ws ({ frames := fr, cells := 4, slots := 60, locals := lo }) (va_Pc av (XPre D K sz A B)) (XQc r code B2 A) (XXc E1 E2 E3 code B A) 4 60 A
/-- .. one that doesn't throw -/
def XNet (l : Launch) (y : MethodName) (ws : List Cond) (fr lo : Nat) (D : va_G) (K : Nat → ClassId) (av : List Value) (sz : Nat) (A : Nat → Prop) (B : Heap → Prop) (r : Int32) (B2 : Heap → Prop) : Prop :=
  Met l y ws ({ frames := fr, cells := 0, slots := 0, locals := lo }) (va_Pc av (fun U => U.heap.size = sz ∧ PK D K B U)) (va_Qi (fun x (_ : Unit) => x = r) (fun _ t => B2 t.heap) A) 0 0 A
theorem XPre_blind {D : va_G} {K : Nat → ClassId} {sz : Nat} {A : Nat → Prop} {B : Heap → Prop} {av : List Value} : FrameBlind (va_Pc av (XPre D K sz A B)) := fun _ U g mk q => ⟨q.1, q.2.1, ⟨vx_Zq.moved (u := U) (U := U.calling g mk _) (Vm.Alike.refl U.vm) q.2.2.1.1, vx_Zq.moved (u := U) (U := U.calling g mk _) (Vm.Alike.refl U.vm) q.2.2.1.2⟩, EX.same (u := U) (U := U.calling g mk _) rfl q.2.2.2.1, (PK_blind (av := av) _ U g mk ⟨q.1, q.2.2.2.2⟩).2⟩
theorem XPre_at {D : va_G} {K : Nat → ClassId} {A : Nat → Prop} {B : Heap → Prop} {av : List Value} {s : State} {H : Heap} (hB : B H) (hK : va_K D vwCl (TYS K) s) (hE : EV s) (hX : EX s) (hZ : vx_Zq Bundle.tN "UNASSIGNED_STACK" Bundle.steD A s H ∧ vx_Zq Bundle.tN "SUPPRESSED_SENTINEL" Bundle.listD A s H) : ∀ U : State, U.heap = H → s.WarmedH U.vm → va_Pc av (XPre D K H.size A B) av.toArray U := fun U hU hW => ⟨rfl, by rw [hU], ⟨by rw [hU]; exact vx_Zq.moved hW.alike hZ.1, by rw [hU]; exact vx_Zq.moved hW.alike hZ.2⟩, EX.warm hW hX, by rw [hU]; exact hB, va_K.moved hW.alike hK, EV.warm hW hE⟩
theorem XN_blind {D : va_G} {K : Nat → ClassId} {sz : Nat} {B : Heap → Prop} {av : List Value} : FrameBlind (va_Pc av (fun U => U.heap.size = sz ∧ PK D K B U)) := fun _ U g mk q => ⟨q.1, q.2.1, (PK_blind (av := av) _ U g mk ⟨q.1, q.2.2⟩).2⟩
theorem XN_at {D : va_G} {K : Nat → ClassId} {B : Heap → Prop} {av : List Value} {s : State} {H : Heap} (hB : B H) (hK : va_K D vwCl (TYS K) s) (hE : EV s) : ∀ U : State, U.heap = H → s.WarmedH U.vm → va_Pc av (fun U => U.heap.size = H.size ∧ PK D K B U) av.toArray U := fun U hU hW => ⟨rfl, by rw [hU], by rw [hU]; exact hB, va_K.moved hW.alike hK, EV.warm hW hE⟩
theorem va_F.mono {A B : Nat → Prop} {s t : State} (h : va_F A s t) (hAB : ∀ q, A q → B q) : va_F B s t := ⟨h.1, fun q h1 h2 => h.2 q h1 (fun z => h2 (hAB q z))⟩
theorem va_S.mono {A B : Nat → Prop} {H0 H : Heap} {locs : List Loc} (h : va_S A H0 H locs) (hAB : ∀ q, A q → B q) : va_S B H0 H locs := ⟨h.1, fun q h1 h2 => h.2.1 q h1 (fun z => h2 (hAB q z)), fun l hl => hAB _ (h.2.2 l hl)⟩
theorem XP.kept {D : va_G} {K : Nat → ClassId} {ad : Nat → Nat → Nat} {n d : Nat} {S : Nat → Nat → Nat → Int32} {H H1 : Heap} (h : XP D K ad n d S H) (hk : ∀ q : Nat, q < H.size → H1[q]? = H[q]?) : XP D K ad n d S H1 :=
  ⟨h.1, h.2.1, h.2.2.1.kept (fun k q e => hk q.1 (h.2.2.1 k q e).lt), fun k hkn => (h.2.2.2.1 k hkn).kept (fun i q e => hk q.1 (h.2.2.2.1 k hkn i q e).lt), fun k hkn => (h.2.2.2.2 k hkn).kept (fun i q e => hk q.1 (h.2.2.2.2 k hkn i q e).lt)⟩
/-- which places of the address table are in use, and that they are apart -/
def XL (n d k i : Nat) : Prop := (k ≤ 3 ∧ i = 0) ∨ (4 ≤ k ∧ k ≤ 6 ∧ i < n) ∨ (7 ≤ k ∧ k ≤ 10 ∧ i < d)
def DJ (ad : Nat → Nat → Nat) (n d : Nat) : Prop := ∀ k i k2 i2, XL n d k i → XL n d k2 i2 → ad k i = ad k2 i2 → k = k2 ∧ i = i2
