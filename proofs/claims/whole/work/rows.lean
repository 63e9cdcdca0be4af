section
-- ===== PART A: goes FIRST, ahead of the names: the tables' words, and 'selects' of the private methods out of them =====
/-- a private method of a class that the tables say can be made, by its rows of tables_1 -/
def lw_okq (q : MethodName × Nat) : Prop := (q.1.cls ≠ "java/lang/invoke/MethodHandle" ∧ q.1.cls ≠ "java/lang/invoke/VarHandle") ∧ Cond.instantiable q.1.cls q.2 ∈ tables_1 ∧ Cond.privateMethod q.1 ∈ tables_1 ∧ Cond.instanceMethod q.1 ∈ tables_1
theorem lw_p0 : lw_okq (⟨"CartelWatch", "suspicionOf", "(II)I"⟩, 6) := ⟨⟨by decide +kernel, by decide +kernel⟩, List.mem_of_getElem? (i := 13) (by decide +kernel), List.mem_of_getElem? (i := 49) (by decide +kernel), List.mem_of_getElem? (i := 50) (by decide +kernel)⟩
theorem lw_p1 : lw_okq (⟨"CartelWatch", "countOf", "(III)I"⟩, 6) := ⟨⟨by decide +kernel, by decide +kernel⟩, List.mem_of_getElem? (i := 13) (by decide +kernel), List.mem_of_getElem? (i := 53) (by decide +kernel), List.mem_of_getElem? (i := 54) (by decide +kernel)⟩
theorem lw_p2 : lw_okq (⟨"CartelWatch", "tenderAt", "(I)LCartelWatch$Tender;"⟩, 6) := ⟨⟨by decide +kernel, by decide +kernel⟩, List.mem_of_getElem? (i := 13) (by decide +kernel), List.mem_of_getElem? (i := 57) (by decide +kernel), List.mem_of_getElem? (i := 58) (by decide +kernel)⟩
theorem lw_p3 : lw_okq (⟨"CartelWatch$Tender", "isNear", "(I)Z"⟩, 6) := ⟨⟨by decide +kernel, by decide +kernel⟩, List.mem_of_getElem? (i := 82) (by decide +kernel), List.mem_of_getElem? (i := 80) (by decide +kernel), List.mem_of_getElem? (i := 81) (by decide +kernel)⟩
theorem lw_p4 : lw_okq (⟨"CartelWatch", "lastWinnerBefore", "(III)I"⟩, 6) := ⟨⟨by decide +kernel, by decide +kernel⟩, List.mem_of_getElem? (i := 13) (by decide +kernel), List.mem_of_getElem? (i := 94) (by decide +kernel), List.mem_of_getElem? (i := 95) (by decide +kernel)⟩
theorem lw_p5 : lw_okq (⟨"java/lang/Throwable", "fillInStackTrace", "(I)Ljava/lang/Throwable;"⟩, 6) := ⟨⟨by decide +kernel, by decide +kernel⟩, List.mem_of_getElem? (i := 148) (by decide +kernel), List.mem_of_getElem? (i := 146) (by decide +kernel), List.mem_of_getElem? (i := 147) (by decide +kernel)⟩
theorem lw_p6 : lw_okq (⟨"CartelWatch", "turnoverOf", "(I)I"⟩, 6) := ⟨⟨by decide +kernel, by decide +kernel⟩, List.mem_of_getElem? (i := 13) (by decide +kernel), List.mem_of_getElem? (i := 312) (by decide +kernel), List.mem_of_getElem? (i := 313) (by decide +kernel)⟩
theorem lw_p7 : lw_okq (⟨"CartelWatch", "hasDossier", "(II)Z"⟩, 6) := ⟨⟨by decide +kernel, by decide +kernel⟩, List.mem_of_getElem? (i := 13) (by decide +kernel), List.mem_of_getElem? (i := 360) (by decide +kernel), List.mem_of_getElem? (i := 361) (by decide +kernel)⟩
theorem lw_p8 : lw_okq (⟨"CartelWatch", "dossierAt", "(I)LCartelWatch$Dossier;"⟩, 6) := ⟨⟨by decide +kernel, by decide +kernel⟩, List.mem_of_getElem? (i := 13) (by decide +kernel), List.mem_of_getElem? (i := 410) (by decide +kernel), List.mem_of_getElem? (i := 411) (by decide +kernel)⟩
theorem lw_p9 : lw_okq (⟨"CartelWatch", "settle", "(LCartelWatch$Dossier;I)I"⟩, 6) := ⟨⟨by decide +kernel, by decide +kernel⟩, List.mem_of_getElem? (i := 13) (by decide +kernel), List.mem_of_getElem? (i := 461) (by decide +kernel), List.mem_of_getElem? (i := 462) (by decide +kernel)⟩
theorem lw_p10 : lw_okq (⟨"CartelWatchModel", "fails", "(I)I"⟩, 19) := ⟨⟨by decide +kernel, by decide +kernel⟩, List.mem_of_getElem? (i := 502) (by decide +kernel), List.mem_of_getElem? (i := 574) (by decide +kernel), List.mem_of_getElem? (i := 575) (by decide +kernel)⟩
theorem lw_p11 : lw_okq (⟨"CartelWatchModel", "isTender", "(I)Z"⟩, 19) := ⟨⟨by decide +kernel, by decide +kernel⟩, List.mem_of_getElem? (i := 502) (by decide +kernel), List.mem_of_getElem? (i := 582) (by decide +kernel), List.mem_of_getElem? (i := 583) (by decide +kernel)⟩
theorem lw_p12 : lw_okq (⟨"CartelWatchModel", "countBids", "(I)I"⟩, 19) := ⟨⟨by decide +kernel, by decide +kernel⟩, List.mem_of_getElem? (i := 502) (by decide +kernel), List.mem_of_getElem? (i := 593) (by decide +kernel), List.mem_of_getElem? (i := 594) (by decide +kernel)⟩
theorem lw_p13 : lw_okq (⟨"CartelWatchModel", "stands", "(II)Z"⟩, 19) := ⟨⟨by decide +kernel, by decide +kernel⟩, List.mem_of_getElem? (i := 502) (by decide +kernel), List.mem_of_getElem? (i := 597) (by decide +kernel), List.mem_of_getElem? (i := 598) (by decide +kernel)⟩
theorem lw_p14 : lw_okq (⟨"CartelWatchModel", "price", "(I)I"⟩, 19) := ⟨⟨by decide +kernel, by decide +kernel⟩, List.mem_of_getElem? (i := 502) (by decide +kernel), List.mem_of_getElem? (i := 613) (by decide +kernel), List.mem_of_getElem? (i := 614) (by decide +kernel)⟩
theorem lw_p15 : lw_okq (⟨"CartelWatchModel", "turnoverOf", "(I)I"⟩, 19) := ⟨⟨by decide +kernel, by decide +kernel⟩, List.mem_of_getElem? (i := 502) (by decide +kernel), List.mem_of_getElem? (i := 621) (by decide +kernel), List.mem_of_getElem? (i := 622) (by decide +kernel)⟩
def lw_privs_1 : List (MethodName × Nat) := [(⟨"CartelWatch", "suspicionOf", "(II)I"⟩, 6), (⟨"CartelWatch", "countOf", "(III)I"⟩, 6), (⟨"CartelWatch", "tenderAt", "(I)LCartelWatch$Tender;"⟩, 6), (⟨"CartelWatch$Tender", "isNear", "(I)Z"⟩, 6), (⟨"CartelWatch", "lastWinnerBefore", "(III)I"⟩, 6), (⟨"java/lang/Throwable", "fillInStackTrace", "(I)Ljava/lang/Throwable;"⟩, 6), (⟨"CartelWatch", "turnoverOf", "(I)I"⟩, 6), (⟨"CartelWatch", "hasDossier", "(II)Z"⟩, 6), (⟨"CartelWatch", "dossierAt", "(I)LCartelWatch$Dossier;"⟩, 6), (⟨"CartelWatch", "settle", "(LCartelWatch$Dossier;I)I"⟩, 6), (⟨"CartelWatchModel", "fails", "(I)I"⟩, 19), (⟨"CartelWatchModel", "isTender", "(I)Z"⟩, 19), (⟨"CartelWatchModel", "countBids", "(I)I"⟩, 19), (⟨"CartelWatchModel", "stands", "(II)Z"⟩, 19), (⟨"CartelWatchModel", "price", "(I)I"⟩, 19), (⟨"CartelWatchModel", "turnoverOf", "(I)I"⟩, 19)]
theorem lw_r1 : ∀ q ∈ lw_privs_1, lw_okq q := List.forall_mem_cons.mpr ⟨lw_p0, List.forall_mem_cons.mpr ⟨lw_p1, List.forall_mem_cons.mpr ⟨lw_p2, List.forall_mem_cons.mpr ⟨lw_p3, List.forall_mem_cons.mpr ⟨lw_p4, List.forall_mem_cons.mpr ⟨lw_p5, List.forall_mem_cons.mpr ⟨lw_p6, List.forall_mem_cons.mpr ⟨lw_p7, List.forall_mem_cons.mpr ⟨lw_p8, List.forall_mem_cons.mpr ⟨lw_p9, List.forall_mem_cons.mpr ⟨lw_p10, List.forall_mem_cons.mpr ⟨lw_p11, List.forall_mem_cons.mpr ⟨lw_p12, List.forall_mem_cons.mpr ⟨lw_p13, List.forall_mem_cons.mpr ⟨lw_p14, List.forall_mem_cons.mpr ⟨lw_p15, fun _ h => absurd h List.not_mem_nil⟩⟩⟩⟩⟩⟩⟩⟩⟩⟩⟩⟩⟩⟩⟩⟩
theorem lw_p16 : lw_okq (⟨"CartelWatchModel", "suspicionOf", "(II)I"⟩, 19) := ⟨⟨by decide +kernel, by decide +kernel⟩, List.mem_of_getElem? (i := 502) (by decide +kernel), List.mem_of_getElem? (i := 636) (by decide +kernel), List.mem_of_getElem? (i := 637) (by decide +kernel)⟩
theorem lw_p17 : lw_okq (⟨"CartelWatchModel", "signOf", "(III)I"⟩, 19) := ⟨⟨by decide +kernel, by decide +kernel⟩, List.mem_of_getElem? (i := 502) (by decide +kernel), List.mem_of_getElem? (i := 640) (by decide +kernel), List.mem_of_getElem? (i := 641) (by decide +kernel)⟩
theorem lw_p18 : lw_okq (⟨"CartelWatchModel", "isTurn", "(III)Z"⟩, 19) := ⟨⟨by decide +kernel, by decide +kernel⟩, List.mem_of_getElem? (i := 502) (by decide +kernel), List.mem_of_getElem? (i := 644) (by decide +kernel), List.mem_of_getElem? (i := 645) (by decide +kernel)⟩
theorem lw_p19 : lw_okq (⟨"CartelWatchModel", "isFile", "(I)Z"⟩, 19) := ⟨⟨by decide +kernel, by decide +kernel⟩, List.mem_of_getElem? (i := 502) (by decide +kernel), List.mem_of_getElem? (i := 668) (by decide +kernel), List.mem_of_getElem? (i := 669) (by decide +kernel)⟩
theorem lw_p20 : lw_okq (⟨"CartelWatchModel", "isOf", "(II)Z"⟩, 19) := ⟨⟨by decide +kernel, by decide +kernel⟩, List.mem_of_getElem? (i := 502) (by decide +kernel), List.mem_of_getElem? (i := 679) (by decide +kernel), List.mem_of_getElem? (i := 680) (by decide +kernel)⟩
theorem lw_p21 : lw_okq (⟨"CartelWatchModel", "fineFor", "(III)I"⟩, 19) := ⟨⟨by decide +kernel, by decide +kernel⟩, List.mem_of_getElem? (i := 502) (by decide +kernel), List.mem_of_getElem? (i := 691) (by decide +kernel), List.mem_of_getElem? (i := 692) (by decide +kernel)⟩
def lw_privs_2 : List (MethodName × Nat) := [(⟨"CartelWatchModel", "suspicionOf", "(II)I"⟩, 19), (⟨"CartelWatchModel", "signOf", "(III)I"⟩, 19), (⟨"CartelWatchModel", "isTurn", "(III)Z"⟩, 19), (⟨"CartelWatchModel", "isFile", "(I)Z"⟩, 19), (⟨"CartelWatchModel", "isOf", "(II)Z"⟩, 19), (⟨"CartelWatchModel", "fineFor", "(III)I"⟩, 19)]
theorem lw_r2 : ∀ q ∈ lw_privs_2, lw_okq q := List.forall_mem_cons.mpr ⟨lw_p16, List.forall_mem_cons.mpr ⟨lw_p17, List.forall_mem_cons.mpr ⟨lw_p18, List.forall_mem_cons.mpr ⟨lw_p19, List.forall_mem_cons.mpr ⟨lw_p20, List.forall_mem_cons.mpr ⟨lw_p21, fun _ h => absurd h List.not_mem_nil⟩⟩⟩⟩⟩⟩
def lw_privs : List (MethodName × Nat) := lw_privs_1 ++ (lw_privs_2)
def lw_tbl : List Cond := k2_sels lw_privs ++ tables_1
theorem lw_privs_ok : ∀ q ∈ lw_privs, lw_okq q := by
  show ∀ q ∈ lw_privs_1 ++ (lw_privs_2), lw_okq q
  exact List.forall_mem_append.mpr ⟨lw_r1, lw_r2⟩
-- ===== end of PART A; then your names; then what follows =====
end
section
/-! ===== BEGIN words of one list among another's, by their places ===== -/
theorem goodIn_r {big : List Cond} (ws : List Cond) (ps : List Nat) (hp : ws = ps.filterMap (fun i => big[i]?)) (h : ws.all goodWord = true) : GoodIn big ws := by
  intro w hw
  have h1 := List.all_eq_true.mp h w hw
  rw [hp] at hw
  obtain ⟨i, -, hi⟩ := List.mem_filterMap.mp hw
  have hm : w ∈ big := by first | exact List.mem_of_getElem? hi | exact List.getElem?_mem hi
  exact ⟨hm, good_of_word h1⟩
theorem goodIn_app {big a b : List Cond} (ha : GoodIn big a) (hb : GoodIn big b) : GoodIn big (a ++ b) := fun w h => (List.mem_append.mp h).elim (ha w) (hb w)
theorem goodIn_ca {big a b : List Cond} {c : Cond} (ha : GoodIn big (c :: a)) (hb : GoodIn big b) : GoodIn big (c :: (a ++ b)) := fun w h => (List.mem_cons.mp h).elim (fun e => ha w (List.mem_cons.mpr (Or.inl e))) (fun h => (List.mem_append.mp h).elim (fun h => ha w (List.mem_cons.mpr (Or.inr h))) (hb w))
theorem goodIn_sub {big ws : List Cond} (hm : ∀ w ∈ ws, w ∈ big) (h : ws.all goodWord = true) : GoodIn big ws := fun w hw => ⟨hm w hw, good_of_word (List.all_eq_true.mp h w hw)⟩
/-! ===== END ===== -/

/-! ===== BEGIN exceptions that leave a method, and their catching by the caller (launches without stack traces) ===== -/
section VXA
/-! The laws vx_back, vx_callV, vx_callS, vx_callSW, vx_throw0, vx_throwS follow proofs of the library, with one case more: JvmDerived/Free/Laws.lean (Back.of_free), Shelf42/LK1.lean (callV, callS), Shelf/KitTraced.lean (throwNew0V, throwNewS). -/
/-- where a method has thrown q: the class by its name, the cell, what was written, the world -/
def vx_T (XC : String → State → State → Prop) (st : State) (q : Addr) (t : State) (mc ms : Nat) (free : Addr → Prop) : Prop :=
  ∃ (E : String) (ce : Cell) (L : List Loc), XC E st t ∧ t.heap[q]? = some ce ∧ ce.vm = .none ∧ st.vm.findClass E = some ce.cls ∧ st.WarmedH t.vm ∧ st.sameButNew ({ t with vm := st.vm } : State) L mc ms ∧ ∀ z ∈ L, free z.base
def vx_Q (Qc : Array Value → State → Outcome → State → Prop) (XC : String → State → State → Prop) (mc ms : Nat) (free : Addr → Prop) : Array Value → State → Outcome → State → Prop := fun a st o t =>
  (Qc a st o t ∧ ∃ L, FrameEnd st o t L mc ms ∧ ∀ q ∈ L, free q.base) ∨ ∃ q, o = .threw q ∧ vx_T XC st q t mc ms free
/-- a callee that returns or throws -/
def vx_Met (l : Launch) (y : MethodName) (ws : List Cond) (rm : Room) (Pc : Array Value → State → Prop) (Qc : Array Value → State → Outcome → State → Prop) (XC : String → State → State → Prop) (mc ms : Nat) (free : Addr → Prop) : Prop :=
  MetFree l y (headSpec ws rm) Pc (fun _ _ _ _ _ => True) (vx_Q Qc XC mc ms free)
def vx_Post (XC : String → State → State → Prop) (mc ms : Nat) (free : Addr → Prop) : Pt → Array Value → Addr → Pt → Prop := fun A a q B =>
  ∃ (g : JFrame) (mk : MethodId) (t : State) (L : List Loc) (E : String) (ce : Cell), B.U.heap = t.heap ∧ B.U.vm = t.vm ∧ XC E (A.U.calling g mk a) t ∧ t.heap[q]? = some ce ∧ ce.vm = .none ∧ A.U.vm.findClass E = some ce.cls ∧ B.locs = A.locs ++ L ∧ (∀ z ∈ L, free z.base) ∧ B.cells = A.cells + mc ∧ B.slots = A.slots + ms
def vx_Back (l : Launch) (R : Room) (p : Program) (e : Env) (below : List Frame) (s : State) (sargs : Array Value) (y : MethodName) (len W9 : Nat)
    (Pre : Pt → Array Value → Prop) (Post : Pt → Array Value → Option Value → Pt → Prop) (PostX : Pt → Array Value → Addr → Pt → Prop) : Prop :=
  ∀ (m : MethodId) (meth : Method) (c : Code) (A : Pt) (g : JFrame) (ig : Instr) (mk : MethodId) (a : Array Value),
    Stand p l e R s m sargs below meth c A.U A.locs A.cells A.slots → g.method = m → g.locals.size = c.maxLocals → decode c.code g.pc = .ok (ig, len) →
    2 * g.monitorRoom + (g.stack.map fun v => v.category).sum ≤ W9 → A.U.methodNamed? y = some mk → Pre A a →
    (∃ (v : Option Value) (B : Pt), Stand p l e R s m sargs below meth c B.U B.locs B.cells B.slots ∧ Post A a v B ∧
      Steps p.tables e below (doInvoke e (A.U.setTop g) [] mk a).1 (B.U.setTop { g with pc := g.pc + len, stack := v.toList ++ g.stack })) ∨
    (∃ (q : Addr) (B : Pt), Stand p l e R s m sargs below meth c B.U B.locs B.cells B.slots ∧ PostX A a q B ∧
      Steps p.tables e below (doInvoke e (A.U.setTop g) [] mk a).1 ((B.U.setTop g).pushFrame (.throwing q)))
section Payer
variable {l : Launch} {R : Room} {p : Program} {e : Env} {below : List Frame} {s : State} {sargs : Array Value} {y : MethodName} {len W9 : Nat}
theorem vx_back {ws : List Cond} {rm : Room} {Pc : Array Value → State → Prop} {Qc : Array Value → State → Outcome → State → Prop} {XC : String → State → State → Prop} {mc ms : Nat} {free : Addr → Prop} {bytes : ByteArray} {maxL : Nat} {ret : Option FieldType}
    (hM : vx_Met l y ws rm Pc Qc XC mc ms free) (hblind : FrameBlind Pc) (hrc : rm.cells = mc) (hrs : rm.slots = ms)
    (hframes : rm.frames + 1 ≤ R.frames) (hlocals : W9 + (maxL + 11) + rm.locals ≤ R.locals)
    (hws : ∀ w ∈ ws, ∀ a' U, s.WarmedH U.vm → w.before a' U = true) (hcode : Cond.code y bytes maxL ret ∈ ws) (hinit : ∀ a' U, s.WarmedH U.vm → (Cond.initialized y.cls).before a' U = true) :
    vx_Back l R p e below s sargs y len W9 (PreOf R mc ms Pc) (PostOf Qc mc ms free) (vx_Post XC mc ms free) := by
  intro m meth c A g ig mk a X hg hsize hdg hW hn hp
  have h1 : (headSpec ws rm).pre.before a A.U = true := atoms_intro fun w hw => hws w hw _ _ X.warmed
  have h2 : (Cond.code y bytes maxL ret).before a A.U = true := hws _ hcode _ _ X.warmed
  have h3 : (Cond.initialized y.cls).before a A.U = true := hinit _ _ X.warmed
  have h4 : A.cells + (headSpec ws rm).room.cells ≤ R.cells := by rw [show (headSpec ws rm).room.cells = mc from hrc]; exact hp.1
  have h5 : A.slots + (headSpec ws rm).room.slots ≤ R.slots := by rw [show (headSpec ws rm).room.slots = ms from hrs]; exact hp.2.1
  have hPc : Pc a (A.U.calling g mk a) := hblind _ _ _ _ hp.2.2
  obtain ⟨U, Ls, c0, s0⟩ := A
  dsimp only [Pt.U, Pt.locs, Pt.cells, Pt.slots] at h1 h2 h3 h4 h5 X hn hPc ⊢
  obtain ⟨methY, cY, hmY, hcY, -, hlY, -, -, -, -⟩ := Cond.code_spec hn h2
  obtain ⟨kY, hkY, -⟩ := className_of_methodNamed hn
  have hinitY : kY.init = .initialized := Cond.initialized_spec (findClass_of_methodNamed hn) hkY h3
  have h : At U g.method c below := by rw [hg]; exact X.here
  have hlocals9 : W9 + (maxL + 11) + (headSpec ws rm).room.locals ≤ R.locals := hlocals
  have happ : (headSpec ws rm).appliesLoose y e.platform (U.calling g mk a) = true :=
    Spec.appliesLoose_calling (g := g) h hdg hn hkY hinitY
      (X.room_calling (g := g) (R' := (headSpec ws rm).room) hsize hmY hcY hframes (by rw [hlY]; omega) h4 h5) h1
  obtain ⟨mid, hmid⟩ := h.above
  have hfr : (U.setTop g).frames = (.java g :: mid) ++ below := by rw [State.frames_setTop' g h.top, hmid]; rfl
  obtain ⟨o, s₂, hsteps, -, hend, hq⟩ := Steps.callFree hM p X.admits X.cas X.clock (acts := []) hfr happ hPc trivial
  have hq' : vx_Q Qc XC mc ms free a (U.calling g mk a) o s₂ := hq
  rw [State.frames_setTop' g h.top] at hend
  obtain ⟨g₀, hg0⟩ := Option.isSome_iff_exists.mp h.top
  obtain ⟨r, hr⟩ := State.topJava?_eq_some.mp hg0
  have hr' : (({ U with heap := s₂.heap, slotsUsed := s₂.slotsUsed } : State).setVm s₂.vm).frames = .java g₀ :: r := hr
  rcases hq' with ⟨hqc, L, hfe, hL⟩ | ⟨q, rfl, E, ce, L, hx, hce, hcv, hcl, hW₂, hsm, hL⟩
  · obtain ⟨⟨v, rfl⟩, hW₂, e2, q2, q3, q4, q5, q6⟩ := id hfe
    have e3 : s₂ = ({ (U.calling g mk a).setFrames s₂.frames with heap := s₂.heap, slotsUsed := s₂.slotsUsed } : State).setVm s₂.vm := by
      have : s₂ = ({ s₂ with vm := (U.calling g mk a).vm } : State).setVm s₂.vm := rfl
      rw [e2] at this
      exact this
    obtain ⟨c₂, i₂, len₂, hc₂, hd₂, hf₂⟩ := hend
    have hW' : U.WarmedH s₂.vm := hW₂
    have hcc : c₂ = c := by
      have h1 : s₂.code? g.method = U.code? g.method := by
        rw [State.code?_eq, State.code?_eq, hW'.alike.method?]
      exact Option.some.inj (hc₂.symm.trans (h1.trans h.code))
    subst hcc
    have hlen : len₂ = len := by rw [hdg] at hd₂; cases hd₂; rfl
    subst hlen
    have hs₂ : s₂ = (({ U with heap := s₂.heap, slotsUsed := s₂.slotsUsed } : State).setVm s₂.vm).setTop { g with pc := g.pc + len₂, stack := v.toList ++ g.stack } := by
      refine e3.trans ?_
      rw [hf₂, State.calling_eq h.top, State.setFrames_setFrames, State.setTop_of_frames _ hr', hr]
      rfl
    have hsame : U.sameButNew ({ U with heap := s₂.heap, slotsUsed := s₂.slotsUsed } : State) L mc ms := by
      refine ⟨?_, q2, q3, q4, q5, q6⟩
      obtain ⟨t, ht, -⟩ := State.frames_cons hr
      show ({ U with heap := s₂.heap, slotsUsed := s₂.slotsUsed } : State) = { U.setFrames U.frames with heap := s₂.heap, slotsUsed := s₂.slotsUsed }
      rw [State.setFrames_self ht]
    subst hg
    refine Or.inl ⟨v, ⟨(({ U with heap := s₂.heap, slotsUsed := s₂.slotsUsed } : State).setVm s₂.vm), Ls ++ L, c0 + mc, s0 + ms⟩,
      ⟨X.admits, X.cas, X.clock, X.frames, X.room, X.hears, X.method, X.code, (X.here.setHeapUsed s₂.heap s₂.slotsUsed).setVm hW'.alike, X.tail, State.WarmedH.trans X.warmed hW', X.limits, X.bytes, X.same.trans (hsame.setVm s.vm)⟩,
      ⟨g, mk, s₂, L, rfl, rfl, hqc, rfl, hL, rfl, rfl⟩, ?_⟩
    show Steps p.tables e below _ ((({ U with heap := s₂.heap, slotsUsed := s₂.slotsUsed } : State).setVm s₂.vm).setTop { g with pc := g.pc + len₂, stack := v.toList ++ g.stack })
    rw [← hs₂]
    exact hsteps
  · obtain ⟨e2, q2, q3, q4, q5, q6⟩ := id hsm
    have e3 : s₂ = ({ (U.calling g mk a).setFrames s₂.frames with heap := s₂.heap, slotsUsed := s₂.slotsUsed } : State).setVm s₂.vm := by
      have : s₂ = ({ s₂ with vm := (U.calling g mk a).vm } : State).setVm s₂.vm := rfl
      rw [e2] at this
      exact this
    have hf₂ : s₂.frames = .throwing q :: .java g :: U.frames.tail := hend
    have hW' : U.WarmedH s₂.vm := hW₂
    have hs₂ : s₂ = ((({ U with heap := s₂.heap, slotsUsed := s₂.slotsUsed } : State).setVm s₂.vm).setTop g).pushFrame (.throwing q) := by
      refine e3.trans ?_
      rw [hf₂, State.calling_eq h.top, State.setFrames_setFrames, State.pushFrame, State.frames_setTop _ hr', State.setTop_of_frames _ hr', State.setFrames_setFrames, hr]
      rfl
    have hsame : U.sameButNew ({ U with heap := s₂.heap, slotsUsed := s₂.slotsUsed } : State) L mc ms := by
      refine ⟨?_, q2, q3, q4, q5, q6⟩
      obtain ⟨t, ht, -⟩ := State.frames_cons hr
      show ({ U with heap := s₂.heap, slotsUsed := s₂.slotsUsed } : State) = { U.setFrames U.frames with heap := s₂.heap, slotsUsed := s₂.slotsUsed }
      rw [State.setFrames_self ht]
    subst hg
    refine Or.inr ⟨q, ⟨(({ U with heap := s₂.heap, slotsUsed := s₂.slotsUsed } : State).setVm s₂.vm), Ls ++ L, c0 + mc, s0 + ms⟩,
      ⟨X.admits, X.cas, X.clock, X.frames, X.room, X.hears, X.method, X.code, (X.here.setHeapUsed s₂.heap s₂.slotsUsed).setVm hW'.alike, X.tail, State.WarmedH.trans X.warmed hW', X.limits, X.bytes, X.same.trans (hsame.setVm s.vm)⟩,
      ⟨g, mk, s₂, L, E, ce, rfl, rfl, hx, hce, hcv, hcl, rfl, hL, rfl, rfl⟩, ?_⟩
    show Steps p.tables e below _ (((({ U with heap := s₂.heap, slotsUsed := s₂.slotsUsed } : State).setVm s₂.vm).setTop g).pushFrame (.throwing q))
    rw [← hs₂]
    exact hsteps
end Payer
section Calls
variable {p : Program} {l : Launch} {e : Env} {R : Room} {s : State} {m : MethodId} {args : Array Value} {below : List Frame} {meth : Method} {c : Code} {T : State} {locs : List Loc} {cells slots : Nat}
theorem vx_callV (X : Stand p l e R s m args below meth c T locs cells slots) (hexec : p.tables.exec = Jvm.exec) {own C : String} {index : Nat} {y : MethodName} {bytes : ByteArray} {maxL : Nat} {ret : Option FieldType}
    (hown : s.vm.findClass own = some m.cls) (hlink : (Cond.methodLink own index y).before args s = true) (hinst : (Cond.instanceMethod y).before args s = true) (hsel : (Cond.selects C y y).before args s = true)
    (hcode : (Cond.code y bytes maxL ret).before args s = true) (hy : y.cls ≠ "java/lang/invoke/MethodHandle" ∧ y.cls ≠ "java/lang/invoke/VarHandle")
    {W9 : Nat} {Pre : Pt → Array Value → Prop} {Post : Pt → Array Value → Option Value → Pt → Prop} {PostX : Pt → Array Value → Addr → Pt → Prop} (hK : vx_Back l R p e below s args y 3 W9 Pre Post PostX)
    {b : Addr} {cellB : Cell} (hcell : T.heap[b]? = some cellB) (hobj : cellB.vm.isStatics = false) (hcls : s.vm.findClass C = some cellB.cls)
    {g : JFrame} (hg : g.method = m) (hsize : g.locals.size = c.maxLocals) {argsL rest : List Value} (hlen : ∀ sig, parseMethodDescriptor y.desc = some sig → argsL.length = sig.parameters.length)
    (hstack : g.stack = argsL.reverse ++ .ref b :: rest) (hW : 2 * g.monitorRoom + (rest.map fun v => v.category).sum ≤ W9) (hdg : decode c.code g.pc = .ok (.invokevirtual index, 3))
    (hpre : ∀ vm₁, s.WarmedH vm₁ → Pre ⟨T.setVm vm₁, locs, cells, slots⟩ (Value.ref b :: argsL).toArray) :
    (∃ (v : Option Value) (vm₁ : Vm) (B : Pt), s.WarmedH vm₁ ∧ Stand p l e R s m args below meth c B.U B.locs B.cells B.slots ∧ Post ⟨T.setVm vm₁, locs, cells, slots⟩ (Value.ref b :: argsL).toArray v B ∧
      ∀ target, Steps p.tables e below (B.U.setTop { g with pc := g.pc + 3, stack := v.toList ++ rest }) target → Steps p.tables e below (T.setTop g) target) ∨
    (∃ (q : Addr) (vm₁ : Vm) (B : Pt), s.WarmedH vm₁ ∧ Stand p l e R s m args below meth c B.U B.locs B.cells B.slots ∧ PostX ⟨T.setVm vm₁, locs, cells, slots⟩ (Value.ref b :: argsL).toArray q B ∧
      Steps p.tables e below (T.setTop g) ((B.U.setTop { g with stack := rest }).pushFrame (.throwing q))) := by
  obtain ⟨mk, methM, hnamed, hmethM, hstM, habM⟩ := Cond.instanceMethod_spec hinst
  obtain ⟨methM', cM, hmethM', -, -, -, -, -, -, hsigM⟩ := Cond.code_spec hnamed hcode
  cases hmethM.symm.trans hmethM'
  obtain ⟨c2, r2, m2, q1, q2, q3, q4, kP, hkP, hkPi⟩ := Cond.selects_spec hsel
  cases hcls.symm.trans q1
  cases (State.methodFound?_of_named hnamed hy).symm.trans q2
  cases hnamed.symm.trans q3
  have hselP : selectMethod e.platform s.vm cellB.cls mk = .method mk := by rw [Launch.admits_selectMethod X.admits]; exact q4
  obtain ⟨vm₁, X₁, hstep₁⟩ := X.invokevirtual hexec hown hlink hnamed hmethM hstM hkP hkPi hy (a := b) (cell := cellB) hcell
    (fun z h => by rw [h] at hobj; cases hobj) hselP hmethM habM hkP hkPi (g := g) hg (argsL := argsL) (rest := rest) (hlen _ hsigM) hstack hdg
  rcases hK m meth c ⟨T.setVm vm₁, locs, cells, slots⟩ { g with stack := rest } (.invokevirtual index) mk (Value.ref b :: argsL).toArray X₁ hg hsize hdg hW (X₁.named hnamed) (hpre vm₁ X₁.warmed) with ⟨v, B, X', hpost, hsteps⟩ | ⟨q, B, X', hpost, hsteps⟩
  · exact Or.inl ⟨v, vm₁, B, X₁.warmed, X', hpost, fun target h => hstep₁ _ fun acts => by rw [doInvoke_state]; exact hsteps.trans h⟩
  · exact Or.inr ⟨q, vm₁, B, X₁.warmed, X', hpost, hstep₁ _ fun acts => by rw [doInvoke_state]; exact hsteps⟩
theorem vx_callS (X : Stand p l e R s m args below meth c T locs cells slots) (hexec : p.tables.exec = Jvm.exec) {own : String} {index : Nat} {y : MethodName} {bytes : ByteArray} {maxL : Nat} {ret : Option FieldType}
    (hown : s.vm.findClass own = some m.cls) (hlink : (Cond.methodLink own index y).before args s = true) (hstat : (Cond.static y).before args s = true) (hinit : (Cond.initialized y.cls).before args s = true)
    (hcode : (Cond.code y bytes maxL ret).before args s = true) (hy : y.cls ≠ "java/lang/invoke/MethodHandle" ∧ y.cls ≠ "java/lang/invoke/VarHandle")
    {W9 : Nat} {Pre : Pt → Array Value → Prop} {Post : Pt → Array Value → Option Value → Pt → Prop} {PostX : Pt → Array Value → Addr → Pt → Prop} (hK : vx_Back l R p e below s args y 3 W9 Pre Post PostX)
    {g : JFrame} (hg : g.method = m) (hsize : g.locals.size = c.maxLocals) {argsL rest : List Value} (hlen : ∀ sig, parseMethodDescriptor y.desc = some sig → argsL.length = sig.parameters.length)
    (hstack : g.stack = argsL.reverse ++ rest) (hW : 2 * g.monitorRoom + (rest.map fun v => v.category).sum ≤ W9) (hdg : decode c.code g.pc = .ok (.invokestatic index, 3))
    (hpre : ∀ vm₁, s.WarmedH vm₁ → Pre ⟨T.setVm vm₁, locs, cells, slots⟩ argsL.toArray) :
    (∃ (v : Option Value) (vm₁ : Vm) (B : Pt), s.WarmedH vm₁ ∧ Stand p l e R s m args below meth c B.U B.locs B.cells B.slots ∧ Post ⟨T.setVm vm₁, locs, cells, slots⟩ argsL.toArray v B ∧
      ∀ target, Steps p.tables e below (B.U.setTop { g with pc := g.pc + 3, stack := v.toList ++ rest }) target → Steps p.tables e below (T.setTop g) target) ∨
    (∃ (q : Addr) (vm₁ : Vm) (B : Pt), s.WarmedH vm₁ ∧ Stand p l e R s m args below meth c B.U B.locs B.cells B.slots ∧ PostX ⟨T.setVm vm₁, locs, cells, slots⟩ argsL.toArray q B ∧
      Steps p.tables e below (T.setTop g) ((B.U.setTop { g with stack := rest }).pushFrame (.throwing q))) := by
  obtain ⟨mk, hnamed⟩ := Cond.code_named hcode
  obtain ⟨methM, cM, hmethM, -, -, -, -, -, -, hsigM⟩ := Cond.code_spec hnamed hcode
  have hstatic : methM.isStatic = true := Cond.static_spec hnamed hmethM hstat
  obtain ⟨kP, hkP, -⟩ := className_of_methodNamed hnamed
  have hinitP : kP.init = .initialized := Cond.initialized_spec (findClass_of_methodNamed hnamed) hkP hinit
  obtain ⟨vm₁, X₁, hstep₁⟩ := X.invokestatic hexec hown hlink hnamed hmethM hstatic hkP hinitP hy (g := g) hg (argsL := argsL) (rest := rest) (hlen _ hsigM) hstack hdg
  rcases hK m meth c ⟨T.setVm vm₁, locs, cells, slots⟩ { g with stack := rest } (.invokestatic index) mk argsL.toArray X₁ hg hsize hdg hW (X₁.named hnamed) (hpre vm₁ X₁.warmed) with ⟨v, B, X', hpost, hsteps⟩ | ⟨q, B, X', hpost, hsteps⟩
  · exact Or.inl ⟨v, vm₁, B, X₁.warmed, X', hpost, fun target h => hstep₁ _ fun acts => by rw [doInvoke_state]; exact hsteps.trans h⟩
  · exact Or.inr ⟨q, vm₁, B, X₁.warmed, X', hpost, hstep₁ _ fun acts => by rw [doInvoke_state]; exact hsteps⟩
end Calls
theorem vx_cls {s : State} {T : State} {vm₁ : Vm} {E : String} {k : ClassId} (hW : s.WarmedH vm₁) (h : (T.setVm vm₁).vm.findClass E = some k) : s.vm.findClass E = some k := by
  have h1 : vm₁.findClass E = some k := h
  rw [hW.alike.findClass] at h1
  exact h1
/-- the method's frame g, with q thrown over it -/
def vx_W (p : Program) (l : Launch) (e : Env) (R : Room) (s : State) (m : MethodId) (args : Array Value) (below : List Frame) (meth : Method) (c : Code) (H : Heap) (locs : List Loc) (cells slots : Nat) (Q : State → Prop) (g : JFrame) (q : Addr) : Prop :=
  ∀ T : State, T.heap = H → Stand p l e R s m args below meth c T locs cells slots → ∃ t, Steps p.tables e below ((T.setTop g).pushFrame (.throwing q)) t ∧ Q t
def vx_Run (p : Program) (l : Launch) (e : Env) (R : Room) (s : State) (m : MethodId) (args : Array Value) (below : List Frame) (meth : Method) (c : Code) (H : Heap) (locs : List Loc) (cells slots mc ms : Nat) (g : JFrame) (rest : List Value) (Qa : State → Outcome → State → Prop) (XC : String → State → State → Prop) (free : Addr → Prop) : Prop :=
  ∀ T : State, T.heap = H → Stand p l e R s m args below meth c T locs cells slots →
    (∃ (v : Option Value) (st₀ t T' : State) (L : List Loc), st₀.heap = H ∧ Stand p l e R s m args below meth c T' (locs ++ L) (cells + mc) (slots + ms) ∧ (∀ q ∈ L, free q.base) ∧ T'.heap = t.heap ∧ T'.vm = t.vm ∧ Qa st₀ (.returned v) t ∧
      Goes p e below T g T' { g with pc := g.pc + 3, stack := v.toList ++ rest }) ∨
    (∃ (q : Addr) (st₀ t T' : State) (L : List Loc) (E : String) (ce : Cell), st₀.heap = H ∧ Stand p l e R s m args below meth c T' (locs ++ L) (cells + mc) (slots + ms) ∧ (∀ z ∈ L, free z.base) ∧ T'.heap = t.heap ∧ T'.vm = t.vm ∧ XC E st₀ t ∧ t.heap[q]? = some ce ∧ ce.vm = .none ∧ s.vm.findClass E = some ce.cls ∧
      Steps p.tables e below (T.setTop g) ((T'.setTop { g with stack := rest }).pushFrame (.throwing q)))
def vx_X {S : Type} (px : S → Prop) (B : String → S → State → Prop) (A : Nat → Prop) : String → State → State → Prop := fun E st t => ∃ u : S, px u ∧ B E u t ∧ va_F A st t
section Runs
variable {p : Program} {l : Launch} {e : Env} {R : Room} {s : State} {m : MethodId} {args : Array Value} {below : List Frame} {meth : Method} {c : Code} {H : Heap} {locs : List Loc} {cells slots : Nat}
variable {y : MethodName} {bytes cc : ByteArray} {maxL nL mc ms n index : Nat} {ret : Option FieldType} {ws : List Cond} {rm : Room} {Pc : Array Value → State → Prop} {Qc : Array Value → State → Outcome → State → Prop} {XC : String → State → State → Prop} {free : Addr → Prop} {Ts : List Cond} {own C : String} {b : Addr} {As rest : List Value} {g : JFrame}
theorem vx_callBack (cb : CallB R s args own index y bytes maxL ret ws rm mc ms n) (hM : vx_Met l y ws rm Pc Qc XC mc ms free) (hbl : FrameBlind Pc) : vx_Back l R p e below s args y 3 8 (PreOf R mc ms Pc) (PostOf Qc mc ms free) (vx_Post XC mc ms free) := by
  obtain ⟨hrc, hrs, hfr, hlo, hws, hcw, -, hini, -⟩ := cb
  exact vx_back (bytes := bytes) (maxL := maxL) (ret := ret) hM hbl hrc hrs hfr hlo hws hcw (fun a' U hW => word_at hW (Or.inl (by first | rfl | simp [Cond.onTables, Cond.keeps, Cond.steady])) hini)
theorem vx_runV (S : CallFix p m c cc nL s args Ts own) (hM : vx_Met l y ws rm Pc Qc XC mc ms free) (cw : CallW R s args own C index y bytes maxL ret ws rm mc ms n) (hp : PreV s H C b Pc As)
    (hg : g.method = m) (hn : As.length = n) (hsize : g.locals.size = nL) (hstack : g.stack = As.reverse ++ .ref b :: rest) (hW : 2 * g.monitorRoom + (rest.map fun v => v.category).sum ≤ 8) (hdg : decode cc g.pc = .ok (.invokevirtual index, 3)) (hf : cells + mc ≤ R.cells ∧ slots + ms ≤ R.slots) :
    vx_Run p l e R s m args below meth c H locs cells slots mc ms g rest (Qc (Value.ref b :: As).toArray) XC free := by
  have hK : vx_Back l R p e below s args y 3 8 (PreOf R mc ms Pc) (PostOf Qc mc ms free) (vx_Post XC mc ms free) := vx_callBack cw.1 hM hp.1
  obtain ⟨⟨-, -, -, -, -, -, hcode, -, hy, hlen, hl⟩, hin, hse⟩ := cw
  obtain ⟨hx, hb, hml, ho, -⟩ := S
  obtain ⟨-, ⟨cellB, hcB, hoB, hclB⟩, hPc⟩ := hp
  intro T hT X
  rcases vx_callV X hx (C := C) (bytes := bytes) (maxL := maxL) (ret := ret) ho hl hin hse hcode hy hK (by rw [hT]; exact hcB) hoB hclB hg (hsize.trans hml.symm) (argsL := As) (rest := rest) (fun sig h => hn.trans (hlen sig h)) hstack hW (by rw [hb]; exact hdg)
    (fun vm₁ hW₁ => ⟨hf.1, hf.2, hPc (T.setVm vm₁) hT hW₁⟩) with ⟨v, vm₁, ⟨U', l2, c2, s2⟩, hW₁, X', ⟨g', mk, t, L, e1, e2, hq, h1, hL, h2, h3⟩, st⟩ | ⟨q, vm₁, ⟨U', l2, c2, s2⟩, hW₁, X', ⟨g', mk, t, L, E, ce, e1, e2, hq, hce, hcv, hcl, h1, hL, h2, h3⟩, st⟩
  · dsimp only [Pt.U, Pt.locs, Pt.cells, Pt.slots] at X' e1 e2 h1 h2 h3 st
    subst h1; subst h2; subst h3
    exact Or.inl ⟨v, (T.setVm vm₁).calling g' mk (Value.ref b :: As).toArray, t, U', L, hT, X', hL, e1, e2, hq, st⟩
  · dsimp only [Pt.U, Pt.locs, Pt.cells, Pt.slots] at X' e1 e2 h1 h2 h3 st hcl
    subst h1; subst h2; subst h3
    exact Or.inr ⟨q, (T.setVm vm₁).calling g' mk (Value.ref b :: As).toArray, t, U', L, E, ce, hT, X', hL, e1, e2, hq, hce, hcv, vx_cls hW₁ hcl, st⟩
theorem vx_runS (S : CallFix p m c cc nL s args Ts own) (hM : vx_Met l y ws rm Pc Qc XC mc ms free) (cw : CallB R s args own index y bytes maxL ret ws rm mc ms n ∧ (Cond.static y).before args s = true) (hp : PreS s H Pc As)
    (hg : g.method = m) (hn : As.length = n) (hsize : g.locals.size = nL) (hstack : g.stack = As.reverse ++ rest) (hW : 2 * g.monitorRoom + (rest.map fun v => v.category).sum ≤ 8) (hdg : decode cc g.pc = .ok (.invokestatic index, 3)) (hf : cells + mc ≤ R.cells ∧ slots + ms ≤ R.slots) :
    vx_Run p l e R s m args below meth c H locs cells slots mc ms g rest (Qc As.toArray) XC free := by
  have hK : vx_Back l R p e below s args y 3 8 (PreOf R mc ms Pc) (PostOf Qc mc ms free) (vx_Post XC mc ms free) := vx_callBack cw.1 hM hp.1
  obtain ⟨⟨-, -, -, -, -, -, hcode, hini, hy, hlen, hl⟩, hstt⟩ := cw
  obtain ⟨hx, hb, hml, ho, -⟩ := S
  intro T hT X
  rcases vx_callS X hx (bytes := bytes) (maxL := maxL) (ret := ret) ho hl hstt hini hcode hy hK hg (hsize.trans hml.symm) (argsL := As) (rest := rest) (fun sig h => hn.trans (hlen sig h)) hstack hW (by rw [hb]; exact hdg)
    (fun vm₁ hW₁ => ⟨hf.1, hf.2, hp.2 (T.setVm vm₁) hT hW₁⟩) with ⟨v, vm₁, ⟨U', l2, c2, s2⟩, hW₁, X', ⟨g', mk, t, L, e1, e2, hq, h1, hL, h2, h3⟩, st⟩ | ⟨q, vm₁, ⟨U', l2, c2, s2⟩, hW₁, X', ⟨g', mk, t, L, E, ce, e1, e2, hq, hce, hcv, hcl, h1, hL, h2, h3⟩, st⟩
  · dsimp only [Pt.U, Pt.locs, Pt.cells, Pt.slots] at X' e1 e2 h1 h2 h3 st
    subst h1; subst h2; subst h3
    exact Or.inl ⟨v, (T.setVm vm₁).calling g' mk As.toArray, t, U', L, hT, X', hL, e1, e2, hq, st⟩
  · dsimp only [Pt.U, Pt.locs, Pt.cells, Pt.slots] at X' e1 e2 h1 h2 h3 st hcl
    subst h1; subst h2; subst h3
    exact Or.inr ⟨q, (T.setVm vm₁).calling g' mk As.toArray, t, U', L, E, ce, hT, X', hL, e1, e2, hq, hce, hcv, vx_cls hW₁ hcl, st⟩
end Runs
section Rows
variable {p : Program} {l : Launch} {e : Env} {R : Room} {s : State} {m : MethodId} {args : Array Value} {below : List Frame} {meth : Method} {c : Code} {H : Heap} {locs : List Loc} {cells slots : Nat} {Q : State → Prop}
variable {mc ms : Nat} {free : Addr → Prop} {A0 A1 : Nat → Prop} {H0 : Heap} {a : Array Value} {pc : Nat} {ls : Array Slot} {st0 rest : List Value}
theorem vx_keep {st₀ t T' : State} {L : List Loc} (h0 : st₀.heap = H) (e1 : T'.heap = t.heap) (hS : va_S A0 H0 H locs) (hA : ∀ q, q < H.size → A1 q → A0 q) (hf : ∀ q, free q → A0 q) (hL : ∀ q ∈ L, free q.base) (hF : va_F A1 st₀ t) :
    H.size ≤ T'.heap.size ∧ (∀ q : Nat, q < H.size → ¬ A1 q → T'.heap[q]? = H[q]?) ∧ va_S A0 H0 T'.heap (locs ++ L) := by
  obtain ⟨hz, hk⟩ := hF
  rw [h0] at hz hk
  exact ⟨by rw [e1]; exact hz, fun q h1 h2 => by rw [e1]; exact hk q h1 h2,
    ⟨Nat.le_trans hS.1 (by rw [e1]; exact hz), fun q h1 h2 => by rw [e1, hk q (Nat.lt_of_lt_of_le h1 hS.1) (fun z => h2 (hA q (Nat.lt_of_lt_of_le h1 hS.1) z))]; exact hS.2.1 q h1 h2, fun q hq => by
      rcases List.mem_append.mp hq with h | h
      · exact hS.2.2 q h
      · exact hf _ (hL q h)⟩⟩
theorem vx_calli {S SX : Type} {post : Int32 → S → Prop} {px : SX → Prop} {B : S → State → Prop} {BX : String → SX → State → Prop} {AX : Nat → Prop} (hr : vx_Run p l e R s m args below meth c H locs cells slots mc ms (F0 m pc ls st0) rest (va_Qi post B A1 a) (vx_X px BX AX) free) (hS : va_S A0 H0 H locs) (hA : ∀ q, q < H.size → A1 q → A0 q) (hf : ∀ q, free q → A0 q) (hAX : ∀ q, q < H.size → AX q → A0 q)
    (kx : ∀ (E : String) (ce : Cell) (q9 : Addr) (u : SX) (t : State) (H1 : Heap) (locs1 : List Loc), t.heap = H1 → s.vm.Alike t.vm → px u → BX E u t → H.size ≤ H1.size → (∀ q : Nat, q < H.size → ¬ AX q → H1[q]? = H[q]?) → va_S A0 H0 H1 locs1 → H1[q9]? = some ce → ce.vm = .none → s.vm.findClass E = some ce.cls → vx_W p l e R s m args below meth c H1 locs1 (cells + mc) (slots + ms) Q (F0 m pc ls rest) q9)
    (kk : ∀ (r : Int32) (u : S) (t : State) (H1 : Heap) (locs1 : List Loc), t.heap = H1 → s.vm.Alike t.vm → post r u → B u t → H.size ≤ H1.size → (∀ q : Nat, q < H.size → ¬ A1 q → H1[q]? = H[q]?) → va_S A0 H0 H1 locs1 → W p l e R s m args below meth c H1 locs1 (cells + mc) (slots + ms) Q (F0 m (pc + 3) ls (.int r :: rest))) : W p l e R s m args below meth c H locs cells slots Q (F0 m pc ls st0) := by
  intro T hT X
  rcases hr T hT X with ⟨v, st₀, t, T', L, h0, X', hL, e1, e2, ⟨⟨r, u, hv, hp, hb⟩, hF⟩, st⟩ | ⟨q, st₀, t, T', L, E, ce, h0, X', hL, e1, e2, ⟨u, hp, hb, hF⟩, hce, hcv, hcl, st⟩
  · cases hv
    obtain ⟨k1, k2, k3⟩ := vx_keep h0 e1 hS hA hf hL hF
    obtain ⟨t2, a1, b1⟩ := kk r u t T'.heap (locs ++ L) e1.symm (by rw [← e2]; exact X'.warmed.alike) hp hb k1 k2 k3 T' rfl X'
    exact ⟨t2, st t2 a1, b1⟩
  · obtain ⟨k1, k2, k3⟩ := vx_keep h0 e1 hS hAX hf hL hF
    obtain ⟨t2, a1, b1⟩ := kx E ce q u t T'.heap (locs ++ L) e1.symm (by rw [← e2]; exact X'.warmed.alike) hp hb k1 k2 k3 (by rw [e1]; exact hce) hcv hcl T' rfl X'
    exact ⟨t2, st.trans a1, b1⟩
theorem vx_calll {S SX : Type} {post : Int64 → S → Prop} {px : SX → Prop} {B : S → State → Prop} {BX : String → SX → State → Prop} {AX : Nat → Prop} (hr : vx_Run p l e R s m args below meth c H locs cells slots mc ms (F0 m pc ls st0) rest (va_Ql post B A1 a) (vx_X px BX AX) free) (hS : va_S A0 H0 H locs) (hA : ∀ q, q < H.size → A1 q → A0 q) (hf : ∀ q, free q → A0 q) (hAX : ∀ q, q < H.size → AX q → A0 q)
    (kx : ∀ (E : String) (ce : Cell) (q9 : Addr) (u : SX) (t : State) (H1 : Heap) (locs1 : List Loc), t.heap = H1 → s.vm.Alike t.vm → px u → BX E u t → H.size ≤ H1.size → (∀ q : Nat, q < H.size → ¬ AX q → H1[q]? = H[q]?) → va_S A0 H0 H1 locs1 → H1[q9]? = some ce → ce.vm = .none → s.vm.findClass E = some ce.cls → vx_W p l e R s m args below meth c H1 locs1 (cells + mc) (slots + ms) Q (F0 m pc ls rest) q9)
    (kk : ∀ (r : Int64) (u : S) (t : State) (H1 : Heap) (locs1 : List Loc), t.heap = H1 → s.vm.Alike t.vm → post r u → B u t → H.size ≤ H1.size → (∀ q : Nat, q < H.size → ¬ A1 q → H1[q]? = H[q]?) → va_S A0 H0 H1 locs1 → W p l e R s m args below meth c H1 locs1 (cells + mc) (slots + ms) Q (F0 m (pc + 3) ls (.long r :: rest))) : W p l e R s m args below meth c H locs cells slots Q (F0 m pc ls st0) := by
  intro T hT X
  rcases hr T hT X with ⟨v, st₀, t, T', L, h0, X', hL, e1, e2, ⟨⟨r, u, hv, hp, hb⟩, hF⟩, st⟩ | ⟨q, st₀, t, T', L, E, ce, h0, X', hL, e1, e2, ⟨u, hp, hb, hF⟩, hce, hcv, hcl, st⟩
  · cases hv
    obtain ⟨k1, k2, k3⟩ := vx_keep h0 e1 hS hA hf hL hF
    obtain ⟨t2, a1, b1⟩ := kk r u t T'.heap (locs ++ L) e1.symm (by rw [← e2]; exact X'.warmed.alike) hp hb k1 k2 k3 T' rfl X'
    exact ⟨t2, st t2 a1, b1⟩
  · obtain ⟨k1, k2, k3⟩ := vx_keep h0 e1 hS hAX hf hL hF
    obtain ⟨t2, a1, b1⟩ := kx E ce q u t T'.heap (locs ++ L) e1.symm (by rw [← e2]; exact X'.warmed.alike) hp hb k1 k2 k3 (by rw [e1]; exact hce) hcv hcl T' rfl X'
    exact ⟨t2, st.trans a1, b1⟩
theorem vx_callf {S SX : Type} {post : UInt32 → S → Prop} {px : SX → Prop} {B : S → State → Prop} {BX : String → SX → State → Prop} {AX : Nat → Prop} (hr : vx_Run p l e R s m args below meth c H locs cells slots mc ms (F0 m pc ls st0) rest (va_Qf post B A1 a) (vx_X px BX AX) free) (hS : va_S A0 H0 H locs) (hA : ∀ q, q < H.size → A1 q → A0 q) (hf : ∀ q, free q → A0 q) (hAX : ∀ q, q < H.size → AX q → A0 q)
    (kx : ∀ (E : String) (ce : Cell) (q9 : Addr) (u : SX) (t : State) (H1 : Heap) (locs1 : List Loc), t.heap = H1 → s.vm.Alike t.vm → px u → BX E u t → H.size ≤ H1.size → (∀ q : Nat, q < H.size → ¬ AX q → H1[q]? = H[q]?) → va_S A0 H0 H1 locs1 → H1[q9]? = some ce → ce.vm = .none → s.vm.findClass E = some ce.cls → vx_W p l e R s m args below meth c H1 locs1 (cells + mc) (slots + ms) Q (F0 m pc ls rest) q9)
    (kk : ∀ (r : UInt32) (u : S) (t : State) (H1 : Heap) (locs1 : List Loc), t.heap = H1 → s.vm.Alike t.vm → post r u → B u t → H.size ≤ H1.size → (∀ q : Nat, q < H.size → ¬ A1 q → H1[q]? = H[q]?) → va_S A0 H0 H1 locs1 → W p l e R s m args below meth c H1 locs1 (cells + mc) (slots + ms) Q (F0 m (pc + 3) ls (.float r :: rest))) : W p l e R s m args below meth c H locs cells slots Q (F0 m pc ls st0) := by
  intro T hT X
  rcases hr T hT X with ⟨v, st₀, t, T', L, h0, X', hL, e1, e2, ⟨⟨r, u, hv, hp, hb⟩, hF⟩, st⟩ | ⟨q, st₀, t, T', L, E, ce, h0, X', hL, e1, e2, ⟨u, hp, hb, hF⟩, hce, hcv, hcl, st⟩
  · cases hv
    obtain ⟨k1, k2, k3⟩ := vx_keep h0 e1 hS hA hf hL hF
    obtain ⟨t2, a1, b1⟩ := kk r u t T'.heap (locs ++ L) e1.symm (by rw [← e2]; exact X'.warmed.alike) hp hb k1 k2 k3 T' rfl X'
    exact ⟨t2, st t2 a1, b1⟩
  · obtain ⟨k1, k2, k3⟩ := vx_keep h0 e1 hS hAX hf hL hF
    obtain ⟨t2, a1, b1⟩ := kx E ce q u t T'.heap (locs ++ L) e1.symm (by rw [← e2]; exact X'.warmed.alike) hp hb k1 k2 k3 (by rw [e1]; exact hce) hcv hcl T' rfl X'
    exact ⟨t2, st.trans a1, b1⟩
theorem vx_calld {S SX : Type} {post : UInt64 → S → Prop} {px : SX → Prop} {B : S → State → Prop} {BX : String → SX → State → Prop} {AX : Nat → Prop} (hr : vx_Run p l e R s m args below meth c H locs cells slots mc ms (F0 m pc ls st0) rest (va_Qd post B A1 a) (vx_X px BX AX) free) (hS : va_S A0 H0 H locs) (hA : ∀ q, q < H.size → A1 q → A0 q) (hf : ∀ q, free q → A0 q) (hAX : ∀ q, q < H.size → AX q → A0 q)
    (kx : ∀ (E : String) (ce : Cell) (q9 : Addr) (u : SX) (t : State) (H1 : Heap) (locs1 : List Loc), t.heap = H1 → s.vm.Alike t.vm → px u → BX E u t → H.size ≤ H1.size → (∀ q : Nat, q < H.size → ¬ AX q → H1[q]? = H[q]?) → va_S A0 H0 H1 locs1 → H1[q9]? = some ce → ce.vm = .none → s.vm.findClass E = some ce.cls → vx_W p l e R s m args below meth c H1 locs1 (cells + mc) (slots + ms) Q (F0 m pc ls rest) q9)
    (kk : ∀ (r : UInt64) (u : S) (t : State) (H1 : Heap) (locs1 : List Loc), t.heap = H1 → s.vm.Alike t.vm → post r u → B u t → H.size ≤ H1.size → (∀ q : Nat, q < H.size → ¬ A1 q → H1[q]? = H[q]?) → va_S A0 H0 H1 locs1 → W p l e R s m args below meth c H1 locs1 (cells + mc) (slots + ms) Q (F0 m (pc + 3) ls (.double r :: rest))) : W p l e R s m args below meth c H locs cells slots Q (F0 m pc ls st0) := by
  intro T hT X
  rcases hr T hT X with ⟨v, st₀, t, T', L, h0, X', hL, e1, e2, ⟨⟨r, u, hv, hp, hb⟩, hF⟩, st⟩ | ⟨q, st₀, t, T', L, E, ce, h0, X', hL, e1, e2, ⟨u, hp, hb, hF⟩, hce, hcv, hcl, st⟩
  · cases hv
    obtain ⟨k1, k2, k3⟩ := vx_keep h0 e1 hS hA hf hL hF
    obtain ⟨t2, a1, b1⟩ := kk r u t T'.heap (locs ++ L) e1.symm (by rw [← e2]; exact X'.warmed.alike) hp hb k1 k2 k3 T' rfl X'
    exact ⟨t2, st t2 a1, b1⟩
  · obtain ⟨k1, k2, k3⟩ := vx_keep h0 e1 hS hAX hf hL hF
    obtain ⟨t2, a1, b1⟩ := kx E ce q u t T'.heap (locs ++ L) e1.symm (by rw [← e2]; exact X'.warmed.alike) hp hb k1 k2 k3 (by rw [e1]; exact hce) hcv hcl T' rfl X'
    exact ⟨t2, st.trans a1, b1⟩
theorem vx_callv {S SX : Type} {post : S → Prop} {px : SX → Prop} {B : S → State → Prop} {BX : String → SX → State → Prop} {AX : Nat → Prop} (hr : vx_Run p l e R s m args below meth c H locs cells slots mc ms (F0 m pc ls st0) rest (va_Qv post B A1 a) (vx_X px BX AX) free) (hS : va_S A0 H0 H locs) (hA : ∀ q, q < H.size → A1 q → A0 q) (hf : ∀ q, free q → A0 q) (hAX : ∀ q, q < H.size → AX q → A0 q)
    (kx : ∀ (E : String) (ce : Cell) (q9 : Addr) (u : SX) (t : State) (H1 : Heap) (locs1 : List Loc), t.heap = H1 → s.vm.Alike t.vm → px u → BX E u t → H.size ≤ H1.size → (∀ q : Nat, q < H.size → ¬ AX q → H1[q]? = H[q]?) → va_S A0 H0 H1 locs1 → H1[q9]? = some ce → ce.vm = .none → s.vm.findClass E = some ce.cls → vx_W p l e R s m args below meth c H1 locs1 (cells + mc) (slots + ms) Q (F0 m pc ls rest) q9)
    (kk : ∀ (u : S) (t : State) (H1 : Heap) (locs1 : List Loc), t.heap = H1 → s.vm.Alike t.vm → post u → B u t → H.size ≤ H1.size → (∀ q : Nat, q < H.size → ¬ A1 q → H1[q]? = H[q]?) → va_S A0 H0 H1 locs1 → W p l e R s m args below meth c H1 locs1 (cells + mc) (slots + ms) Q (F0 m (pc + 3) ls (rest))) : W p l e R s m args below meth c H locs cells slots Q (F0 m pc ls st0) := by
  intro T hT X
  rcases hr T hT X with ⟨v, st₀, t, T', L, h0, X', hL, e1, e2, ⟨⟨u, hv, hp, hb⟩, hF⟩, st⟩ | ⟨q, st₀, t, T', L, E, ce, h0, X', hL, e1, e2, ⟨u, hp, hb, hF⟩, hce, hcv, hcl, st⟩
  · cases hv
    obtain ⟨k1, k2, k3⟩ := vx_keep h0 e1 hS hA hf hL hF
    obtain ⟨t2, a1, b1⟩ := kk u t T'.heap (locs ++ L) e1.symm (by rw [← e2]; exact X'.warmed.alike) hp hb k1 k2 k3 T' rfl X'
    exact ⟨t2, st t2 a1, b1⟩
  · obtain ⟨k1, k2, k3⟩ := vx_keep h0 e1 hS hAX hf hL hF
    obtain ⟨t2, a1, b1⟩ := kx E ce q u t T'.heap (locs ++ L) e1.symm (by rw [← e2]; exact X'.warmed.alike) hp hb k1 k2 k3 (by rw [e1]; exact hce) hcv hcl T' rfl X'
    exact ⟨t2, st.trans a1, b1⟩
/-- caught by the row x of this method's table; the rows ahead don't take it -/
theorem vx_catch {own name : String} {E : String} {ce : Cell} {q : Addr} (hown : s.vm.findClass own = some m.cls) (pre : List ExceptionTableEntry) (x : ExceptionTableEntry) (suf : List ExceptionTableEntry) (hsplit : c.exceptionTable.toList = pre ++ x :: suf)
    (hpass : ∀ z ∈ pre, covers z pc = false ∨ (z.catchType ≠ 0 ∧ ∃ nm : String, (Cond.classLink own z.catchType nm).before args s = true ∧ va_Nc E nm s)) (hx : covers x pc = true) (h0 : x.catchType ≠ 0)
    (hlink : (Cond.classLink own x.catchType name).before args s = true) (hcast : (Cond.castable E name).before args s = true) (hcell : H[q]? = some ce) (hv : ce.vm = .none) (hcl : s.vm.findClass E = some ce.cls)
    (kk : W p l e R s m args below meth c H locs cells slots Q (F0 m x.handlerPc ls [.ref q])) : vx_W p l e R s m args below meth c H locs cells slots Q (F0 m pc ls rest) q := by
  intro T hT X
  have hpl : e.platform.magicAccessors = ({} : Platform).magicAccessors := by rw [X.admits.platform]
  obtain ⟨c3, c4, hc3, hc4, hasg⟩ := Cond.castable_spec hcast
  cases Option.some.inj (hc3.symm.trans hcl)
  obtain ⟨c5, hc5, hcl5⟩ := Cond.classLink_spec hown hlink e.platform hpl
  cases Option.some.inj (hc4.symm.trans hc5)
  obtain ⟨vm', X', st⟩ := X.thenCaughtThrough q (g := F0 m pc ls rest) rfl (Steps.refl _) (by rw [hT]; exact hcell) (by rw [hv]; rfl) (by obtain ⟨k9, h9, -⟩ := Vm.findClass_spec hcl; exact ⟨k9, h9⟩) pre x suf hsplit
    (fun z hz => by
      rcases hpass z hz with h | ⟨hz0, nm, hl1, hn1⟩
      · exact Or.inl h
      · obtain ⟨c6, hc6, hcl6⟩ := Cond.classLink_spec hown hl1 e.platform hpl
        obtain ⟨a8, b8, h1, h2, h3⟩ := hn1
        cases Option.some.inj (h1.symm.trans hcl)
        cases Option.some.inj (h2.symm.trans hc6)
        exact Or.inr ⟨hz0, _, hcl6, h3⟩) hx (Or.inr ⟨h0, c4, hcl5, hasg⟩)
  obtain ⟨t, a1, b1⟩ := kk (T.setVm vm') hT X'
  exact ⟨t, st.trans a1, b1⟩
end Rows
section Ends
variable {p : Program} {l : Launch} {e : Env} {R : Room} {s : State} {m : MethodId} {args : Array Value} {below : List Frame} {meth : Method} {c : Code} {H : Heap} {locs : List Loc} {cells slots : Nat} {Q : State → Prop}
variable {mc ms : Nat} {free : Addr → Prop} {A0 A1 : Nat → Prop} {H0 : Heap} {a : Array Value} {ls : Array Slot} {st0 rest : List Value}
variable {Qc : Array Value → State → Outcome → State → Prop} {XC : String → State → State → Prop}
/-- what a body that may throw owes at its end -/
def vx_MQ (below : List Frame) (Qc : Array Value → State → Outcome → State → Prop) (XC : String → State → State → Prop) (a : Array Value) (s : State) (mc ms : Nat) (free : Addr → Prop) : State → Prop := fun t =>
  ∃ o, t.status = .running ∧ Ended t below o ∧ vx_Q Qc XC mc ms free a s o t
theorem vx_ret {g : JFrame} {mc ms : Nat} (k : W p l e R s m args below meth c H locs cells slots (MQ below Qc args s mc ms free) g) : W p l e R s m args below meth c H locs cells slots (vx_MQ below Qc XC args s mc ms free) g := by
  intro T hT X
  obtain ⟨t, a1, o, b1, b2, b3, b4⟩ := k T hT X
  exact ⟨t, a1, o, b1, b2, Or.inl ⟨b3, b4⟩⟩
/-- not caught here: it goes on to the caller -/
theorem vx_widen {g : JFrame} {q : Addr} {k n : Nat} (h1 : cells ≤ k) (h2 : slots ≤ n) (kk : vx_W p l e R s m args below meth c H locs k n Q g q) : vx_W p l e R s m args below meth c H locs cells slots Q g q := fun T hT X => kk T hT (stand_widen X h1 h2)
theorem vx_out {pc : Nat} {E : String} {ce : Cell} {q : Addr} {mc ms : Nat} (hout : ∀ x ∈ c.exceptionTable.toList, covers x pc = false) (hlocks : meth.locks = false) (hcell : H[q]? = some ce) (hv : ce.vm = .none) (hcl : s.vm.findClass E = some ce.cls)
    (hx : ∀ t : State, t.heap = H → s.vm.Alike t.vm → XC E s t) (hf : ∀ z ∈ locs, free z.base) (hc : cells ≤ mc) (hs : slots ≤ ms) :
    vx_W p l e R s m args below meth c H locs cells slots (vx_MQ below Qc XC args s mc ms free) (F0 m pc ls rest) q := by
  intro T hT X
  obtain ⟨st1, hrun, hend, hW, hsm⟩ := X.leaveThrown q (g := F0 m pc ls rest) rfl rfl rfl hout hlocks
  have hcell9 : (T.setFrames (.throwing q :: below)).heap[q]? = some ce := by
    show T.heap[q]? = some ce
    rw [hT]; exact hcell
  exact ⟨_, st1, .threw q, hrun, hend, Or.inr ⟨q, rfl, E, ce, locs, hx _ hT hW.alike, hcell9, hv, hcl, hW, hsm.mono hc hs, hf⟩⟩
theorem vx_frame {U : State} {k n : Nat} (h : s.sameButNew ({ U with vm := s.vm } : State) locs k n) : s.heap.size ≤ U.heap.size ∧ ∀ q : Nat, q < s.heap.size → (∀ z ∈ locs, z.base ≠ q) → U.heap[q]? = s.heap[q]? := by
  obtain ⟨-, h2, -, -, -, h6⟩ := h
  refine ⟨h2, fun q hq hz => ?_⟩
  obtain ⟨c9, e1, e2, e3, e4⟩ := h6 q _ (Array.getElem?_eq_getElem hq)
  have hs : c9.slots = (s.heap[q]).slots := Array.ext_getElem? fun i => e4 i fun hm => hz _ hm rfl
  have h9 : c9 = s.heap[q] := by
    rw [hs] at e2
    exact e2
  have e5 : U.heap[q]? = some c9 := e1
  rw [e5, h9, Array.getElem?_eq_getElem hq]
/-- the words of a throw but the four that speak of the heap -/
def vx_no (w : Cond) : Bool := decide (w ≠ .isRef (.static Bundle.tN "UNASSIGNED_STACK" Bundle.steD)) && decide (w ≠ .isRef (.static Bundle.tN "SUPPRESSED_SENTINEL" Bundle.listD)) && decide (w ≠ .laysStatic Bundle.tN "UNASSIGNED_STACK" Bundle.steD) && decide (w ≠ .laysStatic Bundle.tN "SUPPRESSED_SENTINEL" Bundle.listD)
def vx_at0 (own : String) (ic : Nat) (X : String) (names : List String) : List Cond := (Bundle.ownAtoms0 own ic X names).filter vx_no
def vx_atS (own : String) (ic : Nat) (X : String) (names : List String) : List Cond := (Bundle.ownAtoms own ic X names).filter vx_no
/-- a word that the tables alone decide, or a good one -/
def vx_ot (w : Cond) : Bool := w.onTables || goodWord w
theorem vx_ot_at {args a' : Array Value} {s U : State} {w : Cond} (hW : s.WarmedH U.vm) (hvm : s.vm = U.vm) (hg : vx_ot w = true) (h : w.before args s = true) : w.before a' U = true := by
  simp only [vx_ot, Bool.or_eq_true] at hg
  rcases hg with hg | hg
  · exact va_tabs hg hvm h
  · exact word_at hW (good_of_word hg) h
/-- a list's words: the good ones out of the method's own list, the others by premises of their own -/
theorem vx_hat {args : Array Value} {s : State} {L B : List Cond} (h1 : ∀ w ∈ L.filter goodWord, w.before args s = true) (h2 : ∀ w ∈ L.filter (fun w => !goodWord w), w ∈ B) (h3 : ∀ w ∈ B, w.before args s = true) : ∀ w ∈ L, w.before args s = true := by
  intro w hw
  by_cases g : goodWord w = true
  · exact h1 w (List.mem_filter.mpr ⟨hw, g⟩)
  · refine h3 w (h2 w (List.mem_filter.mpr ⟨hw, ?_⟩))
    show (!goodWord w) = true
    cases hgw : goodWord w
    · rfl
    · exact absurd hgw g
theorem vx_c {args : Array Value} {s : State} {w : Cond} {B : List Cond} (h : w.before args s = true) (t : ∀ w ∈ B, w.before args s = true) : ∀ w' ∈ w :: B, w'.before args s = true := fun w' h' => (List.mem_cons.mp h').elim (fun e => by rw [e]; exact h) (t w')
theorem vx_n {args : Array Value} {s : State} : ∀ w ∈ ([] : List Cond), w.before args s = true := fun _ h => nomatch h
theorem vx_own {args : Array Value} {s : State} {L : List Cond} (h1 : ∀ w ∈ L.filter vx_no, w.before args s = true)
    (hU : (Cond.isRef (.static Bundle.tN "UNASSIGNED_STACK" Bundle.steD)).before args s = true) (hN : (Cond.isRef (.static Bundle.tN "SUPPRESSED_SENTINEL" Bundle.listD)).before args s = true)
    (lU : (Cond.laysStatic Bundle.tN "UNASSIGNED_STACK" Bundle.steD).before args s = true) (lN : (Cond.laysStatic Bundle.tN "SUPPRESSED_SENTINEL" Bundle.listD).before args s = true) : ∀ w ∈ L, w.before args s = true := by
  intro w hw
  by_cases e1 : w = .isRef (.static Bundle.tN "UNASSIGNED_STACK" Bundle.steD)
  · rw [e1]; exact hU
  · by_cases e2 : w = .isRef (.static Bundle.tN "SUPPRESSED_SENTINEL" Bundle.listD)
    · rw [e2]; exact hN
    · by_cases e3 : w = .laysStatic Bundle.tN "UNASSIGNED_STACK" Bundle.steD
      · rw [e3]; exact lU
      · by_cases e4 : w = .laysStatic Bundle.tN "SUPPRESSED_SENTINEL" Bundle.listD
        · rw [e4]; exact lN
        · exact h1 w (List.mem_filter.mpr ⟨hw, by unfold vx_no; rw [decide_eq_true e1, decide_eq_true e2, decide_eq_true e3, decide_eq_true e4]; rfl⟩)
/-- where a static field lies, its class's statics cell in H -/
def vx_L (C n d : String) (A : Nat → Prop) (U : State) (H : Heap) : Prop := ∃ (c : ClassId) (k : Class) (i : Nat) (f : Field) (a : Nat) (cell : Cell), U.vm.findClass C = some c ∧ U.fieldFound? C n d = some (c, k, i, f) ∧ f.isStatic = true ∧ k.statics = some a ∧ H[a]? = some cell ∧ cell.vm.isStatics = true ∧ cell.cls = c ∧ f.slot < cell.slots.size ∧ k.staticTypes[f.slot]? = some f.type ∧ ¬ A a
theorem vx_L.moved {C n d : String} {A : Nat → Prop} {u U : State} {H : Heap} (hvm : u.vm.Alike U.vm) (h : vx_L C n d A u H) : vx_L C n d A U H := by
  obtain ⟨c, k, i, f, a, cell, h1, h2, h3, h4, h5, h6, h7, h8, h9, h10⟩ := h
  obtain ⟨k', hi', he⟩ := State.fieldFound?_setVm hvm h2
  exact ⟨c, k', i, f, a, cell, by rw [hvm.findClass]; exact h1, hi', h3, by rw [he]; exact h4, h5, h6, h7, h8, by rw [he]; exact h9, h10⟩
theorem vx_L.kept {C n d : String} {A : Nat → Prop} {U : State} {H H1 : Heap} (h : vx_L C n d A U H) (hq : ∀ a : Nat, a < H.size → ¬ A a → H1[a]? = H[a]?) : vx_L C n d A U H1 := by
  obtain ⟨c, k, i, f, a, cell, h1, h2, h3, h4, h5, h6, h7, h8, h9, h10⟩ := h
  exact ⟨c, k, i, f, a, cell, h1, h2, h3, h4, by rw [hq a (Array.getElem?_eq_some_iff.mp h5).1 h10]; exact h5, h6, h7, h8, h9, h10⟩
theorem vx_L.narrow {C n d : String} {A B : Nat → Prop} {U : State} {H : Heap} (h : vx_L C n d A U H) (hAB : ∀ q, B q → A q) : vx_L C n d B U H := by
  obtain ⟨c, k, i, f, a, cell, h1, h2, h3, h4, h5, h6, h7, h8, h9, h10⟩ := h
  exact ⟨c, k, i, f, a, cell, h1, h2, h3, h4, h5, h6, h7, h8, h9, fun z => h10 (hAB _ z)⟩
theorem vx_L.word {C n d : String} {A : Nat → Prop} {s : State} {args : Array Value} (h : vx_L C n d A s s.heap) : (Cond.laysStatic C n d).before args s = true := by
  obtain ⟨c, k, i, f, a, cell, h1, h2, h3, h4, h5, h6, h7, h8, h9, -⟩ := h
  show (Cond.laysStatic C n d).holds args s none s [] = true
  exact Cond.laysStatic_of h1 h2 h3 h4 h5 h6 h7 h8 h9
/-- .. and what it holds: null or some reference -/
def vx_Zq (C n d : String) (A : Nat → Prop) (U : State) (H : Heap) : Prop := va_Zq C n d A U H ∧ vx_L C n d A U H
theorem vx_Zq.moved {C n d : String} {A : Nat → Prop} {u U : State} {H : Heap} (hvm : u.vm.Alike U.vm) (h : vx_Zq C n d A u H) : vx_Zq C n d A U H := ⟨va_Zq.moved hvm h.1, vx_L.moved hvm h.2⟩
theorem vx_Zq.kept {C n d : String} {A : Nat → Prop} {U : State} {H H1 : Heap} (h : vx_Zq C n d A U H) (hq : ∀ a : Nat, a < H.size → ¬ A a → H1[a]? = H[a]?) : vx_Zq C n d A U H1 := ⟨va_Zq.kept h.1 hq, vx_L.kept h.2 hq⟩
theorem vx_Zq.narrow {C n d : String} {A B : Nat → Prop} {U : State} {H : Heap} (h : vx_Zq C n d A U H) (hAB : ∀ q, B q → A q) : vx_Zq C n d B U H := ⟨va_Zq.narrow h.1 hAB, vx_L.narrow h.2 hAB⟩
theorem vx_Zqof {args : Array Value} {s : State} {C n d : String} {A : Nat → Prop} (hl : (Cond.laysStatic C n d).before args s = true) (hini : (Cond.initialized C).before args s = true) (h : (Cond.isRef (.static C n d)).before args s = true) (hA : ∀ a : Nat, a < s.heap.size → ¬ A a) : vx_Zq C n d A s s.heap := by
  refine ⟨va_Zqof hl hini h hA, ?_⟩
  obtain ⟨c, k, i, f, a, cell, h1, h2, h3, h4, h5, h6, h7, h8, h9⟩ := Cond.laysStatic_spec hl
  exact ⟨c, k, i, f, a, cell, h1, h2, h3, h4, h5, h6, h7, h8, h9, hA a (Array.getElem?_eq_some_iff.mp h5).1⟩
theorem vx_isRef {C n d : String} {v : Value} {A : Nat → Prop} {s : State} {args : Array Value} (h : va_Z C n d v A s s.heap) (hv : v.isRef = true) : (Cond.isRef (.static C n d)).before args s = true := by
  obtain ⟨cf, kf, fi, f, a, cell, h1, h2, h3, h4, h5, h6, h7, -⟩ := h
  have he : (Term.static C n d).eval args s none [] s = some v := by
    simp [Term.eval, State.fieldNamed?, h1, h2, h4, h5, h6, h7]
  simp only [Cond.before, Cond.holds, Cond.value, he]
  cases v <;> simp_all [Value.isRef]
theorem vx_isRefq {C n d : String} {A : Nat → Prop} {s : State} {args : Array Value} (h : va_Zq C n d A s s.heap) : (Cond.isRef (.static C n d)).before args s = true := by
  rcases h with h | ⟨t, h⟩
  · exact vx_isRef h rfl
  · exact vx_isRef h rfl
/-- the same frame, seen from here: as if the method were called anew in this heap -/
theorem vx_rebase {T : State} (X : Stand p l e R s m args below meth c T locs cells slots) {R' : Room} (hf : R'.frames ≤ R.frames) (hl : R'.locals ≤ R.locals) (hc : cells + R'.cells ≤ R.cells) (hs : slots + R'.slots ≤ R.slots) :
    Stand p l e R' ((T.setVm s.vm).setFrames (.invoking m args :: below)) m args below meth c T [] 0 0 := by
  have htop : (T.setVm s.vm).topJava?.isSome := X.here.top
  have hF : ((T.setVm s.vm).setFrames (.invoking m args :: below)).frames = .invoking m args :: below := State.frames_setFrames _ (State.cur_lt_of_top htop)
  obtain ⟨g₀, hg0⟩ := Option.isSome_iff_exists.mp htop
  obtain ⟨r, hr⟩ := State.topJava?_eq_some.mp hg0
  have hl9 : e.platform.stackLimits (T.setVm s.vm).me = e.platform.stackLimits s.me := X.limits
  have hb9 : (T.setVm s.vm).me.stackBytes = s.me.stackBytes := X.bytes
  refine ⟨X.admits, X.cas, X.clock, hF, ?_, X.hears, X.method, X.code, X.here, X.tail, X.warmed, ?_, ?_, ?_⟩
  · have h := X.room
    have hU : ((T.setVm s.vm).setFrames (.invoking m args :: below)).localsInUse = s.localsInUse := by
      rw [State.localsInUse_invoking hF (meth := meth) (c := c) X.method X.code, State.localsInUse_invoking X.frames X.method X.code]
    simp only [State.hasRoom, Bool.and_eq_true, decide_eq_true_eq] at h ⊢
    obtain ⟨⟨⟨⟨h1, h2, h3, h4, h5, h6⟩, h7⟩, h8⟩, h9⟩ := h
    rw [X.frames, List.length_cons] at h2 h3
    have q1 := X.heapSize
    have q2 := X.used
    simp only [hF, hU, List.length_cons, State.stackLimits_setFrames, State.stackBytes_setFrames, hl9, hb9]
    refine ⟨⟨⟨⟨by omega, by omega, by omega, by omega, by omega, h6⟩, ?_⟩, ?_⟩, X.book⟩
    · show T.heap.size + R'.cells ≤ e.platform.maxCells
      omega
    · show T.slotsUsed + R'.slots ≤ e.platform.maxSlots
      omega
  · rw [State.stackLimits_setFrames]; rfl
  · rw [State.stackBytes_setFrames]; rfl
  · refine ⟨?_, Nat.le_refl _, Nat.le_refl _, ?_, ?_, fun a c9 h9 => ⟨c9, h9, rfl, rfl, fun _ _ => rfl⟩⟩
    · obtain ⟨t, ht, -⟩ := State.frames_cons hr
      show T.setVm s.vm = { ((T.setVm s.vm).setFrames (.invoking m args :: below)).setFrames (T.setVm s.vm).frames with heap := T.heap, slotsUsed := T.slotsUsed }
      rw [State.setFrames_setFrames, State.setFrames_self ht]
      rfl
    · show T.slotsUsed = T.slotsUsed + ((T.heap.toList.drop T.heap.size).map (·.slots.size)).sum
      rw [List.drop_eq_nil_of_le (Nat.le_of_eq Array.length_toList)]
      rfl
    · show ((T.heap.toList.drop T.heap.size).map (·.slots.size)).sum ≤ 0
      rw [List.drop_eq_nil_of_le (Nat.le_of_eq Array.length_toList)]
      exact Nat.le_refl _
/-- 'throw new E()': new; dup; invokespecial; athrow -/
theorem vx_throw0 {cc : ByteArray} {pc : Nat} (hexec : p.tables.exec = Jvm.exec) (hb : c.code = cc) (hl : l.stackTraces = false) {own cls : String} {names : List String} {ik ic mc ms : Nat} {A : Nat → Prop}
    (hown : s.vm.findClass own = some m.cls) (hcls : Bundle.fit cls = true) (hnames : ∀ n ∈ names, Bundle.fit n = true)
    (hk : (Cond.classLink own ik cls).before args s = true) (hini : (Cond.initialized cls).before args s = true) (hat : ∀ w ∈ vx_at0 own ic cls names, w.before args s = true)
    (hgood : ∀ w ∈ Cond.classLink own ik cls :: Cond.initialized cls :: vx_at0 own ic cls names, vx_ot w = true)
    (hU : vx_Zq Bundle.tN "UNASSIGNED_STACK" Bundle.steD A s s.heap) (hN : vx_Zq Bundle.tN "SUPPRESSED_SENTINEL" Bundle.listD A s s.heap) (hS : va_S A s.heap H locs) (hsize : ls.size = c.maxLocals)
    (d0 : decode cc pc = .ok (.new ik, 3)) (d3 : decode cc (pc + 3) = .ok (.dup, 1)) (d4 : decode cc (pc + 4) = .ok (.invokespecial ic, 3)) (d7 : decode cc (pc + 7) = .ok (.athrow, 1))
    (hout : ∀ x ∈ c.exceptionTable.toList, covers x (pc + 7) = false)
    (hRframes : names.length + 3 < R.frames) (hRlocals : (rest.map fun v => v.category).sum + (13 * (names.length + 1) + 42) ≤ R.locals) (hRcells : cells + 1 ≤ R.cells) (hRslots : slots + 6 ≤ R.slots) (hlocks : meth.locks = false)
    (hx : ∀ t : State, s.vm.Alike t.vm → H.size ≤ t.heap.size → (∀ q : Nat, q < H.size → t.heap[q]? = H[q]?) → XC cls s t)
    (hf : ∀ z ∈ locs, free z.base) (hc : cells + 1 ≤ mc) (hs : slots + 6 ≤ ms) :
    W p l e R s m args below meth c H locs cells slots (vx_MQ below Qc XC args s mc ms free) (F0 m pc ls rest) := by
  intro T hT X
  have htr : e.platform.stackTraces = false := (show e.platform.stackTraces = l.stackTraces by rw [X.admits.platform]).trans hl
  have Y := vx_rebase X (R' := { frames := R.frames, locals := R.locals, cells := 1, slots := 6 }) (Nat.le_refl _) (Nat.le_refl _) hRcells hRslots
  obtain ⟨s', hA⟩ : ∃ z, z = (T.setVm s.vm).setFrames (.invoking m args :: below) := ⟨_, rfl⟩
  rw [← hA] at Y
  have hvm : s'.vm = s.vm := by rw [hA]; rfl
  have hhp : s'.heap = H := by rw [hA]; exact hT
  have hW0 : s.WarmedH s'.vm := by rw [hvm]; exact State.WarmedH.refl s
  have hat' : ∀ w ∈ vx_at0 own ic cls names, w.before args s' = true := fun w hw => vx_ot_at hW0 hvm.symm (hgood w (List.mem_cons_of_mem _ (List.mem_cons_of_mem _ hw))) (hat w hw)
  have hk' : (Cond.classLink own ik cls).before args s' = true := vx_ot_at hW0 hvm.symm (hgood _ List.mem_cons_self) hk
  have hini' : (Cond.initialized cls).before args s' = true := vx_ot_at hW0 hvm.symm (hgood _ (List.mem_cons_of_mem _ List.mem_cons_self)) hini
  have hU' : vx_Zq Bundle.tN "UNASSIGNED_STACK" Bundle.steD A s' s'.heap := by rw [hhp]; exact vx_Zq.moved hW0.alike (hU.kept hS.2.1)
  have hN' : vx_Zq Bundle.tN "SUPPRESSED_SENTINEL" Bundle.listD A s' s'.heap := by rw [hhp]; exact vx_Zq.moved hW0.alike (hN.kept hS.2.1)
  have h : ∀ w ∈ Bundle.ownAtoms0 own ic cls names, w.before args s' = true := vx_own hat' (vx_isRefq hU'.1) (vx_isRefq hN'.1) hU'.2.word hN'.2.word
  have hown' : s'.vm.findClass own = some m.cls := by rw [hvm]; exact hown
  have hins : (Cond.instantiable cls 6).before args s' = true := h _ (by simp [Bundle.ownAtoms0])
  obtain ⟨vm₁, cX, kX, hfX, hkX, -, -, X₁, st1⟩ := Y.newCold hexec (own := own) (C := cls) (index := ik) (n := 6) hown' hk' hins hini'
    (g := F0 m pc ls rest) rfl (by rw [hb]; exact d0) (Nat.le_refl _) (Nat.le_refl _)
  generalize hT1 : (T.setVm vm₁).pushCell { cls := cX, slots := kX.instanceTypes.map defaultValue, vm := .none } = T1 at X₁ st1
  have hcat : (Value.ref T.heap.size).category = 1 := rfl
  have hcellA : T1.heap[T.heap.size]? = some (freshCell cX kX) := by rw [← hT1]; exact State.heap_pushCell_size _ _
  have d3' : decode c.code (pc + 3) = .ok (.dup, 1) := by rw [hb]; exact d3
  obtain ⟨U, hsteps, hrun, hend, hW, hsame, ce, hce, hO⟩ := X₁.ctorThrow0 hexec htr (own := own) (cls := cls) (names := names) (ic := ic) hown' hcls hnames h (fun x hx => nomatch hx) hfX hkX hcellA (by rw [hhp, hT]; exact Nat.le_refl _)
    (g := { method := m, pc := pc + 4, locals := ls, stack := .ref T.heap.size :: .ref T.heap.size :: rest, locked := none }) rfl hsize rfl rfl (rest := rest) rfl
    (by rw [hb]; exact d4) (by rw [hb]; exact d7) hout hRframes (by simp only [List.map_cons, List.sum_cons, hcat]; omega) hlocks
  obtain ⟨f1, f2⟩ := vx_frame hsame
  rw [hhp] at f1 f2
  have hWs : s.WarmedH U.vm := State.WarmedH.trans hW0 hW
  have hcl : s.vm.findClass cls = some ce.cls := by
    have h9 := hO.cls
    rw [hvm] at h9
    exact h9
  have hall : s.sameButNew ({ U with vm := s.vm } : State) locs mc ms := by
    subst hA
    obtain ⟨e1, e2⟩ := hsame
    rw [State.setFrames_setFrames] at e1
    have h2 : (T.setVm s.vm).sameButNew ({ U with vm := s.vm } : State) [] (0 + 1) (0 + 6) := ⟨e1, e2⟩
    have h3 := X.same.trans h2
    rw [List.append_nil] at h3
    exact h3.mono hc hs
  refine ⟨U, ?_, .threw T.heap.size, hrun, hend, Or.inr ⟨T.heap.size, rfl, cls, ce, locs, hx U hWs.alike f1 (fun q hq => f2 q hq (fun z hz => nomatch hz)), hce, hO.vm, hcl, hWs, hall, hf⟩⟩
  refine st1 _ ?_
  show Steps p.tables e below (T1.setTop { method := m, pc := pc + 3, locals := ls, stack := .ref T.heap.size :: rest, locked := none }) _
  jvm_step X₁.here [X₁.here.top, hexec, d3', Value.category]
  exact hsteps
/-- 'throw new E("text")': new; dup; ldc; invokespecial; athrow -/
theorem vx_throwS {cc : ByteArray} {pc : Nat} (hexec : p.tables.exec = Jvm.exec) (hb : c.code = cc) (hl : l.stackTraces = false) {own cls text : String} {names : List String} {ik is ic mc ms sa : Nat} {A : Nat → Prop}
    (hown : s.vm.findClass own = some m.cls) (hcls : Bundle.fit cls = true) (hnames : ∀ n ∈ names, Bundle.fit n = true)
    (hk : (Cond.classLink own ik cls).before args s = true) (hini : (Cond.initialized cls).before args s = true) (hstr : vk_R own is text sa s) (hat : ∀ w ∈ vx_atS own ic cls names, w.before args s = true)
    (hgood : ∀ w ∈ Cond.classLink own ik cls :: Cond.initialized cls :: vx_atS own ic cls names, vx_ot w = true)
    (hU : vx_Zq Bundle.tN "UNASSIGNED_STACK" Bundle.steD A s s.heap) (hN : vx_Zq Bundle.tN "SUPPRESSED_SENTINEL" Bundle.listD A s s.heap) (hS : va_S A s.heap H locs) (hsize : ls.size = c.maxLocals)
    (d0 : decode cc pc = .ok (.new ik, 3)) (d3 : decode cc (pc + 3) = .ok (.dup, 1)) (d4 : decode cc (pc + 4) = .ok (.ldc is, 2)) (d6 : decode cc (pc + 6) = .ok (.invokespecial ic, 3)) (d9 : decode cc (pc + 9) = .ok (.athrow, 1))
    (hout : ∀ x ∈ c.exceptionTable.toList, covers x (pc + 9) = false)
    (hRframes : names.length + 3 < R.frames) (hRlocals : (rest.map fun v => v.category).sum + (13 * (names.length + 1) + 43) ≤ R.locals) (hRcells : cells + 1 ≤ R.cells) (hRslots : slots + 6 ≤ R.slots) (hlocks : meth.locks = false)
    (hx : ∀ t : State, s.vm.Alike t.vm → H.size ≤ t.heap.size → (∀ q : Nat, q < H.size → t.heap[q]? = H[q]?) → XC cls s t)
    (hf : ∀ z ∈ locs, free z.base) (hc : cells + 1 ≤ mc) (hs : slots + 6 ≤ ms) :
    W p l e R s m args below meth c H locs cells slots (vx_MQ below Qc XC args s mc ms free) (F0 m pc ls rest) := by
  intro T hT X
  have htr : e.platform.stackTraces = false := (show e.platform.stackTraces = l.stackTraces by rw [X.admits.platform]).trans hl
  have Y := vx_rebase X (R' := { frames := R.frames, locals := R.locals, cells := 1, slots := 6 }) (Nat.le_refl _) (Nat.le_refl _) hRcells hRslots
  obtain ⟨s', hA⟩ : ∃ z, z = (T.setVm s.vm).setFrames (.invoking m args :: below) := ⟨_, rfl⟩
  rw [← hA] at Y
  have hvm : s'.vm = s.vm := by rw [hA]; rfl
  have hhp : s'.heap = H := by rw [hA]; exact hT
  have hW0 : s.WarmedH s'.vm := by rw [hvm]; exact State.WarmedH.refl s
  have hat' : ∀ w ∈ vx_atS own ic cls names, w.before args s' = true := fun w hw => vx_ot_at hW0 hvm.symm (hgood w (List.mem_cons_of_mem _ (List.mem_cons_of_mem _ hw))) (hat w hw)
  have hk' : (Cond.classLink own ik cls).before args s' = true := vx_ot_at hW0 hvm.symm (hgood _ List.mem_cons_self) hk
  have hini' : (Cond.initialized cls).before args s' = true := vx_ot_at hW0 hvm.symm (hgood _ (List.mem_cons_of_mem _ List.mem_cons_self)) hini
  have hU' : vx_Zq Bundle.tN "UNASSIGNED_STACK" Bundle.steD A s' s'.heap := by rw [hhp]; exact vx_Zq.moved hW0.alike (hU.kept hS.2.1)
  have hN' : vx_Zq Bundle.tN "SUPPRESSED_SENTINEL" Bundle.listD A s' s'.heap := by rw [hhp]; exact vx_Zq.moved hW0.alike (hN.kept hS.2.1)
  have h : ∀ w ∈ Bundle.ownAtoms own ic cls names, w.before args s' = true := vx_own hat' (vx_isRefq hU'.1) (vx_isRefq hN'.1) hU'.2.word hN'.2.word
  have hown' : s'.vm.findClass own = some m.cls := by rw [hvm]; exact hown
  have hins : (Cond.instantiable cls 6).before args s' = true := h _ (by simp [Bundle.ownAtoms])
  obtain ⟨vm₁, cX, kX, hfX, hkX, -, -, X₁, st1⟩ := Y.newCold hexec (own := own) (C := cls) (index := ik) (n := 6) hown' hk' hins hini'
    (g := F0 m pc ls rest) rfl (by rw [hb]; exact d0) (Nat.le_refl _) (Nat.le_refl _)
  generalize hT1 : (T.setVm vm₁).pushCell { cls := cX, slots := kX.instanceTypes.map defaultValue, vm := .none } = T1 at X₁ st1
  have hcat : (Value.ref T.heap.size).category = 1 := rfl
  have hcellA : T1.heap[T.heap.size]? = some (freshCell cX kX) := by rw [← hT1]; exact State.heap_pushCell_size _ _
  have d3' : decode c.code (pc + 3) = .ok (.dup, 1) := by rw [hb]; exact d3
  have d4' : decode c.code (pc + 4) = .ok (.ldc is, 2) := by rw [hb]; exact d4
  have hstr' : vk_R own is text sa s' := vk_R.warm hW0 hstr
  obtain ⟨U, hsteps, hrun, hend, hW, hsame, ce, hce, hO⟩ := X₁.ctorThrowS hexec htr (own := own) (cls := cls) (names := names) (ic := ic) hown' hcls hnames h (fun x hx => nomatch hx) hfX hkX hcellA (by rw [hhp, hT]; exact Nat.le_refl _) (msg := .ref sa) rfl
    (g := { method := m, pc := pc + 6, locals := ls, stack := .ref sa :: .ref T.heap.size :: .ref T.heap.size :: rest, locked := none }) rfl hsize rfl rfl (rest := rest) rfl
    (by rw [hb]; exact d6) (by rw [hb]; exact d9) hout hRframes (by simp only [List.map_cons, List.sum_cons, hcat]; omega) hlocks
  obtain ⟨f1, f2⟩ := vx_frame hsame
  rw [hhp] at f1 f2
  have hWs : s.WarmedH U.vm := State.WarmedH.trans hW0 hW
  have hcl : s.vm.findClass cls = some ce.cls := by
    have h9 := hO.cls
    rw [hvm] at h9
    exact h9
  have hall : s.sameButNew ({ U with vm := s.vm } : State) locs mc ms := by
    subst hA
    obtain ⟨e1, e2⟩ := hsame
    rw [State.setFrames_setFrames] at e1
    have h2 : (T.setVm s.vm).sameButNew ({ U with vm := s.vm } : State) [] (0 + 1) (0 + 6) := ⟨e1, e2⟩
    have h3 := X.same.trans h2
    rw [List.append_nil] at h3
    exact h3.mono hc hs
  refine ⟨U, ?_, .threw T.heap.size, hrun, hend, Or.inr ⟨T.heap.size, rfl, cls, ce, locs, hx U hWs.alike f1 (fun q hq => f2 q hq (fun z hz => nomatch hz)), hce, hO.vm, hcl, hWs, hall, hf⟩⟩
  refine st1 _ ?_
  show Steps p.tables e below (T1.setTop { method := m, pc := pc + 3, locals := ls, stack := .ref T.heap.size :: rest, locked := none }) _
  jvm_step X₁.here [X₁.here.top, hexec, d3', Value.category]
  exact X₁.ldcString hexec (own := own) (text := text) (index := is) (a := sa) hown' hstr'.1 hstr'.2
    (g := { method := m, pc := pc + 4, locals := ls, stack := .ref T.heap.size :: .ref T.heap.size :: rest, locked := none }) rfl d4' _ hsteps
/-- 'throw new E("text")', the text by a wide index -/
theorem vx_throwSW {cc : ByteArray} {pc : Nat} (hexec : p.tables.exec = Jvm.exec) (hb : c.code = cc) (hl : l.stackTraces = false) {own cls text : String} {names : List String} {ik is ic mc ms sa : Nat} {A : Nat → Prop}
    (hown : s.vm.findClass own = some m.cls) (hcls : Bundle.fit cls = true) (hnames : ∀ n ∈ names, Bundle.fit n = true)
    (hk : (Cond.classLink own ik cls).before args s = true) (hini : (Cond.initialized cls).before args s = true) (hstr : vk_R own is text sa s) (hat : ∀ w ∈ vx_atS own ic cls names, w.before args s = true)
    (hgood : ∀ w ∈ Cond.classLink own ik cls :: Cond.initialized cls :: vx_atS own ic cls names, vx_ot w = true)
    (hU : vx_Zq Bundle.tN "UNASSIGNED_STACK" Bundle.steD A s s.heap) (hN : vx_Zq Bundle.tN "SUPPRESSED_SENTINEL" Bundle.listD A s s.heap) (hS : va_S A s.heap H locs) (hsize : ls.size = c.maxLocals)
    (d0 : decode cc pc = .ok (.new ik, 3)) (d3 : decode cc (pc + 3) = .ok (.dup, 1)) (d4 : decode cc (pc + 4) = .ok (.ldc_w is, 3)) (d7 : decode cc (pc + 7) = .ok (.invokespecial ic, 3)) (d10 : decode cc (pc + 10) = .ok (.athrow, 1))
    (hout : ∀ x ∈ c.exceptionTable.toList, covers x (pc + 10) = false)
    (hRframes : names.length + 3 < R.frames) (hRlocals : (rest.map fun v => v.category).sum + (13 * (names.length + 1) + 43) ≤ R.locals) (hRcells : cells + 1 ≤ R.cells) (hRslots : slots + 6 ≤ R.slots) (hlocks : meth.locks = false)
    (hx : ∀ t : State, s.vm.Alike t.vm → H.size ≤ t.heap.size → (∀ q : Nat, q < H.size → t.heap[q]? = H[q]?) → XC cls s t)
    (hf : ∀ z ∈ locs, free z.base) (hc : cells + 1 ≤ mc) (hs : slots + 6 ≤ ms) :
    W p l e R s m args below meth c H locs cells slots (vx_MQ below Qc XC args s mc ms free) (F0 m pc ls rest) := by
  intro T hT X
  have htr : e.platform.stackTraces = false := (show e.platform.stackTraces = l.stackTraces by rw [X.admits.platform]).trans hl
  have Y := vx_rebase X (R' := { frames := R.frames, locals := R.locals, cells := 1, slots := 6 }) (Nat.le_refl _) (Nat.le_refl _) hRcells hRslots
  obtain ⟨s', hA⟩ : ∃ z, z = (T.setVm s.vm).setFrames (.invoking m args :: below) := ⟨_, rfl⟩
  rw [← hA] at Y
  have hvm : s'.vm = s.vm := by rw [hA]; rfl
  have hhp : s'.heap = H := by rw [hA]; exact hT
  have hW0 : s.WarmedH s'.vm := by rw [hvm]; exact State.WarmedH.refl s
  have hat' : ∀ w ∈ vx_atS own ic cls names, w.before args s' = true := fun w hw => vx_ot_at hW0 hvm.symm (hgood w (List.mem_cons_of_mem _ (List.mem_cons_of_mem _ hw))) (hat w hw)
  have hk' : (Cond.classLink own ik cls).before args s' = true := vx_ot_at hW0 hvm.symm (hgood _ List.mem_cons_self) hk
  have hini' : (Cond.initialized cls).before args s' = true := vx_ot_at hW0 hvm.symm (hgood _ (List.mem_cons_of_mem _ List.mem_cons_self)) hini
  have hU' : vx_Zq Bundle.tN "UNASSIGNED_STACK" Bundle.steD A s' s'.heap := by rw [hhp]; exact vx_Zq.moved hW0.alike (hU.kept hS.2.1)
  have hN' : vx_Zq Bundle.tN "SUPPRESSED_SENTINEL" Bundle.listD A s' s'.heap := by rw [hhp]; exact vx_Zq.moved hW0.alike (hN.kept hS.2.1)
  have h : ∀ w ∈ Bundle.ownAtoms own ic cls names, w.before args s' = true := vx_own hat' (vx_isRefq hU'.1) (vx_isRefq hN'.1) hU'.2.word hN'.2.word
  have hown' : s'.vm.findClass own = some m.cls := by rw [hvm]; exact hown
  have hins : (Cond.instantiable cls 6).before args s' = true := h _ (by simp [Bundle.ownAtoms])
  obtain ⟨vm₁, cX, kX, hfX, hkX, -, -, X₁, st1⟩ := Y.newCold hexec (own := own) (C := cls) (index := ik) (n := 6) hown' hk' hins hini'
    (g := F0 m pc ls rest) rfl (by rw [hb]; exact d0) (Nat.le_refl _) (Nat.le_refl _)
  generalize hT1 : (T.setVm vm₁).pushCell { cls := cX, slots := kX.instanceTypes.map defaultValue, vm := .none } = T1 at X₁ st1
  have hcat : (Value.ref T.heap.size).category = 1 := rfl
  have hcellA : T1.heap[T.heap.size]? = some (freshCell cX kX) := by rw [← hT1]; exact State.heap_pushCell_size _ _
  have d3' : decode c.code (pc + 3) = .ok (.dup, 1) := by rw [hb]; exact d3
  have d4' : decode c.code (pc + 4) = .ok (.ldc_w is, 3) := by rw [hb]; exact d4
  have hstr' : vk_R own is text sa s' := vk_R.warm hW0 hstr
  obtain ⟨U, hsteps, hrun, hend, hW, hsame, ce, hce, hO⟩ := X₁.ctorThrowS hexec htr (own := own) (cls := cls) (names := names) (ic := ic) hown' hcls hnames h (fun x hx => nomatch hx) hfX hkX hcellA (by rw [hhp, hT]; exact Nat.le_refl _) (msg := .ref sa) rfl
    (g := { method := m, pc := pc + 7, locals := ls, stack := .ref sa :: .ref T.heap.size :: .ref T.heap.size :: rest, locked := none }) rfl hsize rfl rfl (rest := rest) rfl
    (by rw [hb]; exact d7) (by rw [hb]; exact d10) hout hRframes (by simp only [List.map_cons, List.sum_cons, hcat]; omega) hlocks
  obtain ⟨f1, f2⟩ := vx_frame hsame
  rw [hhp] at f1 f2
  have hWs : s.WarmedH U.vm := State.WarmedH.trans hW0 hW
  have hcl : s.vm.findClass cls = some ce.cls := by
    have h9 := hO.cls
    rw [hvm] at h9
    exact h9
  have hall : s.sameButNew ({ U with vm := s.vm } : State) locs mc ms := by
    subst hA
    obtain ⟨e1, e2⟩ := hsame
    rw [State.setFrames_setFrames] at e1
    have h2 : (T.setVm s.vm).sameButNew ({ U with vm := s.vm } : State) [] (0 + 1) (0 + 6) := ⟨e1, e2⟩
    have h3 := X.same.trans h2
    rw [List.append_nil] at h3
    exact h3.mono hc hs
  refine ⟨U, ?_, .threw T.heap.size, hrun, hend, Or.inr ⟨T.heap.size, rfl, cls, ce, locs, hx U hWs.alike f1 (fun q hq => f2 q hq (fun z hz => nomatch hz)), hce, hO.vm, hcl, hWs, hall, hf⟩⟩
  refine st1 _ ?_
  show Steps p.tables e below (T1.setTop { method := m, pc := pc + 3, locals := ls, stack := .ref T.heap.size :: rest, locked := none }) _
  jvm_step X₁.here [X₁.here.top, hexec, d3', Value.category]
  exact X₁.ldcStringW hexec (own := own) (text := text) (index := is) (a := sa) hown' hstr'.1 hstr'.2
    (g := { method := m, pc := pc + 4, locals := ls, stack := .ref T.heap.size :: .ref T.heap.size :: rest, locked := none }) rfl d4' _ hsteps
end Ends
section Bodies
variable {l : Launch}
theorem vx_ofW {y : MethodName} {ws ws' : List Cond} {rm : Room} {Pc : Array Value → State → Prop} {Qc : Array Value → State → Outcome → State → Prop} {XC : String → State → State → Prop} {mc ms : Nat} {free : Addr → Prop} {cc : ByteArray} {maxL : Nat} {ret : Option FieldType}
    (hy : plainName y.cls = true) (hw : ws = Cond.code y cc maxL ret :: ws')
    (body : ∀ p e s m args below meth c s₁, BodyLoose p l y (headSpec ws rm) cc maxL ret e s m args below meth c s₁ → c.maxLocals = maxL → (∀ x ∈ c.exceptionTable.toList, False) → Pc args s →
      W p l e (headSpec ws rm).room s m args below meth c s.heap [] 0 0 (vx_MQ below Qc XC args s mc ms free) (entryFrame m args maxL)) : vx_Met l y ws rm Pc Qc XC mc ms free := by
  refine MetFree.of_bodyS (code := cc) (maxLocals := maxL) (ret := ret) hy ?_ ?_
  · intro args s m h hn
    obtain ⟨meth, c, h1, h2, h3, h4, h5, h6, -, -⟩ := Cond.code_spec hn (atoms_spec (ws := ws) h _ (by rw [hw]; exact List.mem_cons_self))
    exact ⟨meth, c, h1, h2, h3, h4, h5, h6⟩
  · intro p e s m args below meth c s₁ B hml hP _
    have hh0 : s₁.heap = s.heap := by rw [B.state]; rfl
    have ht : ∀ x ∈ c.exceptionTable.toList, False := by
      obtain ⟨meth9, c9, h1, h2, -, -, -, -, h7, -⟩ := Cond.code_spec B.named (atoms_spec (ws := ws) B.pre _ (by rw [hw]; exact List.mem_cons_self))
      cases Option.some.inj (h1.symm.trans B.method)
      cases Option.some.inj (h2.symm.trans (Stand.of_body B).code)
      intro x hx
      rw [Array.isEmpty_iff.mp h7] at hx
      cases hx
    obtain ⟨t, a1, o, b1, b2, b3⟩ := body p e s m args below meth c s₁ B hml ht hP s₁ hh0 (Stand.of_body B)
    exact ⟨t, o, a1, b1, b2, b3⟩
/-- the table of a body with handlers -/
theorem vx_table {p : Program} {x y : MethodName} {S : Spec} {cc bytes : ByteArray} {maxL maxL' : Nat} {ret ret' : Option FieldType} {e : Env} {s s₁ : State} {m : MethodId} {args : Array Value} {below : List Frame} {meth : Method} {c : Code} {hh : List (Nat × Nat × Nat × Nat)}
    (B : BodyLoose p l y S cc maxL ret e s m args below meth c s₁) (h : (Cond.codeWith y bytes maxL' ret' hh).before args s = true) : c.exceptionTable.toList = tableOf hh := by
  obtain ⟨m9, meth9, c9, hn9, h1, h2, -, -, h6, -⟩ := Cond.codeWith_spec h
  cases Option.some.inj (hn9.symm.trans B.named)
  cases Option.some.inj (h1.symm.trans B.method)
  cases Option.some.inj (h2.symm.trans (Stand.of_body B).code)
  rw [← h6, table_eq]
end Bodies
end VXA
/-! ===== END ===== -/
/-! ===== BEGIN a static call of a method with an exception table ===== -/
section VXS
variable {p : Program} {l : Launch} {e : Env} {R : Room} {s : State} {m : MethodId} {args : Array Value} {below : List Frame} {meth : Method} {c : Code} {T : State} {H : Heap} {locs : List Loc} {cells slots : Nat}
abbrev vx_CSW (R : Room) (s : State) (args : Array Value) (own : String) (index : Nat) (y : MethodName) (bytes : ByteArray) (maxL : Nat) (ret : Option FieldType) (hh : List (Nat × Nat × Nat × Nat)) (ws : List Cond) (rm : Room) (mc ms n : Nat) : Prop :=
  (rm.cells = mc ∧ rm.slots = ms ∧ rm.frames + 1 ≤ R.frames ∧ 8 + (maxL + 11) + rm.locals ≤ R.locals ∧ (∀ w ∈ ws, ∀ (a' : Array Value) (U : State), s.WarmedH U.vm → w.before a' U = true) ∧ Cond.codeWith y bytes maxL ret hh ∈ ws) ∧
  (Cond.codeWith y bytes maxL ret hh).before args s = true ∧ (Cond.initialized y.cls).before args s = true ∧ (y.cls ≠ "java/lang/invoke/MethodHandle" ∧ y.cls ≠ "java/lang/invoke/VarHandle") ∧
  (∀ sig, parseMethodDescriptor y.desc = some sig → n = sig.parameters.length) ∧ (Cond.methodLink own index y).before args s = true ∧ (Cond.static y).before args s = true
theorem vx_cwSW {own : String} {index maxL mc ms : Nat} {y : MethodName} {bytes : ByteArray} {ret : Option FieldType} {hh : List (Nat × Nat × Nat × Nat)} {Ts ws ws' : List Cond} {rm : Room} (n : Nat) (ht : ∀ w ∈ Ts, w.before args s = true) (hT : GoodIn Ts (va_wsS own index y ws)) (hw : ws = Cond.codeWith y bytes maxL ret hh :: ws') (hrc : rm.cells = mc) (hrs : rm.slots = ms)
    (hd : y.cls ≠ "java/lang/invoke/MethodHandle" ∧ y.cls ≠ "java/lang/invoke/VarHandle" ∧ (parseMethodDescriptor y.desc).map (fun d => d.parameters.length) = some n) (hR : rm.frames + 1 ≤ R.frames ∧ 8 + (maxL + 11) + rm.locals ≤ R.locals) :
    vx_CSW R s args own index y bytes maxL ret hh ws rm mc ms n := by
  have ok : ∀ w ∈ va_wsS own index y ws, w.before args s = true := fun w h => ht w (hT w h).1
  have hG : GoodIn Ts ws := fun w h => hT w (by unfold va_wsS; exact List.mem_append_right _ h)
  have hc : Cond.codeWith y bytes maxL ret hh ∈ ws := by rw [hw]; exact List.mem_cons_self
  refine ⟨⟨hrc, hrs, hR.1, hR.2, pay_in ht hG, hc⟩, ht _ (hG _ hc).1, ok _ (by simp [va_wsS]), ⟨hd.1, hd.2.1⟩, fun sig h => ?_, ok _ (by simp [va_wsS]), ok _ (by simp [va_wsS])⟩
  have h2 := hd.2.2
  rw [h] at h2
  exact (Option.some.inj h2).symm
theorem vx_callSW (X : Stand p l e R s m args below meth c T locs cells slots) (hexec : p.tables.exec = Jvm.exec) {own : String} {index : Nat} {y : MethodName} {bytes : ByteArray} {maxL : Nat} {ret : Option FieldType} {hh : List (Nat × Nat × Nat × Nat)}
    (hown : s.vm.findClass own = some m.cls) (hlink : (Cond.methodLink own index y).before args s = true) (hstat : (Cond.static y).before args s = true) (hinit : (Cond.initialized y.cls).before args s = true)
    (hcode : (Cond.codeWith y bytes maxL ret hh).before args s = true) (hy : y.cls ≠ "java/lang/invoke/MethodHandle" ∧ y.cls ≠ "java/lang/invoke/VarHandle")
    {W9 : Nat} {Pre : Pt → Array Value → Prop} {Post : Pt → Array Value → Option Value → Pt → Prop} (hK : Back l R p e below s args y 3 W9 Pre Post)
    {g : JFrame} (hg : g.method = m) (hsize : g.locals.size = c.maxLocals) {argsL rest : List Value} (hlen : ∀ sig, parseMethodDescriptor y.desc = some sig → argsL.length = sig.parameters.length)
    (hstack : g.stack = argsL.reverse ++ rest) (hW : 2 * g.monitorRoom + (rest.map fun v => v.category).sum ≤ W9) (hdg : decode c.code g.pc = .ok (.invokestatic index, 3))
    (hpre : ∀ vm₁, s.WarmedH vm₁ → Pre ⟨T.setVm vm₁, locs, cells, slots⟩ argsL.toArray) :
    ∃ (v : Option Value) (vm₁ : Vm) (B : Pt), s.WarmedH vm₁ ∧ Stand p l e R s m args below meth c B.U B.locs B.cells B.slots ∧ Post ⟨T.setVm vm₁, locs, cells, slots⟩ argsL.toArray v B ∧
      ∀ target, Steps p.tables e below (B.U.setTop { g with pc := g.pc + 3, stack := v.toList ++ rest }) target → Steps p.tables e below (T.setTop g) target := by
  obtain ⟨mk, methM, cM, hnamed, hmethM, -, -, -, -, -, -, hsigM⟩ := Cond.codeWith_spec hcode
  have hstatic : methM.isStatic = true := Cond.static_spec hnamed hmethM hstat
  obtain ⟨kP, hkP, -⟩ := className_of_methodNamed hnamed
  have hinitP : kP.init = .initialized := Cond.initialized_spec (findClass_of_methodNamed hnamed) hkP hinit
  obtain ⟨vm₁, X₁, hstep₁⟩ := X.invokestatic hexec hown hlink hnamed hmethM hstatic hkP hinitP hy (g := g) hg (argsL := argsL) (rest := rest) (hlen _ hsigM) hstack hdg
  obtain ⟨v, B, X', hpost, hsteps⟩ := hK m meth c ⟨T.setVm vm₁, locs, cells, slots⟩ { g with stack := rest } (.invokestatic index) mk argsL.toArray X₁ hg hsize hdg hW (X₁.named hnamed) (hpre vm₁ X₁.warmed)
  exact ⟨v, vm₁, B, X₁.warmed, X', hpost, fun target h => hstep₁ _ fun acts => by rw [doInvoke_state]; exact hsteps.trans h⟩
theorem vx_runSW {y : MethodName} {bytes cc : ByteArray} {maxL nL mc ms n index : Nat} {ret : Option FieldType} {hh : List (Nat × Nat × Nat × Nat)} {ws : List Cond} {rm : Room} {Pc : Array Value → State → Prop} {Qc : Array Value → State → Outcome → State → Prop} {free : Addr → Prop} {Ts : List Cond} {own : String} {As rest : List Value} {g : JFrame}
    (S : CallFix p m c cc nL s args Ts own) (hM : Met l y ws rm Pc Qc mc ms free) (cw : vx_CSW R s args own index y bytes maxL ret hh ws rm mc ms n) (hp : PreS s H Pc As)
    (hg : g.method = m) (hn : As.length = n) (hsize : g.locals.size = nL) (hstack : g.stack = As.reverse ++ rest) (hW : 2 * g.monitorRoom + (rest.map fun v => v.category).sum ≤ 8) (hdg : decode cc g.pc = .ok (.invokestatic index, 3)) (hf : cells + mc ≤ R.cells ∧ slots + ms ≤ R.slots) :
    va_Run p l e R s m args below meth c H locs cells slots mc ms g rest (Qc As.toArray) (free) := by
  obtain ⟨⟨hrc, hrs, hfr, hlo, hws, hcw⟩, hcode, hini, hy, hlen, hl, hstt⟩ := cw
  have hK : Back l R p e below s args y 3 8 (PreOf R mc ms Pc) (PostOf Qc mc ms free) := va_backW (hh := hh) (bytes := bytes) (maxL := maxL) (ret := ret) hM hp.1 hrc hrs hfr hlo hws hcw (fun a' U hW => word_at hW (Or.inl (by first | rfl | simp [Cond.onTables, Cond.keeps, Cond.steady])) hini)
  obtain ⟨hx, hb, hml, ho, -⟩ := S
  intro T hT X
  obtain ⟨v, vm₁, ⟨U', l2, c2, s2⟩, hW₁, X', ⟨g', mk, t, L, e1, e2, hq, h1, hL, h2, h3⟩, st⟩ := vx_callSW X hx (hh := hh) (bytes := bytes) (maxL := maxL) (ret := ret) ho hl hstt hini hcode hy hK hg (hsize.trans hml.symm) (argsL := As) (rest := rest) (fun sig h => hn.trans (hlen sig h)) hstack hW (by rw [hb]; exact hdg)
    (fun vm₁ hW₁ => ⟨hf.1, hf.2, hp.2 (T.setVm vm₁) hT hW₁⟩)
  dsimp only [Pt.U, Pt.locs, Pt.cells, Pt.slots] at X' e1 e2 h1 h2 h3 st
  subst h1; subst h2; subst h3
  exact ⟨v, (T.setVm vm₁).calling g' mk As.toArray, t, U', L, hT, X', hL, e1, e2, hq, st⟩
/-- not caught here, past rows that name other classes: it goes on to the caller -/
theorem vx_outP {p : Program} {l : Launch} {e : Env} {R : Room} {s : State} {m : MethodId} {args : Array Value} {below : List Frame} {meth : Method} {c : Code} {H : Heap} {locs : List Loc} {cells slots : Nat} {free : Addr → Prop} {ls : Array Slot} {rest : List Value} {Qc : Array Value → State → Outcome → State → Prop} {XC : String → State → State → Prop}
    {pc : Nat} {own E : String} {ce : Cell} {q : Addr} {mc ms : Nat} (hown : s.vm.findClass own = some m.cls) (hlocks : meth.locks = false)
    (hpass : ∀ z ∈ c.exceptionTable.toList, covers z pc = false ∨ (z.catchType ≠ 0 ∧ ∃ nm : String, (Cond.classLink own z.catchType nm).before args s = true ∧ va_Nc E nm s)) (hcell : H[q]? = some ce) (hv : ce.vm = .none) (hcl : s.vm.findClass E = some ce.cls)
    (hx : ∀ t : State, t.heap = H → s.vm.Alike t.vm → XC E s t) (hf : ∀ z ∈ locs, free z.base) (hc : cells ≤ mc) (hs : slots ≤ ms) :
    vx_W p l e R s m args below meth c H locs cells slots (vx_MQ below Qc XC args s mc ms free) (F0 m pc ls rest) q := by
  intro T hT X
  have hpl : e.platform.magicAccessors = ({} : Platform).magicAccessors := by rw [X.admits.platform]
  obtain ⟨vm', hW', X', st⟩ := X.outThrough hlocks q (g := F0 m pc ls rest) rfl rfl rfl (cell := ce) (by rw [hT]; exact hcell) (by rw [hv]; rfl)
    (by obtain ⟨k9, h9, -⟩ := Vm.findClass_spec hcl; exact ⟨k9, h9⟩) (fun z hz => by
      rcases hpass z hz with h | ⟨hz0, nm, hl1, hn1⟩
      · exact Or.inl h
      · obtain ⟨c6, hc6, hcl6⟩ := Cond.classLink_spec hown hl1 e.platform hpl
        obtain ⟨a8, b8, h1, h2, h3⟩ := hn1
        cases Option.some.inj (h1.symm.trans hcl)
        cases Option.some.inj (h2.symm.trans hc6)
        exact Or.inr ⟨hz0, _, hcl6, h3⟩)
  obtain ⟨g₀, hfr⟩ := X'.frames_eq
  have hcell9 : ((T.setVm vm').setFrames (.throwing q :: below)).heap[q]? = some ce := by
    show T.heap[q]? = some ce
    rw [hT]; exact hcell
  have hend : Ended ((T.setVm vm').setFrames (.throwing q :: below)) below (.threw q) := State.frames_setFrames _ (State.cur_lt_of_frames hfr)
  refine ⟨(T.setVm vm').setFrames (.throwing q :: below), ?_, .threw q, X'.here.running, hend, Or.inr ⟨q, rfl, E, ce, locs, hx _ hT (X'.ends _).1.alike, hcell9, hv, hcl, (X'.ends _).1, (X'.ends _).2.mono hc hs, hf⟩⟩
  rw [X.pushThrowing_eq]
  exact st
/-- a thing of a world lies in the heap -/
theorem vx_lt {D : va_G} {cl : List vw_C} {ws : va_W} {H1 : Heap} (h : va_P D cl ws H1) {k : Nat} {q : Nat × va_E} (hk : ws[k]? = some q) : q.1 < H1.size := (h k q hk).lt
end VXS
/-! ===== END ===== -/
/-! ===== BEGIN methods with a table of their own: called by a name, returning or throwing ===== -/
section VXH
/-! vx_backW, vx_callVX, vx_callSX, vx_callVW, vx_runVW, vx_runVX, vx_runSX, vx_ofWH follow the same proofs as their sisters above (Free/Laws.lean, Shelf42/LK1.lean); vx_outP calls Shelf42/NT130.lean (outThrough). -/
section
variable {l : Launch} {R : Room} {p : Program} {e : Env} {below : List Frame} {s : State} {sargs : Array Value} {y : MethodName} {len W9 : Nat}
theorem vx_backW {ws : List Cond} {rm : Room} {Pc : Array Value → State → Prop} {Qc : Array Value → State → Outcome → State → Prop} {XC : String → State → State → Prop} {mc ms : Nat} {free : Addr → Prop} {bytes : ByteArray} {maxL : Nat} {ret : Option FieldType} {hh : List (Nat × Nat × Nat × Nat)}
    (hM : vx_Met l y ws rm Pc Qc XC mc ms free) (hblind : FrameBlind Pc) (hrc : rm.cells = mc) (hrs : rm.slots = ms)
    (hframes : rm.frames + 1 ≤ R.frames) (hlocals : W9 + (maxL + 11) + rm.locals ≤ R.locals)
    (hws : ∀ w ∈ ws, ∀ a' U, s.WarmedH U.vm → w.before a' U = true) (hcode : Cond.codeWith y bytes maxL ret hh ∈ ws) (hinit : ∀ a' U, s.WarmedH U.vm → (Cond.initialized y.cls).before a' U = true) :
    vx_Back l R p e below s sargs y len W9 (PreOf R mc ms Pc) (PostOf Qc mc ms free) (vx_Post XC mc ms free) := by
  intro m meth c A g ig mk a X hg hsize hdg hW hn hp
  have h1 : (headSpec ws rm).pre.before a A.U = true := atoms_intro fun w hw => hws w hw _ _ X.warmed
  have h2 : (Cond.codeWith y bytes maxL ret hh).before a A.U = true := hws _ hcode _ _ X.warmed
  have h3 : (Cond.initialized y.cls).before a A.U = true := hinit _ _ X.warmed
  have h4 : A.cells + (headSpec ws rm).room.cells ≤ R.cells := by rw [show (headSpec ws rm).room.cells = mc from hrc]; exact hp.1
  have h5 : A.slots + (headSpec ws rm).room.slots ≤ R.slots := by rw [show (headSpec ws rm).room.slots = ms from hrs]; exact hp.2.1
  have hPc : Pc a (A.U.calling g mk a) := hblind _ _ _ _ hp.2.2
  obtain ⟨U, Ls, c0, s0⟩ := A
  dsimp only [Pt.U, Pt.locs, Pt.cells, Pt.slots] at h1 h2 h3 h4 h5 X hn hPc ⊢
  obtain ⟨m9, methY, cY, hn9, hmY, hcY, -, hlY, -⟩ := Cond.codeWith_spec h2
  cases Option.some.inj (hn9.symm.trans hn)
  obtain ⟨kY, hkY, -⟩ := className_of_methodNamed hn
  have hinitY : kY.init = .initialized := Cond.initialized_spec (findClass_of_methodNamed hn) hkY h3
  have h : At U g.method c below := by rw [hg]; exact X.here
  have hlocals9 : W9 + (maxL + 11) + (headSpec ws rm).room.locals ≤ R.locals := hlocals
  have happ : (headSpec ws rm).appliesLoose y e.platform (U.calling g mk a) = true :=
    Spec.appliesLoose_calling (g := g) h hdg hn hkY hinitY
      (X.room_calling (g := g) (R' := (headSpec ws rm).room) hsize hmY hcY hframes (by rw [hlY]; omega) h4 h5) h1
  obtain ⟨mid, hmid⟩ := h.above
  have hfr : (U.setTop g).frames = (.java g :: mid) ++ below := by rw [State.frames_setTop' g h.top, hmid]; rfl
  obtain ⟨o, s₂, hsteps, -, hend, hq⟩ := Steps.callFree hM p X.admits X.cas X.clock (acts := []) hfr happ hPc trivial
  have hq' : vx_Q Qc XC mc ms free a (U.calling g mk a) o s₂ := hq
  rw [State.frames_setTop' g h.top] at hend
  obtain ⟨g₀, hg0⟩ := Option.isSome_iff_exists.mp h.top
  obtain ⟨r, hr⟩ := State.topJava?_eq_some.mp hg0
  have hr' : (({ U with heap := s₂.heap, slotsUsed := s₂.slotsUsed } : State).setVm s₂.vm).frames = .java g₀ :: r := hr
  rcases hq' with ⟨hqc, L, hfe, hL⟩ | ⟨q, rfl, E, ce, L, hx, hce, hcv, hcl, hW₂, hsm, hL⟩
  · obtain ⟨⟨v, rfl⟩, hW₂, e2, q2, q3, q4, q5, q6⟩ := id hfe
    have e3 : s₂ = ({ (U.calling g mk a).setFrames s₂.frames with heap := s₂.heap, slotsUsed := s₂.slotsUsed } : State).setVm s₂.vm := by
      have : s₂ = ({ s₂ with vm := (U.calling g mk a).vm } : State).setVm s₂.vm := rfl
      rw [e2] at this
      exact this
    obtain ⟨c₂, i₂, len₂, hc₂, hd₂, hf₂⟩ := hend
    have hW' : U.WarmedH s₂.vm := hW₂
    have hcc : c₂ = c := by
      have h1 : s₂.code? g.method = U.code? g.method := by
        rw [State.code?_eq, State.code?_eq, hW'.alike.method?]
      exact Option.some.inj (hc₂.symm.trans (h1.trans h.code))
    subst hcc
    have hlen : len₂ = len := by rw [hdg] at hd₂; cases hd₂; rfl
    subst hlen
    have hs₂ : s₂ = (({ U with heap := s₂.heap, slotsUsed := s₂.slotsUsed } : State).setVm s₂.vm).setTop { g with pc := g.pc + len₂, stack := v.toList ++ g.stack } := by
      refine e3.trans ?_
      rw [hf₂, State.calling_eq h.top, State.setFrames_setFrames, State.setTop_of_frames _ hr', hr]
      rfl
    have hsame : U.sameButNew ({ U with heap := s₂.heap, slotsUsed := s₂.slotsUsed } : State) L mc ms := by
      refine ⟨?_, q2, q3, q4, q5, q6⟩
      obtain ⟨t, ht, -⟩ := State.frames_cons hr
      show ({ U with heap := s₂.heap, slotsUsed := s₂.slotsUsed } : State) = { U.setFrames U.frames with heap := s₂.heap, slotsUsed := s₂.slotsUsed }
      rw [State.setFrames_self ht]
    subst hg
    refine Or.inl ⟨v, ⟨(({ U with heap := s₂.heap, slotsUsed := s₂.slotsUsed } : State).setVm s₂.vm), Ls ++ L, c0 + mc, s0 + ms⟩,
      ⟨X.admits, X.cas, X.clock, X.frames, X.room, X.hears, X.method, X.code, (X.here.setHeapUsed s₂.heap s₂.slotsUsed).setVm hW'.alike, X.tail, State.WarmedH.trans X.warmed hW', X.limits, X.bytes, X.same.trans (hsame.setVm s.vm)⟩,
      ⟨g, mk, s₂, L, rfl, rfl, hqc, rfl, hL, rfl, rfl⟩, ?_⟩
    show Steps p.tables e below _ ((({ U with heap := s₂.heap, slotsUsed := s₂.slotsUsed } : State).setVm s₂.vm).setTop { g with pc := g.pc + len₂, stack := v.toList ++ g.stack })
    rw [← hs₂]
    exact hsteps
  · obtain ⟨e2, q2, q3, q4, q5, q6⟩ := id hsm
    have e3 : s₂ = ({ (U.calling g mk a).setFrames s₂.frames with heap := s₂.heap, slotsUsed := s₂.slotsUsed } : State).setVm s₂.vm := by
      have : s₂ = ({ s₂ with vm := (U.calling g mk a).vm } : State).setVm s₂.vm := rfl
      rw [e2] at this
      exact this
    have hf₂ : s₂.frames = .throwing q :: .java g :: U.frames.tail := hend
    have hW' : U.WarmedH s₂.vm := hW₂
    have hs₂ : s₂ = ((({ U with heap := s₂.heap, slotsUsed := s₂.slotsUsed } : State).setVm s₂.vm).setTop g).pushFrame (.throwing q) := by
      refine e3.trans ?_
      rw [hf₂, State.calling_eq h.top, State.setFrames_setFrames, State.pushFrame, State.frames_setTop _ hr', State.setTop_of_frames _ hr', State.setFrames_setFrames, hr]
      rfl
    have hsame : U.sameButNew ({ U with heap := s₂.heap, slotsUsed := s₂.slotsUsed } : State) L mc ms := by
      refine ⟨?_, q2, q3, q4, q5, q6⟩
      obtain ⟨t, ht, -⟩ := State.frames_cons hr
      show ({ U with heap := s₂.heap, slotsUsed := s₂.slotsUsed } : State) = { U.setFrames U.frames with heap := s₂.heap, slotsUsed := s₂.slotsUsed }
      rw [State.setFrames_self ht]
    subst hg
    refine Or.inr ⟨q, ⟨(({ U with heap := s₂.heap, slotsUsed := s₂.slotsUsed } : State).setVm s₂.vm), Ls ++ L, c0 + mc, s0 + ms⟩,
      ⟨X.admits, X.cas, X.clock, X.frames, X.room, X.hears, X.method, X.code, (X.here.setHeapUsed s₂.heap s₂.slotsUsed).setVm hW'.alike, X.tail, State.WarmedH.trans X.warmed hW', X.limits, X.bytes, X.same.trans (hsame.setVm s.vm)⟩,
      ⟨g, mk, s₂, L, E, ce, rfl, rfl, hx, hce, hcv, hcl, rfl, hL, rfl, rfl⟩, ?_⟩
    show Steps p.tables e below _ (((({ U with heap := s₂.heap, slotsUsed := s₂.slotsUsed } : State).setVm s₂.vm).setTop g).pushFrame (.throwing q))
    rw [← hs₂]
    exact hsteps
end
variable {p : Program} {l : Launch} {e : Env} {R : Room} {s : State} {m : MethodId} {args : Array Value} {below : List Frame} {meth : Method} {c : Code} {T : State} {H : Heap} {locs : List Loc} {cells slots : Nat}
theorem vx_callVX (X : Stand p l e R s m args below meth c T locs cells slots) (hexec : p.tables.exec = Jvm.exec) {own C : String} {index : Nat} {y : MethodName} {bytes : ByteArray} {maxL : Nat} {ret : Option FieldType} {hh : List (Nat × Nat × Nat × Nat)}
    (hown : s.vm.findClass own = some m.cls) (hlink : (Cond.methodLink own index y).before args s = true) (hinst : (Cond.instanceMethod y).before args s = true) (hsel : (Cond.selects C y y).before args s = true)
    (hcode : (Cond.codeWith y bytes maxL ret hh).before args s = true) (hy : y.cls ≠ "java/lang/invoke/MethodHandle" ∧ y.cls ≠ "java/lang/invoke/VarHandle")
    {W9 : Nat} {Pre : Pt → Array Value → Prop} {Post : Pt → Array Value → Option Value → Pt → Prop} {PostX : Pt → Array Value → Addr → Pt → Prop} (hK : vx_Back l R p e below s args y 3 W9 Pre Post PostX)
    {b : Addr} {cellB : Cell} (hcell : T.heap[b]? = some cellB) (hobj : cellB.vm.isStatics = false) (hcls : s.vm.findClass C = some cellB.cls)
    {g : JFrame} (hg : g.method = m) (hsize : g.locals.size = c.maxLocals) {argsL rest : List Value} (hlen : ∀ sig, parseMethodDescriptor y.desc = some sig → argsL.length = sig.parameters.length)
    (hstack : g.stack = argsL.reverse ++ .ref b :: rest) (hW : 2 * g.monitorRoom + (rest.map fun v => v.category).sum ≤ W9) (hdg : decode c.code g.pc = .ok (.invokevirtual index, 3))
    (hpre : ∀ vm₁, s.WarmedH vm₁ → Pre ⟨T.setVm vm₁, locs, cells, slots⟩ (Value.ref b :: argsL).toArray) :
    (∃ (v : Option Value) (vm₁ : Vm) (B : Pt), s.WarmedH vm₁ ∧ Stand p l e R s m args below meth c B.U B.locs B.cells B.slots ∧ Post ⟨T.setVm vm₁, locs, cells, slots⟩ (Value.ref b :: argsL).toArray v B ∧
      ∀ target, Steps p.tables e below (B.U.setTop { g with pc := g.pc + 3, stack := v.toList ++ rest }) target → Steps p.tables e below (T.setTop g) target) ∨
    (∃ (q : Addr) (vm₁ : Vm) (B : Pt), s.WarmedH vm₁ ∧ Stand p l e R s m args below meth c B.U B.locs B.cells B.slots ∧ PostX ⟨T.setVm vm₁, locs, cells, slots⟩ (Value.ref b :: argsL).toArray q B ∧
      Steps p.tables e below (T.setTop g) ((B.U.setTop { g with stack := rest }).pushFrame (.throwing q))) := by
  obtain ⟨mk, methM, hnamed, hmethM, hstM, habM⟩ := Cond.instanceMethod_spec hinst
  obtain ⟨m8, methM', cM, hn8, hmethM', -, -, -, -, -, -, hsigM⟩ := Cond.codeWith_spec hcode
  cases Option.some.inj (hn8.symm.trans hnamed)
  cases hmethM.symm.trans hmethM'
  obtain ⟨c2, r2, m2, q1, q2, q3, q4, kP, hkP, hkPi⟩ := Cond.selects_spec hsel
  cases hcls.symm.trans q1
  cases (State.methodFound?_of_named hnamed hy).symm.trans q2
  cases hnamed.symm.trans q3
  have hselP : selectMethod e.platform s.vm cellB.cls mk = .method mk := by rw [Launch.admits_selectMethod X.admits]; exact q4
  obtain ⟨vm₁, X₁, hstep₁⟩ := X.invokevirtual hexec hown hlink hnamed hmethM hstM hkP hkPi hy (a := b) (cell := cellB) hcell
    (fun z h => by rw [h] at hobj; cases hobj) hselP hmethM habM hkP hkPi (g := g) hg (argsL := argsL) (rest := rest) (hlen _ hsigM) hstack hdg
  rcases hK m meth c ⟨T.setVm vm₁, locs, cells, slots⟩ { g with stack := rest } (.invokevirtual index) mk (Value.ref b :: argsL).toArray X₁ hg hsize hdg hW (X₁.named hnamed) (hpre vm₁ X₁.warmed) with ⟨v, B, X', hpost, hsteps⟩ | ⟨q, B, X', hpost, hsteps⟩
  · exact Or.inl ⟨v, vm₁, B, X₁.warmed, X', hpost, fun target h => hstep₁ _ fun acts => by rw [doInvoke_state]; exact hsteps.trans h⟩
  · exact Or.inr ⟨q, vm₁, B, X₁.warmed, X', hpost, hstep₁ _ fun acts => by rw [doInvoke_state]; exact hsteps⟩
theorem vx_callSX (X : Stand p l e R s m args below meth c T locs cells slots) (hexec : p.tables.exec = Jvm.exec) {own : String} {index : Nat} {y : MethodName} {bytes : ByteArray} {maxL : Nat} {ret : Option FieldType} {hh : List (Nat × Nat × Nat × Nat)}
    (hown : s.vm.findClass own = some m.cls) (hlink : (Cond.methodLink own index y).before args s = true) (hstat : (Cond.static y).before args s = true) (hinit : (Cond.initialized y.cls).before args s = true)
    (hcode : (Cond.codeWith y bytes maxL ret hh).before args s = true) (hy : y.cls ≠ "java/lang/invoke/MethodHandle" ∧ y.cls ≠ "java/lang/invoke/VarHandle")
    {W9 : Nat} {Pre : Pt → Array Value → Prop} {Post : Pt → Array Value → Option Value → Pt → Prop} {PostX : Pt → Array Value → Addr → Pt → Prop} (hK : vx_Back l R p e below s args y 3 W9 Pre Post PostX)
    {g : JFrame} (hg : g.method = m) (hsize : g.locals.size = c.maxLocals) {argsL rest : List Value} (hlen : ∀ sig, parseMethodDescriptor y.desc = some sig → argsL.length = sig.parameters.length)
    (hstack : g.stack = argsL.reverse ++ rest) (hW : 2 * g.monitorRoom + (rest.map fun v => v.category).sum ≤ W9) (hdg : decode c.code g.pc = .ok (.invokestatic index, 3))
    (hpre : ∀ vm₁, s.WarmedH vm₁ → Pre ⟨T.setVm vm₁, locs, cells, slots⟩ argsL.toArray) :
    (∃ (v : Option Value) (vm₁ : Vm) (B : Pt), s.WarmedH vm₁ ∧ Stand p l e R s m args below meth c B.U B.locs B.cells B.slots ∧ Post ⟨T.setVm vm₁, locs, cells, slots⟩ argsL.toArray v B ∧
      ∀ target, Steps p.tables e below (B.U.setTop { g with pc := g.pc + 3, stack := v.toList ++ rest }) target → Steps p.tables e below (T.setTop g) target) ∨
    (∃ (q : Addr) (vm₁ : Vm) (B : Pt), s.WarmedH vm₁ ∧ Stand p l e R s m args below meth c B.U B.locs B.cells B.slots ∧ PostX ⟨T.setVm vm₁, locs, cells, slots⟩ argsL.toArray q B ∧
      Steps p.tables e below (T.setTop g) ((B.U.setTop { g with stack := rest }).pushFrame (.throwing q))) := by
  obtain ⟨mk, methM, cM, hnamed, hmethM, -, -, -, -, -, -, hsigM⟩ := Cond.codeWith_spec hcode
  have hstatic : methM.isStatic = true := Cond.static_spec hnamed hmethM hstat
  obtain ⟨kP, hkP, -⟩ := className_of_methodNamed hnamed
  have hinitP : kP.init = .initialized := Cond.initialized_spec (findClass_of_methodNamed hnamed) hkP hinit
  obtain ⟨vm₁, X₁, hstep₁⟩ := X.invokestatic hexec hown hlink hnamed hmethM hstatic hkP hinitP hy (g := g) hg (argsL := argsL) (rest := rest) (hlen _ hsigM) hstack hdg
  rcases hK m meth c ⟨T.setVm vm₁, locs, cells, slots⟩ { g with stack := rest } (.invokestatic index) mk argsL.toArray X₁ hg hsize hdg hW (X₁.named hnamed) (hpre vm₁ X₁.warmed) with ⟨v, B, X', hpost, hsteps⟩ | ⟨q, B, X', hpost, hsteps⟩
  · exact Or.inl ⟨v, vm₁, B, X₁.warmed, X', hpost, fun target h => hstep₁ _ fun acts => by rw [doInvoke_state]; exact hsteps.trans h⟩
  · exact Or.inr ⟨q, vm₁, B, X₁.warmed, X', hpost, hstep₁ _ fun acts => by rw [doInvoke_state]; exact hsteps⟩
theorem vx_callVW (X : Stand p l e R s m args below meth c T locs cells slots) (hexec : p.tables.exec = Jvm.exec) {own C : String} {index : Nat} {y : MethodName} {bytes : ByteArray} {maxL : Nat} {ret : Option FieldType} {hh : List (Nat × Nat × Nat × Nat)}
    (hown : s.vm.findClass own = some m.cls) (hlink : (Cond.methodLink own index y).before args s = true) (hinst : (Cond.instanceMethod y).before args s = true) (hsel : (Cond.selects C y y).before args s = true)
    (hcode : (Cond.codeWith y bytes maxL ret hh).before args s = true) (hy : y.cls ≠ "java/lang/invoke/MethodHandle" ∧ y.cls ≠ "java/lang/invoke/VarHandle")
    {W9 : Nat} {Pre : Pt → Array Value → Prop} {Post : Pt → Array Value → Option Value → Pt → Prop} (hK : Back l R p e below s args y 3 W9 Pre Post)
    {b : Addr} {cellB : Cell} (hcell : T.heap[b]? = some cellB) (hobj : cellB.vm.isStatics = false) (hcls : s.vm.findClass C = some cellB.cls)
    {g : JFrame} (hg : g.method = m) (hsize : g.locals.size = c.maxLocals) {argsL rest : List Value} (hlen : ∀ sig, parseMethodDescriptor y.desc = some sig → argsL.length = sig.parameters.length)
    (hstack : g.stack = argsL.reverse ++ .ref b :: rest) (hW : 2 * g.monitorRoom + (rest.map fun v => v.category).sum ≤ W9) (hdg : decode c.code g.pc = .ok (.invokevirtual index, 3))
    (hpre : ∀ vm₁, s.WarmedH vm₁ → Pre ⟨T.setVm vm₁, locs, cells, slots⟩ (Value.ref b :: argsL).toArray) :
    ∃ (v : Option Value) (vm₁ : Vm) (B : Pt), s.WarmedH vm₁ ∧ Stand p l e R s m args below meth c B.U B.locs B.cells B.slots ∧ Post ⟨T.setVm vm₁, locs, cells, slots⟩ (Value.ref b :: argsL).toArray v B ∧
      ∀ target, Steps p.tables e below (B.U.setTop { g with pc := g.pc + 3, stack := v.toList ++ rest }) target → Steps p.tables e below (T.setTop g) target := by
  obtain ⟨mk, methM, hnamed, hmethM, hstM, habM⟩ := Cond.instanceMethod_spec hinst
  obtain ⟨m8, methM', cM, hn8, hmethM', -, -, -, -, -, -, hsigM⟩ := Cond.codeWith_spec hcode
  cases Option.some.inj (hn8.symm.trans hnamed)
  cases hmethM.symm.trans hmethM'
  obtain ⟨c2, r2, m2, q1, q2, q3, q4, kP, hkP, hkPi⟩ := Cond.selects_spec hsel
  cases hcls.symm.trans q1
  cases (State.methodFound?_of_named hnamed hy).symm.trans q2
  cases hnamed.symm.trans q3
  have hselP : selectMethod e.platform s.vm cellB.cls mk = .method mk := by rw [Launch.admits_selectMethod X.admits]; exact q4
  obtain ⟨vm₁, X₁, hstep₁⟩ := X.invokevirtual hexec hown hlink hnamed hmethM hstM hkP hkPi hy (a := b) (cell := cellB) hcell
    (fun z h => by rw [h] at hobj; cases hobj) hselP hmethM habM hkP hkPi (g := g) hg (argsL := argsL) (rest := rest) (hlen _ hsigM) hstack hdg
  obtain ⟨v, B, X', hpost, hsteps⟩ := hK m meth c ⟨T.setVm vm₁, locs, cells, slots⟩ { g with stack := rest } (.invokevirtual index) mk (Value.ref b :: argsL).toArray X₁ hg hsize hdg hW (X₁.named hnamed) (hpre vm₁ X₁.warmed)
  exact ⟨v, vm₁, B, X₁.warmed, X', hpost, fun target h => hstep₁ _ fun acts => by rw [doInvoke_state]; exact hsteps.trans h⟩
abbrev vx_CVW (R : Room) (s : State) (args : Array Value) (own C : String) (index : Nat) (y : MethodName) (bytes : ByteArray) (maxL : Nat) (ret : Option FieldType) (hh : List (Nat × Nat × Nat × Nat)) (ws : List Cond) (rm : Room) (mc ms n : Nat) : Prop :=
  (rm.cells = mc ∧ rm.slots = ms ∧ rm.frames + 1 ≤ R.frames ∧ 8 + (maxL + 11) + rm.locals ≤ R.locals ∧ (∀ w ∈ ws, ∀ (a' : Array Value) (U : State), s.WarmedH U.vm → w.before a' U = true) ∧ Cond.codeWith y bytes maxL ret hh ∈ ws) ∧
  (Cond.codeWith y bytes maxL ret hh).before args s = true ∧ (Cond.initialized y.cls).before args s = true ∧ (y.cls ≠ "java/lang/invoke/MethodHandle" ∧ y.cls ≠ "java/lang/invoke/VarHandle") ∧
  (∀ sig, parseMethodDescriptor y.desc = some sig → n = sig.parameters.length) ∧ (Cond.methodLink own index y).before args s = true ∧ (Cond.instanceMethod y).before args s = true ∧ (Cond.selects C y y).before args s = true
theorem vx_cwVW {own C : String} {index maxL mc ms : Nat} {y : MethodName} {bytes : ByteArray} {ret : Option FieldType} {hh : List (Nat × Nat × Nat × Nat)} {Ts ws ws' : List Cond} {rm : Room} (n : Nat) (ht : ∀ w ∈ Ts, w.before args s = true) (hT : GoodIn Ts (wsV own index C y ws)) (hw : ws = Cond.codeWith y bytes maxL ret hh :: ws') (hrc : rm.cells = mc) (hrs : rm.slots = ms)
    (hd : y.cls = C ∧ y.cls ≠ "java/lang/invoke/MethodHandle" ∧ y.cls ≠ "java/lang/invoke/VarHandle" ∧ (parseMethodDescriptor y.desc).map (fun d => d.parameters.length) = some n) (hR : rm.frames + 1 ≤ R.frames ∧ 8 + (maxL + 11) + rm.locals ≤ R.locals) :
    vx_CVW R s args own C index y bytes maxL ret hh ws rm mc ms n := by
  obtain ⟨hC, hd⟩ := hd
  subst hC
  have ok : ∀ w ∈ wsV own index y.cls y ws, w.before args s = true := fun w h => ht w (hT w h).1
  have hG : GoodIn Ts ws := fun w h => hT w (by unfold wsV; exact List.mem_append_right _ h)
  have hc : Cond.codeWith y bytes maxL ret hh ∈ ws := by rw [hw]; exact List.mem_cons_self
  refine ⟨⟨hrc, hrs, hR.1, hR.2, pay_in ht hG, hc⟩, ht _ (hG _ hc).1, ok _ (by simp [wsV]), ⟨hd.1, hd.2.1⟩, fun sig h => ?_, ok _ (by simp [wsV]), ok _ (by simp [wsV]), ok _ (by simp [wsV])⟩
  have h2 := hd.2.2
  rw [h] at h2
  exact (Option.some.inj h2).symm
theorem vx_runVW {y : MethodName} {bytes cc : ByteArray} {maxL nL mc ms n index : Nat} {ret : Option FieldType} {hh : List (Nat × Nat × Nat × Nat)} {ws : List Cond} {rm : Room} {Pc : Array Value → State → Prop} {Qc : Array Value → State → Outcome → State → Prop} {free : Addr → Prop} {Ts : List Cond} {own C : String} {b : Addr} {As rest : List Value} {g : JFrame}
    (S : CallFix p m c cc nL s args Ts own) (hM : Met l y ws rm Pc Qc mc ms free) (cw : vx_CVW R s args own C index y bytes maxL ret hh ws rm mc ms n) (hp : PreV s H C b Pc As)
    (hg : g.method = m) (hn : As.length = n) (hsize : g.locals.size = nL) (hstack : g.stack = As.reverse ++ .ref b :: rest) (hW : 2 * g.monitorRoom + (rest.map fun v => v.category).sum ≤ 8) (hdg : decode cc g.pc = .ok (.invokevirtual index, 3)) (hf : cells + mc ≤ R.cells ∧ slots + ms ≤ R.slots) :
    va_Run p l e R s m args below meth c H locs cells slots mc ms g rest (Qc (Value.ref b :: As).toArray) free := by
  obtain ⟨⟨hrc, hrs, hfr, hlo, hws, hcw⟩, hcode, hini, hy, hlen, hl, hin, hse⟩ := cw
  have hK : Back l R p e below s args y 3 8 (PreOf R mc ms Pc) (PostOf Qc mc ms free) := va_backW (hh := hh) (bytes := bytes) (maxL := maxL) (ret := ret) hM hp.1 hrc hrs hfr hlo hws hcw (fun a' U hW => word_at hW (Or.inl (by first | rfl | simp [Cond.onTables, Cond.keeps, Cond.steady])) hini)
  obtain ⟨hx, hb, hml, ho, -⟩ := S
  obtain ⟨-, ⟨cellB, hcB, hoB, hclB⟩, hPc⟩ := hp
  intro T hT X
  obtain ⟨v, vm₁, ⟨U', l2, c2, s2⟩, hW₁, X', ⟨g', mk, t, L, e1, e2, hq, h1, hL, h2, h3⟩, st⟩ := vx_callVW X hx (C := C) (hh := hh) (bytes := bytes) (maxL := maxL) (ret := ret) ho hl hin hse hcode hy hK (by rw [hT]; exact hcB) hoB hclB hg (hsize.trans hml.symm) (argsL := As) (rest := rest) (fun sig h => hn.trans (hlen sig h)) hstack hW (by rw [hb]; exact hdg)
    (fun vm₁ hW₁ => ⟨hf.1, hf.2, hPc (T.setVm vm₁) hT hW₁⟩)
  dsimp only [Pt.U, Pt.locs, Pt.cells, Pt.slots] at X' e1 e2 h1 h2 h3 st
  subst h1; subst h2; subst h3
  exact ⟨v, (T.setVm vm₁).calling g' mk (Value.ref b :: As).toArray, t, U', L, hT, X', hL, e1, e2, hq, st⟩
section
variable {y : MethodName} {bytes cc : ByteArray} {maxL nL mc ms n index : Nat} {ret : Option FieldType} {ws : List Cond} {rm : Room} {Pc : Array Value → State → Prop} {Qc : Array Value → State → Outcome → State → Prop} {XC : String → State → State → Prop} {free : Addr → Prop} {Ts : List Cond} {own C : String} {b : Addr} {As rest : List Value} {g : JFrame}
theorem vx_runVX {hh : List (Nat × Nat × Nat × Nat)} (S : CallFix p m c cc nL s args Ts own) (hM : vx_Met l y ws rm Pc Qc XC mc ms free) (cw : vx_CVW R s args own C index y bytes maxL ret hh ws rm mc ms n) (hp : PreV s H C b Pc As)
    (hg : g.method = m) (hn : As.length = n) (hsize : g.locals.size = nL) (hstack : g.stack = As.reverse ++ .ref b :: rest) (hW : 2 * g.monitorRoom + (rest.map fun v => v.category).sum ≤ 8) (hdg : decode cc g.pc = .ok (.invokevirtual index, 3)) (hf : cells + mc ≤ R.cells ∧ slots + ms ≤ R.slots) :
    vx_Run p l e R s m args below meth c H locs cells slots mc ms g rest (Qc (Value.ref b :: As).toArray) XC free := by
  obtain ⟨⟨hrc, hrs, hfr, hlo, hws, hcw⟩, hcode, hini, hy, hlen, hl, hin, hse⟩ := cw
  have hK : vx_Back l R p e below s args y 3 8 (PreOf R mc ms Pc) (PostOf Qc mc ms free) (vx_Post XC mc ms free) := vx_backW (hh := hh) (bytes := bytes) (maxL := maxL) (ret := ret) hM hp.1 hrc hrs hfr hlo hws hcw (fun a' U hW => word_at hW (Or.inl (by first | rfl | simp [Cond.onTables, Cond.keeps, Cond.steady])) hini)
  obtain ⟨hx, hb, hml, ho, -⟩ := S
  obtain ⟨-, ⟨cellB, hcB, hoB, hclB⟩, hPc⟩ := hp
  intro T hT X
  rcases vx_callVX X hx (C := C) (hh := hh) (bytes := bytes) (maxL := maxL) (ret := ret) ho hl hin hse hcode hy hK (by rw [hT]; exact hcB) hoB hclB hg (hsize.trans hml.symm) (argsL := As) (rest := rest) (fun sig h => hn.trans (hlen sig h)) hstack hW (by rw [hb]; exact hdg)
    (fun vm₁ hW₁ => ⟨hf.1, hf.2, hPc (T.setVm vm₁) hT hW₁⟩) with ⟨v, vm₁, ⟨U', l2, c2, s2⟩, hW₁, X', ⟨g', mk, t, L, e1, e2, hq, h1, hL, h2, h3⟩, st⟩ | ⟨q, vm₁, ⟨U', l2, c2, s2⟩, hW₁, X', ⟨g', mk, t, L, E, ce, e1, e2, hq, hce, hcv, hcl, h1, hL, h2, h3⟩, st⟩
  · dsimp only [Pt.U, Pt.locs, Pt.cells, Pt.slots] at X' e1 e2 h1 h2 h3 st
    subst h1; subst h2; subst h3
    exact Or.inl ⟨v, (T.setVm vm₁).calling g' mk (Value.ref b :: As).toArray, t, U', L, hT, X', hL, e1, e2, hq, st⟩
  · dsimp only [Pt.U, Pt.locs, Pt.cells, Pt.slots] at X' e1 e2 h1 h2 h3 st hcl
    subst h1; subst h2; subst h3
    exact Or.inr ⟨q, (T.setVm vm₁).calling g' mk (Value.ref b :: As).toArray, t, U', L, E, ce, hT, X', hL, e1, e2, hq, hce, hcv, vx_cls hW₁ hcl, st⟩
theorem vx_runSX {hh : List (Nat × Nat × Nat × Nat)} (S : CallFix p m c cc nL s args Ts own) (hM : vx_Met l y ws rm Pc Qc XC mc ms free) (cw : vx_CSW R s args own index y bytes maxL ret hh ws rm mc ms n) (hp : PreS s H Pc As)
    (hg : g.method = m) (hn : As.length = n) (hsize : g.locals.size = nL) (hstack : g.stack = As.reverse ++ rest) (hW : 2 * g.monitorRoom + (rest.map fun v => v.category).sum ≤ 8) (hdg : decode cc g.pc = .ok (.invokestatic index, 3)) (hf : cells + mc ≤ R.cells ∧ slots + ms ≤ R.slots) :
    vx_Run p l e R s m args below meth c H locs cells slots mc ms g rest (Qc As.toArray) XC free := by
  obtain ⟨⟨hrc, hrs, hfr, hlo, hws, hcw⟩, hcode, hini, hy, hlen, hl, hstt⟩ := cw
  have hK : vx_Back l R p e below s args y 3 8 (PreOf R mc ms Pc) (PostOf Qc mc ms free) (vx_Post XC mc ms free) := vx_backW (hh := hh) (bytes := bytes) (maxL := maxL) (ret := ret) hM hp.1 hrc hrs hfr hlo hws hcw (fun a' U hW => word_at hW (Or.inl (by first | rfl | simp [Cond.onTables, Cond.keeps, Cond.steady])) hini)
  obtain ⟨hx, hb, hml, ho, -⟩ := S
  intro T hT X
  rcases vx_callSX X hx (hh := hh) (bytes := bytes) (maxL := maxL) (ret := ret) ho hl hstt hini hcode hy hK hg (hsize.trans hml.symm) (argsL := As) (rest := rest) (fun sig h => hn.trans (hlen sig h)) hstack hW (by rw [hb]; exact hdg)
    (fun vm₁ hW₁ => ⟨hf.1, hf.2, hp.2 (T.setVm vm₁) hT hW₁⟩) with ⟨v, vm₁, ⟨U', l2, c2, s2⟩, hW₁, X', ⟨g', mk, t, L, e1, e2, hq, h1, hL, h2, h3⟩, st⟩ | ⟨q, vm₁, ⟨U', l2, c2, s2⟩, hW₁, X', ⟨g', mk, t, L, E, ce, e1, e2, hq, hce, hcv, hcl, h1, hL, h2, h3⟩, st⟩
  · dsimp only [Pt.U, Pt.locs, Pt.cells, Pt.slots] at X' e1 e2 h1 h2 h3 st
    subst h1; subst h2; subst h3
    exact Or.inl ⟨v, (T.setVm vm₁).calling g' mk As.toArray, t, U', L, hT, X', hL, e1, e2, hq, st⟩
  · dsimp only [Pt.U, Pt.locs, Pt.cells, Pt.slots] at X' e1 e2 h1 h2 h3 st hcl
    subst h1; subst h2; subst h3
    exact Or.inr ⟨q, (T.setVm vm₁).calling g' mk As.toArray, t, U', L, E, ce, hT, X', hL, e1, e2, hq, hce, hcv, vx_cls hW₁ hcl, st⟩
end
end VXH
theorem vx_ofWH {l : Launch} {y : MethodName} {ws ws' : List Cond} {rm : Room} {Pc : Array Value → State → Prop} {Qc : Array Value → State → Outcome → State → Prop} {XC : String → State → State → Prop} {mc ms : Nat} {free : Addr → Prop} {cc : ByteArray} {maxL : Nat} {ret : Option FieldType} {hh : List (Nat × Nat × Nat × Nat)}
    (hy : plainName y.cls = true) (hw : ws = Cond.codeWith y cc maxL ret hh :: ws')
    (body : ∀ p e s m args below meth c s₁, BodyLoose p l y (headSpec ws rm) cc maxL ret e s m args below meth c s₁ → c.maxLocals = maxL → Pc args s →
      W p l e (headSpec ws rm).room s m args below meth c s.heap [] 0 0 (vx_MQ below Qc XC args s mc ms free) (entryFrame m args maxL)) : vx_Met l y ws rm Pc Qc XC mc ms free := by
  refine MetFree.of_bodyS (code := cc) (maxLocals := maxL) (ret := ret) hy ?_ ?_
  · intro args s m h hn
    obtain ⟨m9, meth, c, hn9, h1, h2, h3, h4, -, h5, h6, -⟩ := Cond.codeWith_spec (atoms_spec (ws := ws) h _ (by rw [hw]; exact List.mem_cons_self))
    cases hn.symm.trans hn9
    exact ⟨meth, c, h1, h2, h3, h4, h5, h6⟩
  · intro p e s m args below meth c s₁ B hml hP _
    have hh0 : s₁.heap = s.heap := by rw [B.state]; rfl
    obtain ⟨t, a1, o, b1, b2, b3⟩ := body p e s m args below meth c s₁ B hml hP s₁ hh0 (Stand.of_body B)
    exact ⟨t, o, a1, b1, b2, b3⟩
/-! ===== END ===== -/

/-! ===== BEGIN printed: names, fields, word lists, decode rows ===== -/
def RX0 : String := "CartelWatch$Dossier"
def TX0 : u_T := fun k => match k with
  | 0 => ("CartelWatch$Dossier", "one", "I", true)
  | 1 => ("CartelWatch$Dossier", "other", "I", true)
  | 2 => ("CartelWatch$Dossier", "untold", "[Z", true)
  | 3 => ("CartelWatch$Dossier", "newTellings", "[I", true)
  | 4 => ("CartelWatch$Dossier", "fines", "[I", true)
  | 5 => ("CartelWatch$Dossier", "matterCount", "I", false)
  | 6 => ("CartelWatch$Dossier", "first", "I", false)
  | _ => ("CartelWatch$Dossier", "closed", "Z", false)
def tyX0 : Nat → FieldType := fun k => match k with
  | 0 => .int
  | 1 => .int
  | 2 => .array .boolean
  | 3 => .array .int
  | 4 => .array .int
  | 5 => .int
  | 6 => .int
  | _ => .boolean
abbrev wsX00 : List Cond := u_ws RX0 TX0 8
theorem nmX0 : ∀ a, a < 8 → ∀ b, b < 8 → a ≠ b → (TX0 a).2.1 ≠ (TX0 b).2.1 := by decide +kernel
theorem tyX0_ok : ∀ k, k < 8 → parseFieldDescriptor (TX0 k).2.2.1 = some (tyX0 k) := by decide +kernel
abbrev cX0_init : ByteArray := prog_2_method_1_code
def yX0_init : MethodName := ⟨RX0, "<init>", "(II)V"⟩
abbrev cX0_one : ByteArray := prog_2_method_2_code
def yX0_one : MethodName := ⟨RX0, "one", "()I"⟩
abbrev cX0_other : ByteArray := prog_2_method_3_code
def yX0_other : MethodName := ⟨RX0, "other", "()I"⟩
abbrev cX0_isOf : ByteArray := prog_2_method_4_code
def yX0_isOf : MethodName := ⟨RX0, "isOf", "(I)Z"⟩
abbrev cX0_isClosed : ByteArray := prog_2_method_5_code
def yX0_isClosed : MethodName := ⟨RX0, "isClosed", "()Z"⟩
abbrev cX0_shut : ByteArray := prog_2_method_6_code
def yX0_shut : MethodName := ⟨RX0, "shut", "()V"⟩
abbrev cX0_matterCount : ByteArray := prog_2_method_7_code
def yX0_matterCount : MethodName := ⟨RX0, "matterCount", "()I"⟩
abbrev cX0_first : ByteArray := prog_2_method_8_code
def yX0_first : MethodName := ⟨RX0, "first", "()I"⟩
abbrev cX0_fineOf : ByteArray := prog_2_method_9_code
def yX0_fineOf : MethodName := ⟨RX0, "fineOf", "(I)I"⟩
abbrev cX0_impose : ByteArray := prog_2_method_10_code
def yX0_impose : MethodName := ⟨RX0, "impose", "(II)V"⟩
abbrev cX0_addMatter : ByteArray := prog_2_method_11_code
def yX0_addMatter : MethodName := ⟨RX0, "addMatter", "(I)V"⟩
abbrev cX0_hear : ByteArray := prog_2_method_12_code
def yX0_hear : MethodName := ⟨RX0, "hear", "(II)Z"⟩
abbrev cX0_lenientFine : ByteArray := prog_2_method_13_code
def yX0_lenientFine : MethodName := ⟨RX0, "lenientFine", "(II)I"⟩
def RX1 : String := "CartelWatch$Tender"
def TX1 : u_T := fun k => match k with
  | 0 => ("CartelWatch$Tender", "sums", "[I", true)
  | 1 => ("CartelWatch$Tender", "withdrawn", "[Z", true)
  | 2 => ("CartelWatch$Tender", "decided", "Z", false)
  | 3 => ("CartelWatch$Tender", "winner", "I", false)
  | 4 => ("CartelWatch$Tender", "partner", "I", false)
  | _ => ("CartelWatch$Tender", "partnersPart", "I", false)
def tyX1 : Nat → FieldType := fun k => match k with
  | 0 => .array .int
  | 1 => .array .boolean
  | 2 => .boolean
  | 3 => .int
  | 4 => .int
  | _ => .int
abbrev wsX10 : List Cond := u_ws RX1 TX1 6
theorem nmX1 : ∀ a, a < 6 → ∀ b, b < 6 → a ≠ b → (TX1 a).2.1 ≠ (TX1 b).2.1 := by decide +kernel
theorem tyX1_ok : ∀ k, k < 6 → parseFieldDescriptor (TX1 k).2.2.1 = some (tyX1 k) := by decide +kernel
abbrev cX1_init : ByteArray := prog_3_method_1_code
def yX1_init : MethodName := ⟨RX1, "<init>", "()V"⟩
abbrev cX1_isOpen : ByteArray := prog_3_method_2_code
def yX1_isOpen : MethodName := ⟨RX1, "isOpen", "()Z"⟩
abbrev cX1_isAwarded : ByteArray := prog_3_method_3_code
def yX1_isAwarded : MethodName := ⟨RX1, "isAwarded", "()Z"⟩
abbrev cX1_isPassedOn : ByteArray := prog_3_method_4_code
def yX1_isPassedOn : MethodName := ⟨RX1, "isPassedOn", "()Z"⟩
abbrev cX1_winner : ByteArray := prog_3_method_5_code
def yX1_winner : MethodName := ⟨RX1, "winner", "()I"⟩
abbrev cX1_sumOf : ByteArray := prog_3_method_6_code
def yX1_sumOf : MethodName := ⟨RX1, "sumOf", "(I)I"⟩
abbrev cX1_hasBidOf : ByteArray := prog_3_method_7_code
def yX1_hasBidOf : MethodName := ⟨RX1, "hasBidOf", "(I)Z"⟩
abbrev cX1_hasWithdrawn : ByteArray := prog_3_method_8_code
def yX1_hasWithdrawn : MethodName := ⟨RX1, "hasWithdrawn", "(I)Z"⟩
abbrev cX1_isStanding : ByteArray := prog_3_method_9_code
def yX1_isStanding : MethodName := ⟨RX1, "isStanding", "(I)Z"⟩
abbrev cX1_countStanding : ByteArray := prog_3_method_10_code
def yX1_countStanding : MethodName := ⟨RX1, "countStanding", "()I"⟩
abbrev cX1_takeBid : ByteArray := prog_3_method_11_code
def yX1_takeBid : MethodName := ⟨RX1, "takeBid", "(II)V"⟩
abbrev cX1_giveBack : ByteArray := prog_3_method_12_code
def yX1_giveBack : MethodName := ⟨RX1, "giveBack", "(I)V"⟩
abbrev cX1_decide : ByteArray := prog_3_method_13_code
def yX1_decide : MethodName := ⟨RX1, "decide", "()V"⟩
abbrev cX1_giveOver : ByteArray := prog_3_method_14_code
def yX1_giveOver : MethodName := ⟨RX1, "giveOver", "(II)V"⟩
abbrev cX1_incomeOf : ByteArray := prog_3_method_15_code
def yX1_incomeOf : MethodName := ⟨RX1, "incomeOf", "(I)I"⟩
abbrev cX1_signsOfLoser : ByteArray := prog_3_method_16_code
def yX1_signsOfLoser : MethodName := ⟨RX1, "signsOfLoser", "(I)I"⟩
abbrev cX1_isNear : ByteArray := prog_3_method_17_code
def yX1_isNear : MethodName := ⟨RX1, "isNear", "(I)Z"⟩
def RX2 : String := "CartelWatch"
def TX2 : u_T := fun k => match k with
  | 0 => ("CartelWatch", "tenders", "[LCartelWatch$Tender;", true)
  | 1 => ("CartelWatch", "tenderCount", "I", false)
  | 2 => ("CartelWatch", "dossiers", "[LCartelWatch$Dossier;", true)
  | 3 => ("CartelWatch", "dossierCount", "I", false)
  | 4 => ("CartelWatch", "paidToHarmed", "[I", true)
  | _ => ("CartelWatch", "leastSuspicionForFile", "I", false)
def tyX2 : Nat → FieldType := fun k => match k with
  | 0 => .array (.object "CartelWatch$Tender")
  | 1 => .int
  | 2 => .array (.object "CartelWatch$Dossier")
  | 3 => .int
  | 4 => .array .int
  | _ => .int
abbrev wsX20 : List Cond := u_ws RX2 TX2 6
theorem nmX2 : ∀ a, a < 6 → ∀ b, b < 6 → a ≠ b → (TX2 a).2.1 ≠ (TX2 b).2.1 := by decide +kernel
theorem tyX2_ok : ∀ k, k < 6 → parseFieldDescriptor (TX2 k).2.2.1 = some (tyX2 k) := by decide +kernel
abbrev cX2_init : ByteArray := prog_1_method_1_code
def yX2_init : MethodName := ⟨RX2, "<init>", "()V"⟩
abbrev cX2_open : ByteArray := prog_1_method_2_code
def yX2_open : MethodName := ⟨RX2, "open", "()I"⟩
abbrev cX2_bid : ByteArray := prog_1_method_3_code
def yX2_bid : MethodName := ⟨RX2, "bid", "(III)I"⟩
abbrev cX2_withdraw : ByteArray := prog_1_method_4_code
def yX2_withdraw : MethodName := ⟨RX2, "withdraw", "(II)I"⟩
abbrev cX2_award : ByteArray := prog_1_method_5_code
def yX2_award : MethodName := ⟨RX2, "award", "(I)I"⟩
abbrev cX2_passOn : ByteArray := prog_1_method_6_code
def yX2_passOn : MethodName := ⟨RX2, "passOn", "(III)I"⟩
abbrev cX2_turnover : ByteArray := prog_1_method_7_code
def yX2_turnover : MethodName := ⟨RX2, "turnover", "(I)I"⟩
abbrev cX2_won : ByteArray := prog_1_method_8_code
def yX2_won : MethodName := ⟨RX2, "won", "(I)I"⟩
abbrev cX2_suspicion : ByteArray := prog_1_method_9_code
def yX2_suspicion : MethodName := ⟨RX2, "suspicion", "(II)I"⟩
abbrev cX2_sign : ByteArray := prog_1_method_10_code
def yX2_sign : MethodName := ⟨RX2, "sign", "(III)I"⟩
abbrev cX2_setMark : ByteArray := prog_1_method_11_code
def yX2_setMark : MethodName := ⟨RX2, "setMark", "(I)I"⟩
abbrev cX2_worst : ByteArray := prog_1_method_12_code
def yX2_worst : MethodName := ⟨RX2, "worst", "()I"⟩
abbrev cX2_file : ByteArray := prog_1_method_13_code
def yX2_file : MethodName := ⟨RX2, "file", "(II)I"⟩
abbrev cX2_matters : ByteArray := prog_1_method_14_code
def yX2_matters : MethodName := ⟨RX2, "matters", "(I)I"⟩
abbrev cX2_tell : ByteArray := prog_1_method_15_code
def yX2_tell : MethodName := ⟨RX2, "tell", "(III)Z"⟩
abbrev cX2_compensate : ByteArray := prog_1_method_16_code
def yX2_compensate : MethodName := ⟨RX2, "compensate", "(II)I"⟩
abbrev cX2_close : ByteArray := prog_1_method_17_code
def yX2_close : MethodName := ⟨RX2, "close", "(I)I"⟩
abbrev cX2_fine : ByteArray := prog_1_method_18_code
def yX2_fine : MethodName := ⟨RX2, "fine", "(II)I"⟩
abbrev cX2_firstTeller : ByteArray := prog_1_method_19_code
def yX2_firstTeller : MethodName := ⟨RX2, "firstTeller", "(I)I"⟩
abbrev cX2_isBidder : ByteArray := prog_1_method_20_code
def yX2_isBidder : MethodName := ⟨RX2, "isBidder", "(I)Z"⟩
abbrev cX2_isPair : ByteArray := prog_1_method_21_code
def yX2_isPair : MethodName := ⟨RX2, "isPair", "(II)Z"⟩
abbrev cX2_isMoney : ByteArray := prog_1_method_22_code
def yX2_isMoney : MethodName := ⟨RX2, "isMoney", "(I)Z"⟩
abbrev cX2_tenderAt : ByteArray := prog_1_method_23_code
def yX2_tenderAt : MethodName := ⟨RX2, "tenderAt", "(I)LCartelWatch$Tender;"⟩
abbrev cX2_dossierAt : ByteArray := prog_1_method_24_code
def yX2_dossierAt : MethodName := ⟨RX2, "dossierAt", "(I)LCartelWatch$Dossier;"⟩
abbrev cX2_hasDossier : ByteArray := prog_1_method_25_code
def yX2_hasDossier : MethodName := ⟨RX2, "hasDossier", "(II)Z"⟩
abbrev cX2_turnoverOf : ByteArray := prog_1_method_26_code
def yX2_turnoverOf : MethodName := ⟨RX2, "turnoverOf", "(I)I"⟩
abbrev cX2_suspicionOf : ByteArray := prog_1_method_27_code
def yX2_suspicionOf : MethodName := ⟨RX2, "suspicionOf", "(II)I"⟩
abbrev cX2_countOf : ByteArray := prog_1_method_28_code
def yX2_countOf : MethodName := ⟨RX2, "countOf", "(III)I"⟩
abbrev cX2_lastWinnerBefore : ByteArray := prog_1_method_29_code
def yX2_lastWinnerBefore : MethodName := ⟨RX2, "lastWinnerBefore", "(III)I"⟩
abbrev cX2_settle : ByteArray := prog_1_method_30_code
def yX2_settle : MethodName := ⟨RX2, "settle", "(LCartelWatch$Dossier;I)I"⟩
def RX3 : String := "CartelWatchModel"
def TX3 : u_T := fun k => match k with
  | 0 => ("CartelWatchModel", "thrown", "I", false)
  | 1 => ("CartelWatchModel", "tenders", "I", false)
  | 2 => ("CartelWatchModel", "state", "[I", true)
  | 3 => ("CartelWatchModel", "winner", "[I", true)
  | 4 => ("CartelWatchModel", "passed", "[I", true)
  | 5 => ("CartelWatchModel", "part", "[I", true)
  | 6 => ("CartelWatchModel", "sum", "[I", true)
  | 7 => ("CartelWatchModel", "gone", "[Z", true)
  | 8 => ("CartelWatchModel", "mark", "I", false)
  | 9 => ("CartelWatchModel", "files", "I", false)
  | 10 => ("CartelWatchModel", "one", "[I", true)
  | 11 => ("CartelWatchModel", "two", "[I", true)
  | 12 => ("CartelWatchModel", "matters", "[I", true)
  | 13 => ("CartelWatchModel", "told", "[I", true)
  | 14 => ("CartelWatchModel", "first", "[I", true)
  | 15 => ("CartelWatchModel", "news", "[I", true)
  | 16 => ("CartelWatchModel", "fines", "[I", true)
  | 17 => ("CartelWatchModel", "closed", "[Z", true)
  | _ => ("CartelWatchModel", "paid", "[I", true)
def tyX3 : Nat → FieldType := fun k => match k with
  | 0 => .int
  | 1 => .int
  | 2 => .array .int
  | 3 => .array .int
  | 4 => .array .int
  | 5 => .array .int
  | 6 => .array .int
  | 7 => .array .boolean
  | 8 => .int
  | 9 => .int
  | 10 => .array .int
  | 11 => .array .int
  | 12 => .array .int
  | 13 => .array .int
  | 14 => .array .int
  | 15 => .array .int
  | 16 => .array .int
  | 17 => .array .boolean
  | _ => .array .int
abbrev wsX30 : List Cond := u_ws RX3 TX3 19
theorem nmX3 : ∀ a, a < 19 → ∀ b, b < 19 → a ≠ b → (TX3 a).2.1 ≠ (TX3 b).2.1 := by decide +kernel
theorem tyX3_ok : ∀ k, k < 19 → parseFieldDescriptor (TX3 k).2.2.1 = some (tyX3 k) := by decide +kernel
abbrev cX3_init : ByteArray := prog_5_method_1_code
def yX3_init : MethodName := ⟨RX3, "<init>", "()V"⟩
abbrev cX3_thrown : ByteArray := prog_5_method_2_code
def yX3_thrown : MethodName := ⟨RX3, "thrown", "()I"⟩
abbrev cX3_fails : ByteArray := prog_5_method_3_code
def yX3_fails : MethodName := ⟨RX3, "fails", "(I)I"⟩
abbrev cX3_in : ByteArray := prog_5_method_4_code
def yX3_in : MethodName := ⟨RX3, "in", "(III)Z"⟩
abbrev cX3_isBidder : ByteArray := prog_5_method_5_code
def yX3_isBidder : MethodName := ⟨RX3, "isBidder", "(I)Z"⟩
abbrev cX3_isTender : ByteArray := prog_5_method_6_code
def yX3_isTender : MethodName := ⟨RX3, "isTender", "(I)Z"⟩
abbrev cX3_isFile : ByteArray := prog_5_method_7_code
def yX3_isFile : MethodName := ⟨RX3, "isFile", "(I)Z"⟩
abbrev cX3_isPair : ByteArray := prog_5_method_8_code
def yX3_isPair : MethodName := ⟨RX3, "isPair", "(II)Z"⟩
abbrev cX3_open : ByteArray := prog_5_method_9_code
def yX3_open : MethodName := ⟨RX3, "open", "()I"⟩
abbrev cX3_stands : ByteArray := prog_5_method_10_code
def yX3_stands : MethodName := ⟨RX3, "stands", "(II)Z"⟩
abbrev cX3_countBids : ByteArray := prog_5_method_11_code
def yX3_countBids : MethodName := ⟨RX3, "countBids", "(I)I"⟩
abbrev cX3_bid : ByteArray := prog_5_method_12_code
def yX3_bid : MethodName := ⟨RX3, "bid", "(III)I"⟩
abbrev cX3_withdraw : ByteArray := prog_5_method_13_code
def yX3_withdraw : MethodName := ⟨RX3, "withdraw", "(II)I"⟩
abbrev cX3_award : ByteArray := prog_5_method_14_code
def yX3_award : MethodName := ⟨RX3, "award", "(I)I"⟩
abbrev cX3_price : ByteArray := prog_5_method_15_code
def yX3_price : MethodName := ⟨RX3, "price", "(I)I"⟩
abbrev cX3_passOn : ByteArray := prog_5_method_16_code
def yX3_passOn : MethodName := ⟨RX3, "passOn", "(III)I"⟩
abbrev cX3_turnoverOf : ByteArray := prog_5_method_17_code
def yX3_turnoverOf : MethodName := ⟨RX3, "turnoverOf", "(I)I"⟩
abbrev cX3_turnover : ByteArray := prog_5_method_18_code
def yX3_turnover : MethodName := ⟨RX3, "turnover", "(I)I"⟩
abbrev cX3_won : ByteArray := prog_5_method_19_code
def yX3_won : MethodName := ⟨RX3, "won", "(I)I"⟩
abbrev cX3_isTurn : ByteArray := prog_5_method_20_code
def yX3_isTurn : MethodName := ⟨RX3, "isTurn", "(III)Z"⟩
abbrev cX3_signOf : ByteArray := prog_5_method_21_code
def yX3_signOf : MethodName := ⟨RX3, "signOf", "(III)I"⟩
abbrev cX3_suspicionOf : ByteArray := prog_5_method_22_code
def yX3_suspicionOf : MethodName := ⟨RX3, "suspicionOf", "(II)I"⟩
abbrev cX3_suspicion : ByteArray := prog_5_method_23_code
def yX3_suspicion : MethodName := ⟨RX3, "suspicion", "(II)I"⟩
abbrev cX3_sign : ByteArray := prog_5_method_24_code
def yX3_sign : MethodName := ⟨RX3, "sign", "(III)I"⟩
abbrev cX3_setMark : ByteArray := prog_5_method_25_code
def yX3_setMark : MethodName := ⟨RX3, "setMark", "(I)I"⟩
abbrev cX3_worst : ByteArray := prog_5_method_26_code
def yX3_worst : MethodName := ⟨RX3, "worst", "()I"⟩
abbrev cX3_file : ByteArray := prog_5_method_27_code
def yX3_file : MethodName := ⟨RX3, "file", "(II)I"⟩
abbrev cX3_count : ByteArray := prog_5_method_28_code
def yX3_count : MethodName := ⟨RX3, "count", "(I)I"⟩
abbrev cX3_matters : ByteArray := prog_5_method_29_code
def yX3_matters : MethodName := ⟨RX3, "matters", "(I)I"⟩
abbrev cX3_isOf : ByteArray := prog_5_method_30_code
def yX3_isOf : MethodName := ⟨RX3, "isOf", "(II)Z"⟩
abbrev cX3_tell : ByteArray := prog_5_method_31_code
def yX3_tell : MethodName := ⟨RX3, "tell", "(III)Z"⟩
abbrev cX3_compensate : ByteArray := prog_5_method_32_code
def yX3_compensate : MethodName := ⟨RX3, "compensate", "(II)I"⟩
abbrev cX3_fineFor : ByteArray := prog_5_method_33_code
def yX3_fineFor : MethodName := ⟨RX3, "fineFor", "(III)I"⟩
abbrev cX3_close : ByteArray := prog_5_method_34_code
def yX3_close : MethodName := ⟨RX3, "close", "(I)I"⟩
abbrev cX3_fine : ByteArray := prog_5_method_35_code
def yX3_fine : MethodName := ⟨RX3, "fine", "(II)I"⟩
abbrev cX3_firstTeller : ByteArray := prog_5_method_36_code
def yX3_firstTeller : MethodName := ⟨RX3, "firstTeller", "(I)I"⟩
def RJ9 : String := "java/lang/Math"
def TJ9 : u_T := fun k => match k with
  | _ => ("", "", "", false)
def tyJ9 : Nat → FieldType := fun k => match k with
  | _ => .int
abbrev wsJ90 : List Cond := u_ws RJ9 TJ9 0
theorem nmJ9 : ∀ a, a < 0 → ∀ b, b < 0 → a ≠ b → (TJ9 a).2.1 ≠ (TJ9 b).2.1 := by decide +kernel
theorem tyJ9_ok : ∀ k, k < 0 → parseFieldDescriptor (TJ9 k).2.2.1 = some (tyJ9 k) := by decide +kernel
abbrev cJ9_min_7cf53 : ByteArray := prog_10_method_69_code
def yJ9_min_7cf53 : MethodName := ⟨RJ9, "min", "(II)I"⟩
def RJ0 : String := "java/lang/String"
def TJ0 : u_T := fun k => match k with
  | _ => ("", "", "", false)
def tyJ0 : Nat → FieldType := fun k => match k with
  | _ => .int
abbrev wsJ00 : List Cond := u_ws RJ0 TJ0 0
theorem nmJ0 : ∀ a, a < 0 → ∀ b, b < 0 → a ≠ b → (TJ0 a).2.1 ≠ (TJ0 b).2.1 := by decide +kernel
theorem tyJ0_ok : ∀ k, k < 0 → parseFieldDescriptor (TJ0 k).2.2.1 = some (tyJ0 k) := by decide +kernel
def RL : String := "CartelWatchLaw"
abbrev cL_open : ByteArray := method_3_code
def yL_open : MethodName := ⟨RL, "open", "(LCartelWatch;[J)I"⟩
abbrev cL_bid : ByteArray := method_4_code
def yL_bid : MethodName := ⟨RL, "bid", "(LCartelWatch;III[J)I"⟩
abbrev cL_withdraw : ByteArray := method_5_code
def yL_withdraw : MethodName := ⟨RL, "withdraw", "(LCartelWatch;II[J)I"⟩
abbrev cL_award : ByteArray := method_6_code
def yL_award : MethodName := ⟨RL, "award", "(LCartelWatch;I[J)I"⟩
abbrev cL_passOn : ByteArray := method_7_code
def yL_passOn : MethodName := ⟨RL, "passOn", "(LCartelWatch;III[J)I"⟩
abbrev cL_turnover : ByteArray := method_8_code
def yL_turnover : MethodName := ⟨RL, "turnover", "(LCartelWatch;I[J)I"⟩
abbrev cL_won : ByteArray := method_9_code
def yL_won : MethodName := ⟨RL, "won", "(LCartelWatch;I[J)I"⟩
abbrev cL_suspicion : ByteArray := method_10_code
def yL_suspicion : MethodName := ⟨RL, "suspicion", "(LCartelWatch;II[J)I"⟩
abbrev cL_sign : ByteArray := method_11_code
def yL_sign : MethodName := ⟨RL, "sign", "(LCartelWatch;III[J)I"⟩
abbrev cL_setMark : ByteArray := method_12_code
def yL_setMark : MethodName := ⟨RL, "setMark", "(LCartelWatch;I[J)I"⟩
abbrev cL_file : ByteArray := method_13_code
def yL_file : MethodName := ⟨RL, "file", "(LCartelWatch;II[J)I"⟩
abbrev cL_matters : ByteArray := method_14_code
def yL_matters : MethodName := ⟨RL, "matters", "(LCartelWatch;I[J)I"⟩
abbrev cL_tell : ByteArray := method_15_code
def yL_tell : MethodName := ⟨RL, "tell", "(LCartelWatch;III[J)I"⟩
abbrev cL_compensate : ByteArray := method_16_code
def yL_compensate : MethodName := ⟨RL, "compensate", "(LCartelWatch;II[J)I"⟩
abbrev cL_close : ByteArray := method_17_code
def yL_close : MethodName := ⟨RL, "close", "(LCartelWatch;I[J)I"⟩
abbrev cL_fine : ByteArray := method_18_code
def yL_fine : MethodName := ⟨RL, "fine", "(LCartelWatch;II[J)I"⟩
abbrev cL_firstTeller : ByteArray := method_19_code
def yL_firstTeller : MethodName := ⟨RL, "firstTeller", "(LCartelWatch;I[J)I"⟩
abbrev cL_law : ByteArray := code
def yL_law : MethodName := ⟨RL, "law", "([I)Z"⟩
def wsX0_init : List Cond := .code yX0_init cX0_init 3 none :: ([.methodLink RX0 3 objectInit, .instanceMethod objectInit, .code objectInit ⟨#[0xb1]⟩ 1 none, .arrayClass .boolean, .fieldLink RX0 9 "CartelWatch$Dossier" "untold" "[Z", .arrayClass .int, .fieldLink RX0 15 "CartelWatch$Dossier" "newTellings" "[I", .fieldLink RX0 19 "CartelWatch$Dossier" "fines" "[I", .fieldLink RX0 22 "CartelWatch$Dossier" "matterCount" "I", .fieldLink RX0 26 "CartelWatch$Dossier" "first" "I", .fieldLink RX0 29 "CartelWatch$Dossier" "closed" "Z", .fieldLink RX0 33 "CartelWatch$Dossier" "one" "I", .fieldLink RX0 36 "CartelWatch$Dossier" "other" "I"] ++ wsX00)
def wsX0_one : List Cond := .code yX0_one cX0_one 1 (some .int) :: ([.fieldLink RX0 33 "CartelWatch$Dossier" "one" "I"] ++ wsX00)
def wsX0_other : List Cond := .code yX0_other cX0_other 1 (some .int) :: ([.fieldLink RX0 36 "CartelWatch$Dossier" "other" "I"] ++ wsX00)
def wsX0_isOf : List Cond := .code yX0_isOf cX0_isOf 2 (some .boolean) :: ([.fieldLink RX0 33 "CartelWatch$Dossier" "one" "I", .fieldLink RX0 36 "CartelWatch$Dossier" "other" "I"] ++ wsX00)
def wsX0_isClosed : List Cond := .code yX0_isClosed cX0_isClosed 1 (some .boolean) :: ([.fieldLink RX0 29 "CartelWatch$Dossier" "closed" "Z"] ++ wsX00)
def wsX0_shut : List Cond := .code yX0_shut cX0_shut 1 none :: ([.fieldLink RX0 29 "CartelWatch$Dossier" "closed" "Z"] ++ wsX00)
def wsX0_matterCount : List Cond := .code yX0_matterCount cX0_matterCount 1 (some .int) :: ([.fieldLink RX0 22 "CartelWatch$Dossier" "matterCount" "I"] ++ wsX00)
def wsX0_first : List Cond := .code yX0_first cX0_first 1 (some .int) :: ([.fieldLink RX0 26 "CartelWatch$Dossier" "first" "I"] ++ wsX00)
def wsX2_isBidder : List Cond := .code yX2_isBidder cX2_isBidder 1 (some .boolean) :: ([])
def wsX0_fineOf : List Cond := .code yX0_fineOf cX0_fineOf 2 (some .int) :: ([.fieldLink RX0 19 "CartelWatch$Dossier" "fines" "[I", .static yX2_isBidder, .initialized RX2, .code yX2_isBidder cX2_isBidder 1 (some .boolean)] ++ wsX00)
def wsX0_impose : List Cond := .code yX0_impose cX0_impose 3 none :: ([.fieldLink RX0 19 "CartelWatch$Dossier" "fines" "[I", .static yX2_isBidder, .initialized RX2, .code yX2_isBidder cX2_isBidder 1 (some .boolean)] ++ wsX00)
def wsX0_addMatter : List Cond := .code yX0_addMatter cX0_addMatter 2 none :: ([.fieldLink RX0 9 "CartelWatch$Dossier" "untold" "[Z", .fieldLink RX0 22 "CartelWatch$Dossier" "matterCount" "I"] ++ wsX00)
def wsX0_hear : List Cond := .code yX0_hear cX0_hear 3 (some .boolean) :: ([.fieldLink RX0 9 "CartelWatch$Dossier" "untold" "[Z", .fieldLink RX0 15 "CartelWatch$Dossier" "newTellings" "[I", .fieldLink RX0 26 "CartelWatch$Dossier" "first" "I", .static yX2_isBidder, .initialized RX2, .code yX2_isBidder cX2_isBidder 1 (some .boolean)] ++ wsX00)
def wsX0_lenientFine : List Cond := .code yX0_lenientFine cX0_lenientFine 4 (some .int) :: ([.fieldLink RX0 15 "CartelWatch$Dossier" "newTellings" "[I", .fieldLink RX0 26 "CartelWatch$Dossier" "first" "I", .fieldLink RX0 22 "CartelWatch$Dossier" "matterCount" "I", .static yX2_isBidder, .initialized RX2, .code yX2_isBidder cX2_isBidder 1 (some .boolean)] ++ wsX00)
def wsX1_init : List Cond := .code yX1_init cX1_init 1 none :: ([.methodLink RX1 3 objectInit, .instanceMethod objectInit, .code objectInit ⟨#[0xb1]⟩ 1 none, .arrayClass .int, .fieldLink RX1 9 "CartelWatch$Tender" "sums" "[I", .arrayClass .boolean, .fieldLink RX1 15 "CartelWatch$Tender" "withdrawn" "[Z", .fieldLink RX1 19 "CartelWatch$Tender" "decided" "Z", .fieldLink RX1 23 "CartelWatch$Tender" "winner" "I", .fieldLink RX1 27 "CartelWatch$Tender" "partner" "I", .fieldLink RX1 30 "CartelWatch$Tender" "partnersPart" "I"] ++ wsX10)
def wsX1_isOpen : List Cond := .code yX1_isOpen cX1_isOpen 1 (some .boolean) :: ([.fieldLink RX1 19 "CartelWatch$Tender" "decided" "Z"] ++ wsX10)
def wsX1_isAwarded : List Cond := .code yX1_isAwarded cX1_isAwarded 1 (some .boolean) :: ([.fieldLink RX1 23 "CartelWatch$Tender" "winner" "I"] ++ wsX10)
def wsX1_isPassedOn : List Cond := .code yX1_isPassedOn cX1_isPassedOn 1 (some .boolean) :: ([.fieldLink RX1 27 "CartelWatch$Tender" "partner" "I"] ++ wsX10)
def wsX1_winner : List Cond := .code yX1_winner cX1_winner 1 (some .int) :: ([.fieldLink RX1 23 "CartelWatch$Tender" "winner" "I"] ++ wsX10)
def wsX1_sumOf : List Cond := .code yX1_sumOf cX1_sumOf 2 (some .int) :: ([.fieldLink RX1 9 "CartelWatch$Tender" "sums" "[I", .static yX2_isBidder, .initialized RX2, .code yX2_isBidder cX2_isBidder 1 (some .boolean)] ++ wsX10)
def wsX1_hasBidOf : List Cond := .code yX1_hasBidOf cX1_hasBidOf 2 (some .boolean) :: ([.fieldLink RX1 9 "CartelWatch$Tender" "sums" "[I", .static yX2_isBidder, .initialized RX2, .code yX2_isBidder cX2_isBidder 1 (some .boolean)] ++ wsX10)
def wsX1_hasWithdrawn : List Cond := .code yX1_hasWithdrawn cX1_hasWithdrawn 2 (some .boolean) :: ([.fieldLink RX1 15 "CartelWatch$Tender" "withdrawn" "[Z", .static yX2_isBidder, .initialized RX2, .code yX2_isBidder cX2_isBidder 1 (some .boolean)] ++ wsX10)
def wsX1_isStanding : List Cond := .code yX1_isStanding cX1_isStanding 2 (some .boolean) :: ([.fieldLink RX1 9 "CartelWatch$Tender" "sums" "[I", .fieldLink RX1 15 "CartelWatch$Tender" "withdrawn" "[Z", .static yX2_isBidder, .initialized RX2, .code yX2_isBidder cX2_isBidder 1 (some .boolean)] ++ wsX10)
def wsX1_countStanding : List Cond := .code yX1_countStanding cX1_countStanding 3 (some .int) :: ([.methodLink RX1 37 yX1_isStanding, .instanceMethod yX1_isStanding, .selects RX1 yX1_isStanding yX1_isStanding, .initialized RX1, .code yX1_isStanding cX1_isStanding 2 (some .boolean), .fieldLink RX1 9 "CartelWatch$Tender" "sums" "[I", .fieldLink RX1 15 "CartelWatch$Tender" "withdrawn" "[Z", .static yX2_isBidder, .initialized RX2, .code yX2_isBidder cX2_isBidder 1 (some .boolean)] ++ wsX10)
def wsX1_takeBid : List Cond := .code yX1_takeBid cX1_takeBid 3 none :: ([.fieldLink RX1 9 "CartelWatch$Tender" "sums" "[I", .static yX2_isBidder, .initialized RX2, .code yX2_isBidder cX2_isBidder 1 (some .boolean)] ++ wsX10)
def wsX1_giveBack : List Cond := .code yX1_giveBack cX1_giveBack 2 none :: ([.fieldLink RX1 15 "CartelWatch$Tender" "withdrawn" "[Z", .static yX2_isBidder, .initialized RX2, .code yX2_isBidder cX2_isBidder 1 (some .boolean)] ++ wsX10)
def wsX1_decide : List Cond := .code yX1_decide cX1_decide 3 none :: ([.fieldLink RX1 23 "CartelWatch$Tender" "winner" "I", .fieldLink RX1 19 "CartelWatch$Tender" "decided" "Z", .methodLink RX1 37 yX1_isStanding, .instanceMethod yX1_isStanding, .selects RX1 yX1_isStanding yX1_isStanding, .initialized RX1, .code yX1_isStanding cX1_isStanding 2 (some .boolean), .fieldLink RX1 9 "CartelWatch$Tender" "sums" "[I", .fieldLink RX1 15 "CartelWatch$Tender" "withdrawn" "[Z", .static yX2_isBidder, .initialized RX2, .code yX2_isBidder cX2_isBidder 1 (some .boolean), .methodLink RX1 40 yX1_sumOf, .instanceMethod yX1_sumOf, .selects RX1 yX1_sumOf yX1_sumOf, .code yX1_sumOf cX1_sumOf 2 (some .int)] ++ wsX10)
def wsX1_giveOver : List Cond := .code yX1_giveOver cX1_giveOver 3 none :: ([.fieldLink RX1 27 "CartelWatch$Tender" "partner" "I", .fieldLink RX1 30 "CartelWatch$Tender" "partnersPart" "I"] ++ wsX10)
def wsX1_incomeOf : List Cond := .code yX1_incomeOf cX1_incomeOf 2 (some .int) :: ([.fieldLink RX1 23 "CartelWatch$Tender" "winner" "I", .fieldLink RX1 30 "CartelWatch$Tender" "partnersPart" "I", .fieldLink RX1 27 "CartelWatch$Tender" "partner" "I", .methodLink RX1 40 yX1_sumOf, .instanceMethod yX1_sumOf, .selects RX1 yX1_sumOf yX1_sumOf, .initialized RX1, .code yX1_sumOf cX1_sumOf 2 (some .int), .fieldLink RX1 9 "CartelWatch$Tender" "sums" "[I", .static yX2_isBidder, .initialized RX2, .code yX2_isBidder cX2_isBidder 1 (some .boolean)] ++ wsX10)
def wsX1_isNear : List Cond := .code yX1_isNear cX1_isNear 3 (some .boolean) :: ([.fieldLink RX1 23 "CartelWatch$Tender" "winner" "I", .methodLink RX1 40 yX1_sumOf, .instanceMethod yX1_sumOf, .selects RX1 yX1_sumOf yX1_sumOf, .initialized RX1, .code yX1_sumOf cX1_sumOf 2 (some .int), .fieldLink RX1 9 "CartelWatch$Tender" "sums" "[I", .static yX2_isBidder, .initialized RX2, .code yX2_isBidder cX2_isBidder 1 (some .boolean)] ++ wsX10)
def wsX1_signsOfLoser_r1 : List Cond := [Cond.fieldLink RX1 27 "CartelWatch$Tender" "partner" "I", Cond.methodLink RX1 37 yX1_isStanding, Cond.instanceMethod yX1_isStanding, Cond.selects RX1 yX1_isStanding yX1_isStanding, Cond.initialized RX1, Cond.code yX1_isStanding cX1_isStanding 2 (some .boolean), Cond.fieldLink RX1 9 "CartelWatch$Tender" "sums" "[I", Cond.fieldLink RX1 15 "CartelWatch$Tender" "withdrawn" "[Z", Cond.static yX2_isBidder, Cond.initialized RX2, Cond.code yX2_isBidder cX2_isBidder 1 (some .boolean), Cond.methodLink RX1 40 yX1_sumOf, Cond.instanceMethod yX1_sumOf, Cond.selects RX1 yX1_sumOf yX1_sumOf, Cond.code yX1_sumOf cX1_sumOf 2 (some .int), Cond.methodLink RX1 44 yX1_isNear, Cond.instanceMethod yX1_isNear, Cond.selects RX1 yX1_isNear yX1_isNear, Cond.code yX1_isNear cX1_isNear 3 (some .boolean), Cond.fieldLink RX1 23 "CartelWatch$Tender" "winner" "I", Cond.methodLink RX1 47 yX1_hasBidOf, Cond.instanceMethod yX1_hasBidOf, Cond.selects RX1 yX1_hasBidOf yX1_hasBidOf, Cond.code yX1_hasBidOf cX1_hasBidOf 2 (some .boolean)]
def wsX1_signsOfLoser_r2 : List Cond := [Cond.methodLink RX1 50 yX1_hasWithdrawn, Cond.instanceMethod yX1_hasWithdrawn, Cond.selects RX1 yX1_hasWithdrawn yX1_hasWithdrawn, Cond.code yX1_hasWithdrawn cX1_hasWithdrawn 2 (some .boolean)]
def wsX1_signsOfLoser : List Cond := .code yX1_signsOfLoser cX1_signsOfLoser 3 (some .int) :: ((wsX1_signsOfLoser_r1 ++ wsX1_signsOfLoser_r2) ++ wsX10)
def wsX2_init : List Cond := .code yX2_init cX2_init 1 none :: ([.methodLink RX2 1 objectInit, .instanceMethod objectInit, .code objectInit ⟨#[0xb1]⟩ 1 none, .classLink RX2 9 RX1, .fieldLink RX2 11 "CartelWatch" "tenders" "[LCartelWatch$Tender;", .fieldLink RX2 15 "CartelWatch" "tenderCount" "I", .classLink RX2 19 RX0, .fieldLink RX2 21 "CartelWatch" "dossiers" "[LCartelWatch$Dossier;", .fieldLink RX2 25 "CartelWatch" "dossierCount" "I", .arrayClass .int, .fieldLink RX2 28 "CartelWatch" "paidToHarmed" "[I", .fieldLink RX2 32 "CartelWatch" "leastSuspicionForFile" "I"] ++ wsX20)
def wsX2_open : List Cond := .code yX2_open cX2_open 2 (some .int) :: ([.classLink RX2 35 "java/lang/IllegalStateException", .initialized "java/lang/IllegalStateException", .fieldLink RX2 15 "CartelWatch" "tenderCount" "I", .fieldLink RX2 11 "CartelWatch" "tenders" "[LCartelWatch$Tender;", .classLink RX2 9 RX1, .instantiable RX1 6, .initialized RX1, .instanceMethod yX1_init, .code yX1_init cX1_init 1 none, .methodLink RX1 3 objectInit, .instanceMethod objectInit, .code objectInit ⟨#[0xb1]⟩ 1 none, .arrayClass .int, .fieldLink RX1 9 "CartelWatch$Tender" "sums" "[I", .arrayClass .boolean, .fieldLink RX1 15 "CartelWatch$Tender" "withdrawn" "[Z", .fieldLink RX1 19 "CartelWatch$Tender" "decided" "Z", .fieldLink RX1 23 "CartelWatch$Tender" "winner" "I", .fieldLink RX1 27 "CartelWatch$Tender" "partner" "I", .fieldLink RX1 30 "CartelWatch$Tender" "partnersPart" "I"] ++ wsX20 ++ wsX10 ++ (vx_atS RX2 39 "java/lang/IllegalStateException" ["java/lang/RuntimeException", "java/lang/Exception"]).filter goodWord)
def wsX2_tenderAt : List Cond := .code yX2_tenderAt cX2_tenderAt 2 (some (.object "CartelWatch$Tender")) :: ([.fieldLink RX2 11 "CartelWatch" "tenders" "[LCartelWatch$Tender;"] ++ wsX20)
def wsX2_isMoney : List Cond := .code yX2_isMoney cX2_isMoney 1 (some .boolean) :: ([.constant RX2 191 (100000)])
def wsX2_bid_r1 : List Cond := [Cond.classLink RX2 47 "java/lang/IndexOutOfBoundsException", Cond.initialized "java/lang/IndexOutOfBoundsException", Cond.classLink RX2 59 "java/lang/IllegalArgumentException", Cond.initialized "java/lang/IllegalArgumentException", Cond.classLink RX2 35 "java/lang/IllegalStateException", Cond.initialized "java/lang/IllegalStateException", Cond.methodLink RX2 43 yX2_tenderAt, Cond.instanceMethod yX2_tenderAt, Cond.selects RX2 yX2_tenderAt yX2_tenderAt, Cond.initialized RX2, Cond.code yX2_tenderAt cX2_tenderAt 2 (some (.object "CartelWatch$Tender")), Cond.fieldLink RX2 11 "CartelWatch" "tenders" "[LCartelWatch$Tender;", Cond.methodLink RX2 52 yX2_isBidder, Cond.static yX2_isBidder, Cond.code yX2_isBidder cX2_isBidder 1 (some .boolean), Cond.methodLink RX2 56 yX2_isMoney, Cond.static yX2_isMoney, Cond.code yX2_isMoney cX2_isMoney 1 (some .boolean), Cond.constant RX2 191 (100000), Cond.methodLink RX2 64 yX1_isOpen, Cond.instanceMethod yX1_isOpen, Cond.selects RX1 yX1_isOpen yX1_isOpen, Cond.initialized RX1, Cond.code yX1_isOpen cX1_isOpen 1 (some .boolean)]
def wsX2_bid_r2 : List Cond := [Cond.fieldLink RX1 19 "CartelWatch$Tender" "decided" "Z", Cond.methodLink RX2 68 yX1_hasBidOf, Cond.instanceMethod yX1_hasBidOf, Cond.selects RX1 yX1_hasBidOf yX1_hasBidOf, Cond.code yX1_hasBidOf cX1_hasBidOf 2 (some .boolean), Cond.fieldLink RX1 9 "CartelWatch$Tender" "sums" "[I", Cond.methodLink RX2 73 yX1_takeBid, Cond.instanceMethod yX1_takeBid, Cond.selects RX1 yX1_takeBid yX1_takeBid, Cond.code yX1_takeBid cX1_takeBid 3 none, Cond.methodLink RX2 77 yX1_countStanding, Cond.instanceMethod yX1_countStanding, Cond.selects RX1 yX1_countStanding yX1_countStanding, Cond.code yX1_countStanding cX1_countStanding 3 (some .int), Cond.methodLink RX1 37 yX1_isStanding, Cond.instanceMethod yX1_isStanding, Cond.selects RX1 yX1_isStanding yX1_isStanding, Cond.code yX1_isStanding cX1_isStanding 2 (some .boolean), Cond.fieldLink RX1 15 "CartelWatch$Tender" "withdrawn" "[Z"]
def wsX2_bid : List Cond := .code yX2_bid cX2_bid 5 (some .int) :: ((wsX2_bid_r1 ++ wsX2_bid_r2) ++ wsX20 ++ wsX10 ++ (vx_atS RX2 51 "java/lang/IndexOutOfBoundsException" ["java/lang/RuntimeException", "java/lang/Exception"]).filter goodWord ++ (vx_atS RX2 63 "java/lang/IllegalArgumentException" ["java/lang/RuntimeException", "java/lang/Exception"]).filter goodWord ++ (vx_atS RX2 39 "java/lang/IllegalStateException" ["java/lang/RuntimeException", "java/lang/Exception"]).filter goodWord)
def wsX2_withdraw_r1 : List Cond := [Cond.classLink RX2 47 "java/lang/IndexOutOfBoundsException", Cond.initialized "java/lang/IndexOutOfBoundsException", Cond.classLink RX2 59 "java/lang/IllegalArgumentException", Cond.initialized "java/lang/IllegalArgumentException", Cond.classLink RX2 35 "java/lang/IllegalStateException", Cond.initialized "java/lang/IllegalStateException", Cond.methodLink RX2 43 yX2_tenderAt, Cond.instanceMethod yX2_tenderAt, Cond.selects RX2 yX2_tenderAt yX2_tenderAt, Cond.initialized RX2, Cond.code yX2_tenderAt cX2_tenderAt 2 (some (.object "CartelWatch$Tender")), Cond.fieldLink RX2 11 "CartelWatch" "tenders" "[LCartelWatch$Tender;", Cond.methodLink RX2 52 yX2_isBidder, Cond.static yX2_isBidder, Cond.code yX2_isBidder cX2_isBidder 1 (some .boolean), Cond.methodLink RX2 64 yX1_isOpen, Cond.instanceMethod yX1_isOpen, Cond.selects RX1 yX1_isOpen yX1_isOpen, Cond.initialized RX1, Cond.code yX1_isOpen cX1_isOpen 1 (some .boolean), Cond.fieldLink RX1 19 "CartelWatch$Tender" "decided" "Z", Cond.methodLink RX2 83 yX1_isStanding, Cond.instanceMethod yX1_isStanding, Cond.selects RX1 yX1_isStanding yX1_isStanding]
def wsX2_withdraw_r2 : List Cond := [Cond.code yX1_isStanding cX1_isStanding 2 (some .boolean), Cond.fieldLink RX1 9 "CartelWatch$Tender" "sums" "[I", Cond.fieldLink RX1 15 "CartelWatch$Tender" "withdrawn" "[Z", Cond.methodLink RX2 88 yX1_giveBack, Cond.instanceMethod yX1_giveBack, Cond.selects RX1 yX1_giveBack yX1_giveBack, Cond.code yX1_giveBack cX1_giveBack 2 none, Cond.methodLink RX2 92 yX1_sumOf, Cond.instanceMethod yX1_sumOf, Cond.selects RX1 yX1_sumOf yX1_sumOf, Cond.code yX1_sumOf cX1_sumOf 2 (some .int)]
def wsX2_withdraw : List Cond := .code yX2_withdraw cX2_withdraw 4 (some .int) :: ((wsX2_withdraw_r1 ++ wsX2_withdraw_r2) ++ wsX20 ++ wsX10 ++ (vx_atS RX2 51 "java/lang/IndexOutOfBoundsException" ["java/lang/RuntimeException", "java/lang/Exception"]).filter goodWord ++ (vx_atS RX2 63 "java/lang/IllegalArgumentException" ["java/lang/RuntimeException", "java/lang/Exception"]).filter goodWord ++ (vx_atS RX2 39 "java/lang/IllegalStateException" ["java/lang/RuntimeException", "java/lang/Exception"]).filter goodWord)
def wsX2_award_r1 : List Cond := [Cond.classLink RX2 47 "java/lang/IndexOutOfBoundsException", Cond.initialized "java/lang/IndexOutOfBoundsException", Cond.classLink RX2 35 "java/lang/IllegalStateException", Cond.initialized "java/lang/IllegalStateException", Cond.methodLink RX2 43 yX2_tenderAt, Cond.instanceMethod yX2_tenderAt, Cond.selects RX2 yX2_tenderAt yX2_tenderAt, Cond.initialized RX2, Cond.code yX2_tenderAt cX2_tenderAt 2 (some (.object "CartelWatch$Tender")), Cond.fieldLink RX2 11 "CartelWatch" "tenders" "[LCartelWatch$Tender;", Cond.methodLink RX2 64 yX1_isOpen, Cond.instanceMethod yX1_isOpen, Cond.selects RX1 yX1_isOpen yX1_isOpen, Cond.initialized RX1, Cond.code yX1_isOpen cX1_isOpen 1 (some .boolean), Cond.fieldLink RX1 19 "CartelWatch$Tender" "decided" "Z", Cond.methodLink RX2 98 yX1_decide, Cond.instanceMethod yX1_decide, Cond.selects RX1 yX1_decide yX1_decide, Cond.code yX1_decide cX1_decide 3 none, Cond.fieldLink RX1 23 "CartelWatch$Tender" "winner" "I", Cond.methodLink RX1 37 yX1_isStanding, Cond.instanceMethod yX1_isStanding, Cond.selects RX1 yX1_isStanding yX1_isStanding]
def wsX2_award_r2 : List Cond := [Cond.code yX1_isStanding cX1_isStanding 2 (some .boolean), Cond.fieldLink RX1 9 "CartelWatch$Tender" "sums" "[I", Cond.fieldLink RX1 15 "CartelWatch$Tender" "withdrawn" "[Z", Cond.static yX2_isBidder, Cond.code yX2_isBidder cX2_isBidder 1 (some .boolean), Cond.methodLink RX1 40 yX1_sumOf, Cond.instanceMethod yX1_sumOf, Cond.selects RX1 yX1_sumOf yX1_sumOf, Cond.code yX1_sumOf cX1_sumOf 2 (some .int), Cond.methodLink RX2 101 yX1_winner, Cond.instanceMethod yX1_winner, Cond.selects RX1 yX1_winner yX1_winner, Cond.code yX1_winner cX1_winner 1 (some .int)]
def wsX2_award : List Cond := .code yX2_award cX2_award 3 (some .int) :: ((wsX2_award_r1 ++ wsX2_award_r2) ++ wsX20 ++ wsX10 ++ (vx_atS RX2 51 "java/lang/IndexOutOfBoundsException" ["java/lang/RuntimeException", "java/lang/Exception"]).filter goodWord ++ (vx_atS RX2 39 "java/lang/IllegalStateException" ["java/lang/RuntimeException", "java/lang/Exception"]).filter goodWord)
def wsX2_passOn_r1 : List Cond := [Cond.classLink RX2 47 "java/lang/IndexOutOfBoundsException", Cond.initialized "java/lang/IndexOutOfBoundsException", Cond.classLink RX2 35 "java/lang/IllegalStateException", Cond.initialized "java/lang/IllegalStateException", Cond.classLink RX2 59 "java/lang/IllegalArgumentException", Cond.initialized "java/lang/IllegalArgumentException", Cond.methodLink RX2 43 yX2_tenderAt, Cond.instanceMethod yX2_tenderAt, Cond.selects RX2 yX2_tenderAt yX2_tenderAt, Cond.initialized RX2, Cond.code yX2_tenderAt cX2_tenderAt 2 (some (.object "CartelWatch$Tender")), Cond.fieldLink RX2 11 "CartelWatch" "tenders" "[LCartelWatch$Tender;", Cond.methodLink RX2 104 yX1_isAwarded, Cond.instanceMethod yX1_isAwarded, Cond.selects RX1 yX1_isAwarded yX1_isAwarded, Cond.initialized RX1, Cond.code yX1_isAwarded cX1_isAwarded 1 (some .boolean), Cond.fieldLink RX1 23 "CartelWatch$Tender" "winner" "I", Cond.methodLink RX2 107 yX1_isPassedOn, Cond.instanceMethod yX1_isPassedOn, Cond.selects RX1 yX1_isPassedOn yX1_isPassedOn, Cond.code yX1_isPassedOn cX1_isPassedOn 1 (some .boolean), Cond.fieldLink RX1 27 "CartelWatch$Tender" "partner" "I", Cond.methodLink RX2 101 yX1_winner]
def wsX2_passOn_r2 : List Cond := [Cond.instanceMethod yX1_winner, Cond.selects RX1 yX1_winner yX1_winner, Cond.code yX1_winner cX1_winner 1 (some .int), Cond.methodLink RX2 52 yX2_isBidder, Cond.static yX2_isBidder, Cond.code yX2_isBidder cX2_isBidder 1 (some .boolean), Cond.methodLink RX2 92 yX1_sumOf, Cond.instanceMethod yX1_sumOf, Cond.selects RX1 yX1_sumOf yX1_sumOf, Cond.code yX1_sumOf cX1_sumOf 2 (some .int), Cond.fieldLink RX1 9 "CartelWatch$Tender" "sums" "[I", Cond.methodLink RX2 114 yX1_giveOver, Cond.instanceMethod yX1_giveOver, Cond.selects RX1 yX1_giveOver yX1_giveOver, Cond.code yX1_giveOver cX1_giveOver 3 none, Cond.fieldLink RX1 30 "CartelWatch$Tender" "partnersPart" "I"]
def wsX2_passOn : List Cond := .code yX2_passOn cX2_passOn 6 (some .int) :: ((wsX2_passOn_r1 ++ wsX2_passOn_r2) ++ wsX20 ++ wsX10 ++ (vx_atS RX2 51 "java/lang/IndexOutOfBoundsException" ["java/lang/RuntimeException", "java/lang/Exception"]).filter goodWord ++ (vx_atS RX2 39 "java/lang/IllegalStateException" ["java/lang/RuntimeException", "java/lang/Exception"]).filter goodWord ++ (vx_atS RX2 63 "java/lang/IllegalArgumentException" ["java/lang/RuntimeException", "java/lang/Exception"]).filter goodWord)
def wsX2_turnoverOf : List Cond := .code yX2_turnoverOf cX2_turnoverOf 7 (some .int) :: ([.fieldLink RX2 11 "CartelWatch" "tenders" "[LCartelWatch$Tender;", .methodLink RX2 192 yX1_incomeOf, .instanceMethod yX1_incomeOf, .selects RX1 yX1_incomeOf yX1_incomeOf, .initialized RX1, .code yX1_incomeOf cX1_incomeOf 2 (some .int), .fieldLink RX1 23 "CartelWatch$Tender" "winner" "I", .fieldLink RX1 30 "CartelWatch$Tender" "partnersPart" "I", .fieldLink RX1 27 "CartelWatch$Tender" "partner" "I", .methodLink RX1 40 yX1_sumOf, .instanceMethod yX1_sumOf, .selects RX1 yX1_sumOf yX1_sumOf, .code yX1_sumOf cX1_sumOf 2 (some .int), .fieldLink RX1 9 "CartelWatch$Tender" "sums" "[I", .static yX2_isBidder, .initialized RX2, .code yX2_isBidder cX2_isBidder 1 (some .boolean)] ++ wsX20 ++ wsX10)
def wsX2_turnover : List Cond := .code yX2_turnover cX2_turnover 2 (some .int) :: ([.classLink RX2 59 "java/lang/IllegalArgumentException", .initialized "java/lang/IllegalArgumentException", .methodLink RX2 52 yX2_isBidder, .static yX2_isBidder, .initialized RX2, .code yX2_isBidder cX2_isBidder 1 (some .boolean), .methodLink RX2 117 yX2_turnoverOf, .instanceMethod yX2_turnoverOf, .selects RX2 yX2_turnoverOf yX2_turnoverOf, .code yX2_turnoverOf cX2_turnoverOf 7 (some .int), .fieldLink RX2 11 "CartelWatch" "tenders" "[LCartelWatch$Tender;", .methodLink RX2 192 yX1_incomeOf, .instanceMethod yX1_incomeOf, .selects RX1 yX1_incomeOf yX1_incomeOf, .initialized RX1, .code yX1_incomeOf cX1_incomeOf 2 (some .int), .fieldLink RX1 23 "CartelWatch$Tender" "winner" "I", .fieldLink RX1 30 "CartelWatch$Tender" "partnersPart" "I", .fieldLink RX1 27 "CartelWatch$Tender" "partner" "I", .methodLink RX1 40 yX1_sumOf, .instanceMethod yX1_sumOf, .selects RX1 yX1_sumOf yX1_sumOf, .code yX1_sumOf cX1_sumOf 2 (some .int), .fieldLink RX1 9 "CartelWatch$Tender" "sums" "[I"] ++ wsX20 ++ wsX10 ++ (vx_atS RX2 63 "java/lang/IllegalArgumentException" ["java/lang/RuntimeException", "java/lang/Exception"]).filter goodWord)
def wsX2_won : List Cond := .code yX2_won cX2_won 7 (some .int) :: ([.classLink RX2 59 "java/lang/IllegalArgumentException", .initialized "java/lang/IllegalArgumentException", .fieldLink RX2 11 "CartelWatch" "tenders" "[LCartelWatch$Tender;", .methodLink RX2 52 yX2_isBidder, .static yX2_isBidder, .initialized RX2, .code yX2_isBidder cX2_isBidder 1 (some .boolean), .methodLink RX2 101 yX1_winner, .instanceMethod yX1_winner, .selects RX1 yX1_winner yX1_winner, .initialized RX1, .code yX1_winner cX1_winner 1 (some .int), .fieldLink RX1 23 "CartelWatch$Tender" "winner" "I"] ++ wsX20 ++ wsX10 ++ (vx_atS RX2 63 "java/lang/IllegalArgumentException" ["java/lang/RuntimeException", "java/lang/Exception"]).filter goodWord)
def wsX2_isPair : List Cond := .code yX2_isPair cX2_isPair 2 (some .boolean) :: ([.methodLink RX2 52 yX2_isBidder, .static yX2_isBidder, .initialized RX2, .code yX2_isBidder cX2_isBidder 1 (some .boolean)])
def wsX2_lastWinnerBefore : List Cond := .code yX2_lastWinnerBefore cX2_lastWinnerBefore 6 (some .int) :: ([.methodLink RX2 43 yX2_tenderAt, .instanceMethod yX2_tenderAt, .selects RX2 yX2_tenderAt yX2_tenderAt, .initialized RX2, .code yX2_tenderAt cX2_tenderAt 2 (some (.object "CartelWatch$Tender")), .fieldLink RX2 11 "CartelWatch" "tenders" "[LCartelWatch$Tender;", .methodLink RX2 104 yX1_isAwarded, .instanceMethod yX1_isAwarded, .selects RX1 yX1_isAwarded yX1_isAwarded, .initialized RX1, .code yX1_isAwarded cX1_isAwarded 1 (some .boolean), .fieldLink RX1 23 "CartelWatch$Tender" "winner" "I", .methodLink RX2 83 yX1_isStanding, .instanceMethod yX1_isStanding, .selects RX1 yX1_isStanding yX1_isStanding, .code yX1_isStanding cX1_isStanding 2 (some .boolean), .fieldLink RX1 9 "CartelWatch$Tender" "sums" "[I", .fieldLink RX1 15 "CartelWatch$Tender" "withdrawn" "[Z", .static yX2_isBidder, .code yX2_isBidder cX2_isBidder 1 (some .boolean), .methodLink RX2 101 yX1_winner, .instanceMethod yX1_winner, .selects RX1 yX1_winner yX1_winner, .code yX1_winner cX1_winner 1 (some .int)] ++ wsX20 ++ wsX10)
def wsX2_countOf_r1 : List Cond := [Cond.methodLink RX2 43 yX2_tenderAt, Cond.instanceMethod yX2_tenderAt, Cond.selects RX2 yX2_tenderAt yX2_tenderAt, Cond.initialized RX2, Cond.code yX2_tenderAt cX2_tenderAt 2 (some (.object "CartelWatch$Tender")), Cond.fieldLink RX2 11 "CartelWatch" "tenders" "[LCartelWatch$Tender;", Cond.methodLink RX2 101 yX1_winner, Cond.instanceMethod yX1_winner, Cond.selects RX1 yX1_winner yX1_winner, Cond.initialized RX1, Cond.code yX1_winner cX1_winner 1 (some .int), Cond.fieldLink RX1 23 "CartelWatch$Tender" "winner" "I", Cond.methodLink RX2 195 yX1_signsOfLoser, Cond.instanceMethod yX1_signsOfLoser, Cond.selects RX1 yX1_signsOfLoser yX1_signsOfLoser, Cond.code yX1_signsOfLoser cX1_signsOfLoser 3 (some .int), Cond.fieldLink RX1 27 "CartelWatch$Tender" "partner" "I", Cond.methodLink RX1 37 yX1_isStanding, Cond.instanceMethod yX1_isStanding, Cond.selects RX1 yX1_isStanding yX1_isStanding, Cond.code yX1_isStanding cX1_isStanding 2 (some .boolean), Cond.fieldLink RX1 9 "CartelWatch$Tender" "sums" "[I", Cond.fieldLink RX1 15 "CartelWatch$Tender" "withdrawn" "[Z", Cond.static yX2_isBidder]
def wsX2_countOf_r2 : List Cond := [Cond.code yX2_isBidder cX2_isBidder 1 (some .boolean), Cond.methodLink RX1 40 yX1_sumOf, Cond.instanceMethod yX1_sumOf, Cond.selects RX1 yX1_sumOf yX1_sumOf, Cond.code yX1_sumOf cX1_sumOf 2 (some .int), Cond.methodLink RX1 44 yX1_isNear, Cond.instanceMethod yX1_isNear, Cond.selects RX1 yX1_isNear yX1_isNear, Cond.code yX1_isNear cX1_isNear 3 (some .boolean), Cond.methodLink RX1 47 yX1_hasBidOf, Cond.instanceMethod yX1_hasBidOf, Cond.selects RX1 yX1_hasBidOf yX1_hasBidOf, Cond.code yX1_hasBidOf cX1_hasBidOf 2 (some .boolean), Cond.methodLink RX1 50 yX1_hasWithdrawn, Cond.instanceMethod yX1_hasWithdrawn, Cond.selects RX1 yX1_hasWithdrawn yX1_hasWithdrawn, Cond.code yX1_hasWithdrawn cX1_hasWithdrawn 2 (some .boolean), Cond.methodLink RX2 83 yX1_isStanding, Cond.methodLink RX2 198 yX2_lastWinnerBefore, Cond.instanceMethod yX2_lastWinnerBefore, Cond.selects RX2 yX2_lastWinnerBefore yX2_lastWinnerBefore, Cond.code yX2_lastWinnerBefore cX2_lastWinnerBefore 6 (some .int), Cond.methodLink RX2 104 yX1_isAwarded, Cond.instanceMethod yX1_isAwarded]
def wsX2_countOf_r3 : List Cond := [Cond.selects RX1 yX1_isAwarded yX1_isAwarded, Cond.code yX1_isAwarded cX1_isAwarded 1 (some .boolean)]
def wsX2_countOf : List Cond := .code yX2_countOf cX2_countOf 8 (some .int) :: ((wsX2_countOf_r1 ++ (wsX2_countOf_r2 ++ wsX2_countOf_r3)) ++ wsX20 ++ wsX10)
def wsX2_suspicionOf_r1 : List Cond := [Cond.fieldLink RX2 11 "CartelWatch" "tenders" "[LCartelWatch$Tender;", Cond.methodLink RX2 130 yX2_countOf, Cond.instanceMethod yX2_countOf, Cond.selects RX2 yX2_countOf yX2_countOf, Cond.initialized RX2, Cond.code yX2_countOf cX2_countOf 8 (some .int), Cond.methodLink RX2 43 yX2_tenderAt, Cond.instanceMethod yX2_tenderAt, Cond.selects RX2 yX2_tenderAt yX2_tenderAt, Cond.code yX2_tenderAt cX2_tenderAt 2 (some (.object "CartelWatch$Tender")), Cond.methodLink RX2 101 yX1_winner, Cond.instanceMethod yX1_winner, Cond.selects RX1 yX1_winner yX1_winner, Cond.initialized RX1, Cond.code yX1_winner cX1_winner 1 (some .int), Cond.fieldLink RX1 23 "CartelWatch$Tender" "winner" "I", Cond.methodLink RX2 195 yX1_signsOfLoser, Cond.instanceMethod yX1_signsOfLoser, Cond.selects RX1 yX1_signsOfLoser yX1_signsOfLoser, Cond.code yX1_signsOfLoser cX1_signsOfLoser 3 (some .int), Cond.fieldLink RX1 27 "CartelWatch$Tender" "partner" "I", Cond.methodLink RX1 37 yX1_isStanding, Cond.instanceMethod yX1_isStanding, Cond.selects RX1 yX1_isStanding yX1_isStanding]
def wsX2_suspicionOf_r2 : List Cond := [Cond.code yX1_isStanding cX1_isStanding 2 (some .boolean), Cond.fieldLink RX1 9 "CartelWatch$Tender" "sums" "[I", Cond.fieldLink RX1 15 "CartelWatch$Tender" "withdrawn" "[Z", Cond.static yX2_isBidder, Cond.code yX2_isBidder cX2_isBidder 1 (some .boolean), Cond.methodLink RX1 40 yX1_sumOf, Cond.instanceMethod yX1_sumOf, Cond.selects RX1 yX1_sumOf yX1_sumOf, Cond.code yX1_sumOf cX1_sumOf 2 (some .int), Cond.methodLink RX1 44 yX1_isNear, Cond.instanceMethod yX1_isNear, Cond.selects RX1 yX1_isNear yX1_isNear, Cond.code yX1_isNear cX1_isNear 3 (some .boolean), Cond.methodLink RX1 47 yX1_hasBidOf, Cond.instanceMethod yX1_hasBidOf, Cond.selects RX1 yX1_hasBidOf yX1_hasBidOf, Cond.code yX1_hasBidOf cX1_hasBidOf 2 (some .boolean), Cond.methodLink RX1 50 yX1_hasWithdrawn, Cond.instanceMethod yX1_hasWithdrawn, Cond.selects RX1 yX1_hasWithdrawn yX1_hasWithdrawn, Cond.code yX1_hasWithdrawn cX1_hasWithdrawn 2 (some .boolean), Cond.methodLink RX2 83 yX1_isStanding, Cond.methodLink RX2 198 yX2_lastWinnerBefore, Cond.instanceMethod yX2_lastWinnerBefore]
def wsX2_suspicionOf_r3 : List Cond := [Cond.selects RX2 yX2_lastWinnerBefore yX2_lastWinnerBefore, Cond.code yX2_lastWinnerBefore cX2_lastWinnerBefore 6 (some .int), Cond.methodLink RX2 104 yX1_isAwarded, Cond.instanceMethod yX1_isAwarded, Cond.selects RX1 yX1_isAwarded yX1_isAwarded, Cond.code yX1_isAwarded cX1_isAwarded 1 (some .boolean)]
def wsX2_suspicionOf : List Cond := .code yX2_suspicionOf cX2_suspicionOf 5 (some .int) :: ((wsX2_suspicionOf_r1 ++ (wsX2_suspicionOf_r2 ++ wsX2_suspicionOf_r3)) ++ wsX20 ++ wsX10)
def wsX2_suspicion_r1 : List Cond := [Cond.classLink RX2 59 "java/lang/IllegalArgumentException", Cond.initialized "java/lang/IllegalArgumentException", Cond.methodLink RX2 120 yX2_isPair, Cond.static yX2_isPair, Cond.initialized RX2, Cond.code yX2_isPair cX2_isPair 2 (some .boolean), Cond.methodLink RX2 52 yX2_isBidder, Cond.static yX2_isBidder, Cond.code yX2_isBidder cX2_isBidder 1 (some .boolean), Cond.methodLink RX2 126 yX2_suspicionOf, Cond.instanceMethod yX2_suspicionOf, Cond.selects RX2 yX2_suspicionOf yX2_suspicionOf, Cond.code yX2_suspicionOf cX2_suspicionOf 5 (some .int), Cond.fieldLink RX2 11 "CartelWatch" "tenders" "[LCartelWatch$Tender;", Cond.methodLink RX2 130 yX2_countOf, Cond.instanceMethod yX2_countOf, Cond.selects RX2 yX2_countOf yX2_countOf, Cond.code yX2_countOf cX2_countOf 8 (some .int), Cond.methodLink RX2 43 yX2_tenderAt, Cond.instanceMethod yX2_tenderAt, Cond.selects RX2 yX2_tenderAt yX2_tenderAt, Cond.code yX2_tenderAt cX2_tenderAt 2 (some (.object "CartelWatch$Tender")), Cond.methodLink RX2 101 yX1_winner, Cond.instanceMethod yX1_winner]
def wsX2_suspicion_r2 : List Cond := [Cond.selects RX1 yX1_winner yX1_winner, Cond.initialized RX1, Cond.code yX1_winner cX1_winner 1 (some .int), Cond.fieldLink RX1 23 "CartelWatch$Tender" "winner" "I", Cond.methodLink RX2 195 yX1_signsOfLoser, Cond.instanceMethod yX1_signsOfLoser, Cond.selects RX1 yX1_signsOfLoser yX1_signsOfLoser, Cond.code yX1_signsOfLoser cX1_signsOfLoser 3 (some .int), Cond.fieldLink RX1 27 "CartelWatch$Tender" "partner" "I", Cond.methodLink RX1 37 yX1_isStanding, Cond.instanceMethod yX1_isStanding, Cond.selects RX1 yX1_isStanding yX1_isStanding, Cond.code yX1_isStanding cX1_isStanding 2 (some .boolean), Cond.fieldLink RX1 9 "CartelWatch$Tender" "sums" "[I", Cond.fieldLink RX1 15 "CartelWatch$Tender" "withdrawn" "[Z", Cond.methodLink RX1 40 yX1_sumOf, Cond.instanceMethod yX1_sumOf, Cond.selects RX1 yX1_sumOf yX1_sumOf, Cond.code yX1_sumOf cX1_sumOf 2 (some .int), Cond.methodLink RX1 44 yX1_isNear, Cond.instanceMethod yX1_isNear, Cond.selects RX1 yX1_isNear yX1_isNear, Cond.code yX1_isNear cX1_isNear 3 (some .boolean), Cond.methodLink RX1 47 yX1_hasBidOf]
def wsX2_suspicion_r3 : List Cond := [Cond.instanceMethod yX1_hasBidOf, Cond.selects RX1 yX1_hasBidOf yX1_hasBidOf, Cond.code yX1_hasBidOf cX1_hasBidOf 2 (some .boolean), Cond.methodLink RX1 50 yX1_hasWithdrawn, Cond.instanceMethod yX1_hasWithdrawn, Cond.selects RX1 yX1_hasWithdrawn yX1_hasWithdrawn, Cond.code yX1_hasWithdrawn cX1_hasWithdrawn 2 (some .boolean), Cond.methodLink RX2 83 yX1_isStanding, Cond.methodLink RX2 198 yX2_lastWinnerBefore, Cond.instanceMethod yX2_lastWinnerBefore, Cond.selects RX2 yX2_lastWinnerBefore yX2_lastWinnerBefore, Cond.code yX2_lastWinnerBefore cX2_lastWinnerBefore 6 (some .int), Cond.methodLink RX2 104 yX1_isAwarded, Cond.instanceMethod yX1_isAwarded, Cond.selects RX1 yX1_isAwarded yX1_isAwarded, Cond.code yX1_isAwarded cX1_isAwarded 1 (some .boolean)]
def wsX2_suspicion : List Cond := .code yX2_suspicion cX2_suspicion 3 (some .int) :: ((wsX2_suspicion_r1 ++ (wsX2_suspicion_r2 ++ wsX2_suspicion_r3)) ++ wsX20 ++ wsX10 ++ (vx_atS RX2 63 "java/lang/IllegalArgumentException" ["java/lang/RuntimeException", "java/lang/Exception"]).filter goodWord)
def wsX2_sign_r1 : List Cond := [Cond.classLink RX2 47 "java/lang/IndexOutOfBoundsException", Cond.initialized "java/lang/IndexOutOfBoundsException", Cond.classLink RX2 59 "java/lang/IllegalArgumentException", Cond.initialized "java/lang/IllegalArgumentException", Cond.methodLink RX2 43 yX2_tenderAt, Cond.instanceMethod yX2_tenderAt, Cond.selects RX2 yX2_tenderAt yX2_tenderAt, Cond.initialized RX2, Cond.code yX2_tenderAt cX2_tenderAt 2 (some (.object "CartelWatch$Tender")), Cond.fieldLink RX2 11 "CartelWatch" "tenders" "[LCartelWatch$Tender;", Cond.methodLink RX2 120 yX2_isPair, Cond.static yX2_isPair, Cond.code yX2_isPair cX2_isPair 2 (some .boolean), Cond.methodLink RX2 52 yX2_isBidder, Cond.static yX2_isBidder, Cond.code yX2_isBidder cX2_isBidder 1 (some .boolean), Cond.methodLink RX2 130 yX2_countOf, Cond.instanceMethod yX2_countOf, Cond.selects RX2 yX2_countOf yX2_countOf, Cond.code yX2_countOf cX2_countOf 8 (some .int), Cond.methodLink RX2 101 yX1_winner, Cond.instanceMethod yX1_winner, Cond.selects RX1 yX1_winner yX1_winner, Cond.initialized RX1]
def wsX2_sign_r2 : List Cond := [Cond.code yX1_winner cX1_winner 1 (some .int), Cond.fieldLink RX1 23 "CartelWatch$Tender" "winner" "I", Cond.methodLink RX2 195 yX1_signsOfLoser, Cond.instanceMethod yX1_signsOfLoser, Cond.selects RX1 yX1_signsOfLoser yX1_signsOfLoser, Cond.code yX1_signsOfLoser cX1_signsOfLoser 3 (some .int), Cond.fieldLink RX1 27 "CartelWatch$Tender" "partner" "I", Cond.methodLink RX1 37 yX1_isStanding, Cond.instanceMethod yX1_isStanding, Cond.selects RX1 yX1_isStanding yX1_isStanding, Cond.code yX1_isStanding cX1_isStanding 2 (some .boolean), Cond.fieldLink RX1 9 "CartelWatch$Tender" "sums" "[I", Cond.fieldLink RX1 15 "CartelWatch$Tender" "withdrawn" "[Z", Cond.methodLink RX1 40 yX1_sumOf, Cond.instanceMethod yX1_sumOf, Cond.selects RX1 yX1_sumOf yX1_sumOf, Cond.code yX1_sumOf cX1_sumOf 2 (some .int), Cond.methodLink RX1 44 yX1_isNear, Cond.instanceMethod yX1_isNear, Cond.selects RX1 yX1_isNear yX1_isNear, Cond.code yX1_isNear cX1_isNear 3 (some .boolean), Cond.methodLink RX1 47 yX1_hasBidOf, Cond.instanceMethod yX1_hasBidOf, Cond.selects RX1 yX1_hasBidOf yX1_hasBidOf]
def wsX2_sign_r3 : List Cond := [Cond.code yX1_hasBidOf cX1_hasBidOf 2 (some .boolean), Cond.methodLink RX1 50 yX1_hasWithdrawn, Cond.instanceMethod yX1_hasWithdrawn, Cond.selects RX1 yX1_hasWithdrawn yX1_hasWithdrawn, Cond.code yX1_hasWithdrawn cX1_hasWithdrawn 2 (some .boolean), Cond.methodLink RX2 83 yX1_isStanding, Cond.methodLink RX2 198 yX2_lastWinnerBefore, Cond.instanceMethod yX2_lastWinnerBefore, Cond.selects RX2 yX2_lastWinnerBefore yX2_lastWinnerBefore, Cond.code yX2_lastWinnerBefore cX2_lastWinnerBefore 6 (some .int), Cond.methodLink RX2 104 yX1_isAwarded, Cond.instanceMethod yX1_isAwarded, Cond.selects RX1 yX1_isAwarded yX1_isAwarded, Cond.code yX1_isAwarded cX1_isAwarded 1 (some .boolean)]
def wsX2_sign : List Cond := .code yX2_sign cX2_sign 4 (some .int) :: ((wsX2_sign_r1 ++ (wsX2_sign_r2 ++ wsX2_sign_r3)) ++ wsX20 ++ wsX10 ++ (vx_atS RX2 51 "java/lang/IndexOutOfBoundsException" ["java/lang/RuntimeException", "java/lang/Exception"]).filter goodWord ++ (vx_atS RX2 63 "java/lang/IllegalArgumentException" ["java/lang/RuntimeException", "java/lang/Exception"]).filter goodWord)
def wsX2_setMark : List Cond := .code yX2_setMark cX2_setMark 3 (some .int) :: ([.classLink RX2 59 "java/lang/IllegalArgumentException", .initialized "java/lang/IllegalArgumentException", .fieldLink RX2 32 "CartelWatch" "leastSuspicionForFile" "I"] ++ wsX20 ++ (vx_atS RX2 63 "java/lang/IllegalArgumentException" ["java/lang/RuntimeException", "java/lang/Exception"]).filter goodWord)
def wsX2_worst_r1 : List Cond := [Cond.methodLink RX2 126 yX2_suspicionOf, Cond.instanceMethod yX2_suspicionOf, Cond.selects RX2 yX2_suspicionOf yX2_suspicionOf, Cond.initialized RX2, Cond.code yX2_suspicionOf cX2_suspicionOf 5 (some .int), Cond.fieldLink RX2 11 "CartelWatch" "tenders" "[LCartelWatch$Tender;", Cond.methodLink RX2 130 yX2_countOf, Cond.instanceMethod yX2_countOf, Cond.selects RX2 yX2_countOf yX2_countOf, Cond.code yX2_countOf cX2_countOf 8 (some .int), Cond.methodLink RX2 43 yX2_tenderAt, Cond.instanceMethod yX2_tenderAt, Cond.selects RX2 yX2_tenderAt yX2_tenderAt, Cond.code yX2_tenderAt cX2_tenderAt 2 (some (.object "CartelWatch$Tender")), Cond.methodLink RX2 101 yX1_winner, Cond.instanceMethod yX1_winner, Cond.selects RX1 yX1_winner yX1_winner, Cond.initialized RX1, Cond.code yX1_winner cX1_winner 1 (some .int), Cond.fieldLink RX1 23 "CartelWatch$Tender" "winner" "I", Cond.methodLink RX2 195 yX1_signsOfLoser, Cond.instanceMethod yX1_signsOfLoser, Cond.selects RX1 yX1_signsOfLoser yX1_signsOfLoser, Cond.code yX1_signsOfLoser cX1_signsOfLoser 3 (some .int)]
def wsX2_worst_r2 : List Cond := [Cond.fieldLink RX1 27 "CartelWatch$Tender" "partner" "I", Cond.methodLink RX1 37 yX1_isStanding, Cond.instanceMethod yX1_isStanding, Cond.selects RX1 yX1_isStanding yX1_isStanding, Cond.code yX1_isStanding cX1_isStanding 2 (some .boolean), Cond.fieldLink RX1 9 "CartelWatch$Tender" "sums" "[I", Cond.fieldLink RX1 15 "CartelWatch$Tender" "withdrawn" "[Z", Cond.static yX2_isBidder, Cond.code yX2_isBidder cX2_isBidder 1 (some .boolean), Cond.methodLink RX1 40 yX1_sumOf, Cond.instanceMethod yX1_sumOf, Cond.selects RX1 yX1_sumOf yX1_sumOf, Cond.code yX1_sumOf cX1_sumOf 2 (some .int), Cond.methodLink RX1 44 yX1_isNear, Cond.instanceMethod yX1_isNear, Cond.selects RX1 yX1_isNear yX1_isNear, Cond.code yX1_isNear cX1_isNear 3 (some .boolean), Cond.methodLink RX1 47 yX1_hasBidOf, Cond.instanceMethod yX1_hasBidOf, Cond.selects RX1 yX1_hasBidOf yX1_hasBidOf, Cond.code yX1_hasBidOf cX1_hasBidOf 2 (some .boolean), Cond.methodLink RX1 50 yX1_hasWithdrawn, Cond.instanceMethod yX1_hasWithdrawn, Cond.selects RX1 yX1_hasWithdrawn yX1_hasWithdrawn]
def wsX2_worst_r3 : List Cond := [Cond.code yX1_hasWithdrawn cX1_hasWithdrawn 2 (some .boolean), Cond.methodLink RX2 83 yX1_isStanding, Cond.methodLink RX2 198 yX2_lastWinnerBefore, Cond.instanceMethod yX2_lastWinnerBefore, Cond.selects RX2 yX2_lastWinnerBefore yX2_lastWinnerBefore, Cond.code yX2_lastWinnerBefore cX2_lastWinnerBefore 6 (some .int), Cond.methodLink RX2 104 yX1_isAwarded, Cond.instanceMethod yX1_isAwarded, Cond.selects RX1 yX1_isAwarded yX1_isAwarded, Cond.code yX1_isAwarded cX1_isAwarded 1 (some .boolean)]
def wsX2_worst : List Cond := .code yX2_worst cX2_worst 6 (some .int) :: ((wsX2_worst_r1 ++ (wsX2_worst_r2 ++ wsX2_worst_r3)) ++ wsX20 ++ wsX10)
def wsX2_hasDossier : List Cond := .code yX2_hasDossier cX2_hasDossier 7 (some .boolean) :: ([.fieldLink RX2 21 "CartelWatch" "dossiers" "[LCartelWatch$Dossier;", .methodLink RX2 157 yX0_isOf, .instanceMethod yX0_isOf, .selects RX0 yX0_isOf yX0_isOf, .initialized RX0, .code yX0_isOf cX0_isOf 2 (some .boolean), .fieldLink RX0 33 "CartelWatch$Dossier" "one" "I", .fieldLink RX0 36 "CartelWatch$Dossier" "other" "I"] ++ wsX20 ++ wsX00)
def wsX2_file_r1 : List Cond := [Cond.classLink RX2 59 "java/lang/IllegalArgumentException", Cond.initialized "java/lang/IllegalArgumentException", Cond.classLink RX2 35 "java/lang/IllegalStateException", Cond.initialized "java/lang/IllegalStateException", Cond.fieldLink RX2 25 "CartelWatch" "dossierCount" "I", Cond.fieldLink RX2 21 "CartelWatch" "dossiers" "[LCartelWatch$Dossier;", Cond.fieldLink RX2 32 "CartelWatch" "leastSuspicionForFile" "I", Cond.classLink RX2 19 RX0, Cond.instantiable RX0 8, Cond.initialized RX0, Cond.fieldLink RX2 11 "CartelWatch" "tenders" "[LCartelWatch$Tender;", Cond.methodLink RX2 120 yX2_isPair, Cond.static yX2_isPair, Cond.initialized RX2, Cond.code yX2_isPair cX2_isPair 2 (some .boolean), Cond.methodLink RX2 52 yX2_isBidder, Cond.static yX2_isBidder, Cond.code yX2_isBidder cX2_isBidder 1 (some .boolean), Cond.methodLink RX2 136 yX2_hasDossier, Cond.instanceMethod yX2_hasDossier, Cond.selects RX2 yX2_hasDossier yX2_hasDossier, Cond.code yX2_hasDossier cX2_hasDossier 7 (some .boolean), Cond.methodLink RX2 157 yX0_isOf, Cond.instanceMethod yX0_isOf]
def wsX2_file_r2 : List Cond := [Cond.selects RX0 yX0_isOf yX0_isOf, Cond.code yX0_isOf cX0_isOf 2 (some .boolean), Cond.fieldLink RX0 33 "CartelWatch$Dossier" "one" "I", Cond.fieldLink RX0 36 "CartelWatch$Dossier" "other" "I", Cond.methodLink RX2 126 yX2_suspicionOf, Cond.instanceMethod yX2_suspicionOf, Cond.selects RX2 yX2_suspicionOf yX2_suspicionOf, Cond.code yX2_suspicionOf cX2_suspicionOf 5 (some .int), Cond.methodLink RX2 130 yX2_countOf, Cond.instanceMethod yX2_countOf, Cond.selects RX2 yX2_countOf yX2_countOf, Cond.code yX2_countOf cX2_countOf 8 (some .int), Cond.methodLink RX2 43 yX2_tenderAt, Cond.instanceMethod yX2_tenderAt, Cond.selects RX2 yX2_tenderAt yX2_tenderAt, Cond.code yX2_tenderAt cX2_tenderAt 2 (some (.object "CartelWatch$Tender")), Cond.methodLink RX2 101 yX1_winner, Cond.instanceMethod yX1_winner, Cond.selects RX1 yX1_winner yX1_winner, Cond.initialized RX1, Cond.code yX1_winner cX1_winner 1 (some .int), Cond.fieldLink RX1 23 "CartelWatch$Tender" "winner" "I", Cond.methodLink RX2 195 yX1_signsOfLoser, Cond.instanceMethod yX1_signsOfLoser]
def wsX2_file_r3 : List Cond := [Cond.selects RX1 yX1_signsOfLoser yX1_signsOfLoser, Cond.code yX1_signsOfLoser cX1_signsOfLoser 3 (some .int), Cond.fieldLink RX1 27 "CartelWatch$Tender" "partner" "I", Cond.methodLink RX1 37 yX1_isStanding, Cond.instanceMethod yX1_isStanding, Cond.selects RX1 yX1_isStanding yX1_isStanding, Cond.code yX1_isStanding cX1_isStanding 2 (some .boolean), Cond.fieldLink RX1 9 "CartelWatch$Tender" "sums" "[I", Cond.fieldLink RX1 15 "CartelWatch$Tender" "withdrawn" "[Z", Cond.methodLink RX1 40 yX1_sumOf, Cond.instanceMethod yX1_sumOf, Cond.selects RX1 yX1_sumOf yX1_sumOf, Cond.code yX1_sumOf cX1_sumOf 2 (some .int), Cond.methodLink RX1 44 yX1_isNear, Cond.instanceMethod yX1_isNear, Cond.selects RX1 yX1_isNear yX1_isNear, Cond.code yX1_isNear cX1_isNear 3 (some .boolean), Cond.methodLink RX1 47 yX1_hasBidOf, Cond.instanceMethod yX1_hasBidOf, Cond.selects RX1 yX1_hasBidOf yX1_hasBidOf, Cond.code yX1_hasBidOf cX1_hasBidOf 2 (some .boolean), Cond.methodLink RX1 50 yX1_hasWithdrawn, Cond.instanceMethod yX1_hasWithdrawn, Cond.selects RX1 yX1_hasWithdrawn yX1_hasWithdrawn]
def wsX2_file_r4 : List Cond := [Cond.code yX1_hasWithdrawn cX1_hasWithdrawn 2 (some .boolean), Cond.methodLink RX2 83 yX1_isStanding, Cond.methodLink RX2 198 yX2_lastWinnerBefore, Cond.instanceMethod yX2_lastWinnerBefore, Cond.selects RX2 yX2_lastWinnerBefore yX2_lastWinnerBefore, Cond.code yX2_lastWinnerBefore cX2_lastWinnerBefore 6 (some .int), Cond.methodLink RX2 104 yX1_isAwarded, Cond.instanceMethod yX1_isAwarded, Cond.selects RX1 yX1_isAwarded yX1_isAwarded, Cond.code yX1_isAwarded cX1_isAwarded 1 (some .boolean), Cond.methodLink RX2 141 yX0_init, Cond.instanceMethod yX0_init, Cond.code yX0_init cX0_init 3 none, Cond.methodLink RX0 3 objectInit, Cond.instanceMethod objectInit, Cond.code objectInit ⟨#[0xb1]⟩ 1 none, Cond.arrayClass .boolean, Cond.fieldLink RX0 9 "CartelWatch$Dossier" "untold" "[Z", Cond.arrayClass .int, Cond.fieldLink RX0 15 "CartelWatch$Dossier" "newTellings" "[I", Cond.fieldLink RX0 19 "CartelWatch$Dossier" "fines" "[I", Cond.fieldLink RX0 22 "CartelWatch$Dossier" "matterCount" "I", Cond.fieldLink RX0 26 "CartelWatch$Dossier" "first" "I", Cond.fieldLink RX0 29 "CartelWatch$Dossier" "closed" "Z"]
def wsX2_file_r5 : List Cond := [Cond.methodLink RX2 143 yX0_addMatter, Cond.instanceMethod yX0_addMatter, Cond.selects RX0 yX0_addMatter yX0_addMatter, Cond.code yX0_addMatter cX0_addMatter 2 none]
def wsX2_file : List Cond := .code yX2_file cX2_file 6 (some .int) :: ((wsX2_file_r1 ++ (wsX2_file_r2 ++ (wsX2_file_r3 ++ (wsX2_file_r4 ++ wsX2_file_r5)))) ++ wsX20 ++ wsX00 ++ wsX10 ++ (vx_atS RX2 63 "java/lang/IllegalArgumentException" ["java/lang/RuntimeException", "java/lang/Exception"]).filter goodWord ++ (vx_atS RX2 39 "java/lang/IllegalStateException" ["java/lang/RuntimeException", "java/lang/Exception"]).filter goodWord)
def wsX2_dossierAt : List Cond := .code yX2_dossierAt cX2_dossierAt 2 (some (.object "CartelWatch$Dossier")) :: ([.fieldLink RX2 21 "CartelWatch" "dossiers" "[LCartelWatch$Dossier;"] ++ wsX20)
def wsX2_matters : List Cond := .code yX2_matters cX2_matters 3 (some .int) :: ([.classLink RX2 47 "java/lang/IndexOutOfBoundsException", .initialized "java/lang/IndexOutOfBoundsException", .methodLink RX2 146 yX2_dossierAt, .instanceMethod yX2_dossierAt, .selects RX2 yX2_dossierAt yX2_dossierAt, .initialized RX2, .code yX2_dossierAt cX2_dossierAt 2 (some (.object "CartelWatch$Dossier")), .fieldLink RX2 21 "CartelWatch" "dossiers" "[LCartelWatch$Dossier;", .methodLink RX2 152 yX0_matterCount, .instanceMethod yX0_matterCount, .selects RX0 yX0_matterCount yX0_matterCount, .initialized RX0, .code yX0_matterCount cX0_matterCount 1 (some .int), .fieldLink RX0 22 "CartelWatch$Dossier" "matterCount" "I"] ++ wsX20 ++ wsX00 ++ (vx_atS RX2 51 "java/lang/IndexOutOfBoundsException" ["java/lang/RuntimeException", "java/lang/Exception"]).filter goodWord)
def wsX2_tell_r1 : List Cond := [Cond.classLink RX2 47 "java/lang/IndexOutOfBoundsException", Cond.initialized "java/lang/IndexOutOfBoundsException", Cond.classLink RX2 59 "java/lang/IllegalArgumentException", Cond.initialized "java/lang/IllegalArgumentException", Cond.classLink RX2 35 "java/lang/IllegalStateException", Cond.initialized "java/lang/IllegalStateException", Cond.methodLink RX2 146 yX2_dossierAt, Cond.instanceMethod yX2_dossierAt, Cond.selects RX2 yX2_dossierAt yX2_dossierAt, Cond.initialized RX2, Cond.code yX2_dossierAt cX2_dossierAt 2 (some (.object "CartelWatch$Dossier")), Cond.fieldLink RX2 21 "CartelWatch" "dossiers" "[LCartelWatch$Dossier;", Cond.methodLink RX2 43 yX2_tenderAt, Cond.instanceMethod yX2_tenderAt, Cond.selects RX2 yX2_tenderAt yX2_tenderAt, Cond.code yX2_tenderAt cX2_tenderAt 2 (some (.object "CartelWatch$Tender")), Cond.fieldLink RX2 11 "CartelWatch" "tenders" "[LCartelWatch$Tender;", Cond.methodLink RX2 157 yX0_isOf, Cond.instanceMethod yX0_isOf, Cond.selects RX0 yX0_isOf yX0_isOf, Cond.initialized RX0, Cond.code yX0_isOf cX0_isOf 2 (some .boolean), Cond.fieldLink RX0 33 "CartelWatch$Dossier" "one" "I", Cond.fieldLink RX0 36 "CartelWatch$Dossier" "other" "I"]
def wsX2_tell_r2 : List Cond := [Cond.methodLink RX2 162 yX0_isClosed, Cond.instanceMethod yX0_isClosed, Cond.selects RX0 yX0_isClosed yX0_isClosed, Cond.code yX0_isClosed cX0_isClosed 1 (some .boolean), Cond.fieldLink RX0 29 "CartelWatch$Dossier" "closed" "Z", Cond.methodLink RX2 167 yX0_hear, Cond.instanceMethod yX0_hear, Cond.selects RX0 yX0_hear yX0_hear, Cond.code yX0_hear cX0_hear 3 (some .boolean), Cond.fieldLink RX0 9 "CartelWatch$Dossier" "untold" "[Z", Cond.fieldLink RX0 15 "CartelWatch$Dossier" "newTellings" "[I", Cond.fieldLink RX0 26 "CartelWatch$Dossier" "first" "I", Cond.static yX2_isBidder, Cond.code yX2_isBidder cX2_isBidder 1 (some .boolean)]
def wsX2_tell : List Cond := .code yX2_tell cX2_tell 5 (some .boolean) :: ((wsX2_tell_r1 ++ wsX2_tell_r2) ++ wsX20 ++ wsX00 ++ (vx_atS RX2 51 "java/lang/IndexOutOfBoundsException" ["java/lang/RuntimeException", "java/lang/Exception"]).filter goodWord ++ (vx_atS RX2 63 "java/lang/IllegalArgumentException" ["java/lang/RuntimeException", "java/lang/Exception"]).filter goodWord ++ (vx_atS RX2 39 "java/lang/IllegalStateException" ["java/lang/RuntimeException", "java/lang/Exception"]).filter goodWord)
def wsX2_compensate : List Cond := .code yX2_compensate cX2_compensate 3 (some .int) :: ([.classLink RX2 59 "java/lang/IllegalArgumentException", .initialized "java/lang/IllegalArgumentException", .fieldLink RX2 28 "CartelWatch" "paidToHarmed" "[I", .methodLink RX2 52 yX2_isBidder, .static yX2_isBidder, .initialized RX2, .code yX2_isBidder cX2_isBidder 1 (some .boolean), .methodLink RX2 56 yX2_isMoney, .static yX2_isMoney, .code yX2_isMoney cX2_isMoney 1 (some .boolean), .constant RX2 191 (100000)] ++ wsX20 ++ (vx_atS RX2 63 "java/lang/IllegalArgumentException" ["java/lang/RuntimeException", "java/lang/Exception"]).filter goodWord)
def wsX2_settle_r1 : List Cond := [Cond.fieldLink RX2 28 "CartelWatch" "paidToHarmed" "[I", Cond.methodLink RX2 204 Lib.Math.min.name, Cond.static Lib.Math.min.name, Cond.initialized "java/lang/Math", Cond.code Lib.Math.min.name Lib.Math.min.code 2 (some .int), Cond.methodLink RX2 52 yX2_isBidder, Cond.static yX2_isBidder, Cond.initialized RX2, Cond.code yX2_isBidder cX2_isBidder 1 (some .boolean), Cond.methodLink RX2 117 yX2_turnoverOf, Cond.instanceMethod yX2_turnoverOf, Cond.selects RX2 yX2_turnoverOf yX2_turnoverOf, Cond.code yX2_turnoverOf cX2_turnoverOf 7 (some .int), Cond.fieldLink RX2 11 "CartelWatch" "tenders" "[LCartelWatch$Tender;", Cond.methodLink RX2 192 yX1_incomeOf, Cond.instanceMethod yX1_incomeOf, Cond.selects RX1 yX1_incomeOf yX1_incomeOf, Cond.initialized RX1, Cond.code yX1_incomeOf cX1_incomeOf 2 (some .int), Cond.fieldLink RX1 23 "CartelWatch$Tender" "winner" "I", Cond.fieldLink RX1 30 "CartelWatch$Tender" "partnersPart" "I", Cond.fieldLink RX1 27 "CartelWatch$Tender" "partner" "I", Cond.methodLink RX1 40 yX1_sumOf, Cond.instanceMethod yX1_sumOf]
def wsX2_settle_r2 : List Cond := [Cond.selects RX1 yX1_sumOf yX1_sumOf, Cond.code yX1_sumOf cX1_sumOf 2 (some .int), Cond.fieldLink RX1 9 "CartelWatch$Tender" "sums" "[I", Cond.methodLink RX2 201 yX0_lenientFine, Cond.instanceMethod yX0_lenientFine, Cond.selects RX0 yX0_lenientFine yX0_lenientFine, Cond.initialized RX0, Cond.code yX0_lenientFine cX0_lenientFine 4 (some .int), Cond.fieldLink RX0 15 "CartelWatch$Dossier" "newTellings" "[I", Cond.fieldLink RX0 26 "CartelWatch$Dossier" "first" "I", Cond.fieldLink RX0 22 "CartelWatch$Dossier" "matterCount" "I", Cond.methodLink RX2 209 yX0_impose, Cond.instanceMethod yX0_impose, Cond.selects RX0 yX0_impose yX0_impose, Cond.code yX0_impose cX0_impose 3 none, Cond.fieldLink RX0 19 "CartelWatch$Dossier" "fines" "[I"]
def wsX2_settle : List Cond := .code yX2_settle cX2_settle 5 (some .int) :: ((wsX2_settle_r1 ++ wsX2_settle_r2) ++ wsX20 ++ wsX10 ++ wsX00)
def wsX2_close_r1 : List Cond := [Cond.classLink RX2 47 "java/lang/IndexOutOfBoundsException", Cond.initialized "java/lang/IndexOutOfBoundsException", Cond.classLink RX2 35 "java/lang/IllegalStateException", Cond.initialized "java/lang/IllegalStateException", Cond.methodLink RX2 146 yX2_dossierAt, Cond.instanceMethod yX2_dossierAt, Cond.selects RX2 yX2_dossierAt yX2_dossierAt, Cond.initialized RX2, Cond.code yX2_dossierAt cX2_dossierAt 2 (some (.object "CartelWatch$Dossier")), Cond.fieldLink RX2 21 "CartelWatch" "dossiers" "[LCartelWatch$Dossier;", Cond.methodLink RX2 162 yX0_isClosed, Cond.instanceMethod yX0_isClosed, Cond.selects RX0 yX0_isClosed yX0_isClosed, Cond.initialized RX0, Cond.code yX0_isClosed cX0_isClosed 1 (some .boolean), Cond.fieldLink RX0 29 "CartelWatch$Dossier" "closed" "Z", Cond.methodLink RX2 172 yX0_shut, Cond.instanceMethod yX0_shut, Cond.selects RX0 yX0_shut yX0_shut, Cond.code yX0_shut cX0_shut 1 none, Cond.methodLink RX2 175 yX0_one, Cond.instanceMethod yX0_one, Cond.selects RX0 yX0_one yX0_one, Cond.code yX0_one cX0_one 1 (some .int)]
def wsX2_close_r2 : List Cond := [Cond.fieldLink RX0 33 "CartelWatch$Dossier" "one" "I", Cond.methodLink RX2 178 yX2_settle, Cond.instanceMethod yX2_settle, Cond.selects RX2 yX2_settle yX2_settle, Cond.code yX2_settle cX2_settle 5 (some .int), Cond.fieldLink RX2 28 "CartelWatch" "paidToHarmed" "[I", Cond.methodLink RX2 204 Lib.Math.min.name, Cond.static Lib.Math.min.name, Cond.initialized "java/lang/Math", Cond.code Lib.Math.min.name Lib.Math.min.code 2 (some .int), Cond.methodLink RX2 52 yX2_isBidder, Cond.static yX2_isBidder, Cond.code yX2_isBidder cX2_isBidder 1 (some .boolean), Cond.methodLink RX2 117 yX2_turnoverOf, Cond.instanceMethod yX2_turnoverOf, Cond.selects RX2 yX2_turnoverOf yX2_turnoverOf, Cond.code yX2_turnoverOf cX2_turnoverOf 7 (some .int), Cond.fieldLink RX2 11 "CartelWatch" "tenders" "[LCartelWatch$Tender;", Cond.methodLink RX2 192 yX1_incomeOf, Cond.instanceMethod yX1_incomeOf, Cond.selects RX1 yX1_incomeOf yX1_incomeOf, Cond.initialized RX1, Cond.code yX1_incomeOf cX1_incomeOf 2 (some .int), Cond.fieldLink RX1 23 "CartelWatch$Tender" "winner" "I"]
def wsX2_close_r3 : List Cond := [Cond.fieldLink RX1 30 "CartelWatch$Tender" "partnersPart" "I", Cond.fieldLink RX1 27 "CartelWatch$Tender" "partner" "I", Cond.methodLink RX1 40 yX1_sumOf, Cond.instanceMethod yX1_sumOf, Cond.selects RX1 yX1_sumOf yX1_sumOf, Cond.code yX1_sumOf cX1_sumOf 2 (some .int), Cond.fieldLink RX1 9 "CartelWatch$Tender" "sums" "[I", Cond.methodLink RX2 201 yX0_lenientFine, Cond.instanceMethod yX0_lenientFine, Cond.selects RX0 yX0_lenientFine yX0_lenientFine, Cond.code yX0_lenientFine cX0_lenientFine 4 (some .int), Cond.fieldLink RX0 15 "CartelWatch$Dossier" "newTellings" "[I", Cond.fieldLink RX0 26 "CartelWatch$Dossier" "first" "I", Cond.fieldLink RX0 22 "CartelWatch$Dossier" "matterCount" "I", Cond.methodLink RX2 209 yX0_impose, Cond.instanceMethod yX0_impose, Cond.selects RX0 yX0_impose yX0_impose, Cond.code yX0_impose cX0_impose 3 none, Cond.fieldLink RX0 19 "CartelWatch$Dossier" "fines" "[I", Cond.methodLink RX2 182 yX0_other, Cond.instanceMethod yX0_other, Cond.selects RX0 yX0_other yX0_other, Cond.code yX0_other cX0_other 1 (some .int), Cond.fieldLink RX0 36 "CartelWatch$Dossier" "other" "I"]
def wsX2_close : List Cond := .code yX2_close cX2_close 3 (some .int) :: ((wsX2_close_r1 ++ (wsX2_close_r2 ++ wsX2_close_r3)) ++ wsX20 ++ wsX00 ++ wsX10 ++ (vx_atS RX2 51 "java/lang/IndexOutOfBoundsException" ["java/lang/RuntimeException", "java/lang/Exception"]).filter goodWord ++ (vx_atS RX2 39 "java/lang/IllegalStateException" ["java/lang/RuntimeException", "java/lang/Exception"]).filter goodWord)
def wsX2_fine : List Cond := .code yX2_fine cX2_fine 4 (some .int) :: ([.classLink RX2 47 "java/lang/IndexOutOfBoundsException", .initialized "java/lang/IndexOutOfBoundsException", .classLink RX2 59 "java/lang/IllegalArgumentException", .initialized "java/lang/IllegalArgumentException", .methodLink RX2 146 yX2_dossierAt, .instanceMethod yX2_dossierAt, .selects RX2 yX2_dossierAt yX2_dossierAt, .initialized RX2, .code yX2_dossierAt cX2_dossierAt 2 (some (.object "CartelWatch$Dossier")), .fieldLink RX2 21 "CartelWatch" "dossiers" "[LCartelWatch$Dossier;", .methodLink RX2 157 yX0_isOf, .instanceMethod yX0_isOf, .selects RX0 yX0_isOf yX0_isOf, .initialized RX0, .code yX0_isOf cX0_isOf 2 (some .boolean), .fieldLink RX0 33 "CartelWatch$Dossier" "one" "I", .fieldLink RX0 36 "CartelWatch$Dossier" "other" "I", .methodLink RX2 185 yX0_fineOf, .instanceMethod yX0_fineOf, .selects RX0 yX0_fineOf yX0_fineOf, .code yX0_fineOf cX0_fineOf 2 (some .int), .fieldLink RX0 19 "CartelWatch$Dossier" "fines" "[I", .static yX2_isBidder, .code yX2_isBidder cX2_isBidder 1 (some .boolean)] ++ wsX20 ++ wsX00 ++ (vx_atS RX2 51 "java/lang/IndexOutOfBoundsException" ["java/lang/RuntimeException", "java/lang/Exception"]).filter goodWord ++ (vx_atS RX2 63 "java/lang/IllegalArgumentException" ["java/lang/RuntimeException", "java/lang/Exception"]).filter goodWord)
def wsX2_firstTeller : List Cond := .code yX2_firstTeller cX2_firstTeller 3 (some .int) :: ([.classLink RX2 47 "java/lang/IndexOutOfBoundsException", .initialized "java/lang/IndexOutOfBoundsException", .methodLink RX2 146 yX2_dossierAt, .instanceMethod yX2_dossierAt, .selects RX2 yX2_dossierAt yX2_dossierAt, .initialized RX2, .code yX2_dossierAt cX2_dossierAt 2 (some (.object "CartelWatch$Dossier")), .fieldLink RX2 21 "CartelWatch" "dossiers" "[LCartelWatch$Dossier;", .methodLink RX2 188 yX0_first, .instanceMethod yX0_first, .selects RX0 yX0_first yX0_first, .initialized RX0, .code yX0_first cX0_first 1 (some .int), .fieldLink RX0 26 "CartelWatch$Dossier" "first" "I"] ++ wsX20 ++ wsX00 ++ (vx_atS RX2 51 "java/lang/IndexOutOfBoundsException" ["java/lang/RuntimeException", "java/lang/Exception"]).filter goodWord)
def wsX3_init : List Cond := .code yX3_init cX3_init 1 none :: ([.methodLink RX3 1 objectInit, .instanceMethod objectInit, .code objectInit ⟨#[0xb1]⟩ 1 none, .arrayClass .int, .fieldLink RX3 7 "CartelWatchModel" "state" "[I", .fieldLink RX3 13 "CartelWatchModel" "winner" "[I", .fieldLink RX3 16 "CartelWatchModel" "passed" "[I", .fieldLink RX3 19 "CartelWatchModel" "part" "[I", .fieldLink RX3 22 "CartelWatchModel" "sum" "[I", .arrayClass .boolean, .fieldLink RX3 25 "CartelWatchModel" "gone" "[Z", .fieldLink RX3 29 "CartelWatchModel" "mark" "I", .fieldLink RX3 33 "CartelWatchModel" "one" "[I", .fieldLink RX3 36 "CartelWatchModel" "two" "[I", .fieldLink RX3 39 "CartelWatchModel" "matters" "[I", .fieldLink RX3 42 "CartelWatchModel" "told" "[I", .fieldLink RX3 45 "CartelWatchModel" "first" "[I", .fieldLink RX3 48 "CartelWatchModel" "news" "[I", .fieldLink RX3 51 "CartelWatchModel" "fines" "[I", .fieldLink RX3 54 "CartelWatchModel" "closed" "[Z", .fieldLink RX3 57 "CartelWatchModel" "paid" "[I"] ++ wsX30)
def wsX3_thrown : List Cond := .code yX3_thrown cX3_thrown 1 (some .int) :: ([.fieldLink RX3 60 "CartelWatchModel" "thrown" "I"] ++ wsX30)
def wsX3_fails : List Cond := .code yX3_fails cX3_fails 2 (some .int) :: ([.fieldLink RX3 60 "CartelWatchModel" "thrown" "I"] ++ wsX30)
def wsX3_in : List Cond := .code yX3_in cX3_in 3 (some .boolean) :: ([])
def wsX3_isBidder : List Cond := .code yX3_isBidder cX3_isBidder 1 (some .boolean) :: ([.methodLink RX3 63 yX3_in, .static yX3_in, .initialized RX3, .code yX3_in cX3_in 3 (some .boolean)])
def wsX3_isTender : List Cond := .code yX3_isTender cX3_isTender 2 (some .boolean) :: ([.fieldLink RX3 67 "CartelWatchModel" "tenders" "I", .methodLink RX3 63 yX3_in, .static yX3_in, .initialized RX3, .code yX3_in cX3_in 3 (some .boolean)] ++ wsX30)
def wsX3_isFile : List Cond := .code yX3_isFile cX3_isFile 2 (some .boolean) :: ([.fieldLink RX3 70 "CartelWatchModel" "files" "I", .methodLink RX3 63 yX3_in, .static yX3_in, .initialized RX3, .code yX3_in cX3_in 3 (some .boolean)] ++ wsX30)
def wsX3_isPair : List Cond := .code yX3_isPair cX3_isPair 2 (some .boolean) :: ([.methodLink RX3 73 yX3_isBidder, .static yX3_isBidder, .initialized RX3, .code yX3_isBidder cX3_isBidder 1 (some .boolean), .methodLink RX3 63 yX3_in, .static yX3_in, .code yX3_in cX3_in 3 (some .boolean)])
def wsX3_open : List Cond := .code yX3_open cX3_open 1 (some .int) :: ([.fieldLink RX3 60 "CartelWatchModel" "thrown" "I", .fieldLink RX3 67 "CartelWatchModel" "tenders" "I", .fieldLink RX3 16 "CartelWatchModel" "passed" "[I", .methodLink RX3 77 yX3_fails, .instanceMethod yX3_fails, .selects RX3 yX3_fails yX3_fails, .initialized RX3, .code yX3_fails cX3_fails 2 (some .int)] ++ wsX30)
def wsX3_stands : List Cond := .code yX3_stands cX3_stands 3 (some .boolean) :: ([.fieldLink RX3 22 "CartelWatchModel" "sum" "[I", .fieldLink RX3 25 "CartelWatchModel" "gone" "[Z"] ++ wsX30)
def wsX3_countBids : List Cond := .code yX3_countBids cX3_countBids 4 (some .int) :: ([.methodLink RX3 81 yX3_stands, .instanceMethod yX3_stands, .selects RX3 yX3_stands yX3_stands, .initialized RX3, .code yX3_stands cX3_stands 3 (some .boolean), .fieldLink RX3 22 "CartelWatchModel" "sum" "[I", .fieldLink RX3 25 "CartelWatchModel" "gone" "[Z"] ++ wsX30)
def wsX3_bid_r1 : List Cond := [Cond.fieldLink RX3 60 "CartelWatchModel" "thrown" "I", Cond.constant RX3 88 (100000), Cond.fieldLink RX3 7 "CartelWatchModel" "state" "[I", Cond.fieldLink RX3 22 "CartelWatchModel" "sum" "[I", Cond.methodLink RX3 85 yX3_isTender, Cond.instanceMethod yX3_isTender, Cond.selects RX3 yX3_isTender yX3_isTender, Cond.initialized RX3, Cond.code yX3_isTender cX3_isTender 2 (some .boolean), Cond.fieldLink RX3 67 "CartelWatchModel" "tenders" "I", Cond.methodLink RX3 63 yX3_in, Cond.static yX3_in, Cond.code yX3_in cX3_in 3 (some .boolean), Cond.methodLink RX3 77 yX3_fails, Cond.instanceMethod yX3_fails, Cond.selects RX3 yX3_fails yX3_fails, Cond.code yX3_fails cX3_fails 2 (some .int), Cond.methodLink RX3 73 yX3_isBidder, Cond.static yX3_isBidder, Cond.code yX3_isBidder cX3_isBidder 1 (some .boolean), Cond.methodLink RX3 89 yX3_countBids, Cond.instanceMethod yX3_countBids, Cond.selects RX3 yX3_countBids yX3_countBids, Cond.code yX3_countBids cX3_countBids 4 (some .int)]
def wsX3_bid_r2 : List Cond := [Cond.methodLink RX3 81 yX3_stands, Cond.instanceMethod yX3_stands, Cond.selects RX3 yX3_stands yX3_stands, Cond.code yX3_stands cX3_stands 3 (some .boolean), Cond.fieldLink RX3 25 "CartelWatchModel" "gone" "[Z"]
def wsX3_bid : List Cond := .code yX3_bid cX3_bid 4 (some .int) :: ((wsX3_bid_r1 ++ wsX3_bid_r2) ++ wsX30)
def wsX3_withdraw : List Cond := .code yX3_withdraw cX3_withdraw 3 (some .int) :: ([.fieldLink RX3 60 "CartelWatchModel" "thrown" "I", .fieldLink RX3 7 "CartelWatchModel" "state" "[I", .fieldLink RX3 25 "CartelWatchModel" "gone" "[Z", .fieldLink RX3 22 "CartelWatchModel" "sum" "[I", .methodLink RX3 85 yX3_isTender, .instanceMethod yX3_isTender, .selects RX3 yX3_isTender yX3_isTender, .initialized RX3, .code yX3_isTender cX3_isTender 2 (some .boolean), .fieldLink RX3 67 "CartelWatchModel" "tenders" "I", .methodLink RX3 63 yX3_in, .static yX3_in, .code yX3_in cX3_in 3 (some .boolean), .methodLink RX3 77 yX3_fails, .instanceMethod yX3_fails, .selects RX3 yX3_fails yX3_fails, .code yX3_fails cX3_fails 2 (some .int), .methodLink RX3 73 yX3_isBidder, .static yX3_isBidder, .code yX3_isBidder cX3_isBidder 1 (some .boolean), .methodLink RX3 81 yX3_stands, .instanceMethod yX3_stands, .selects RX3 yX3_stands yX3_stands, .code yX3_stands cX3_stands 3 (some .boolean)] ++ wsX30)
def wsX3_award : List Cond := .code yX3_award cX3_award 5 (some .int) :: ([.fieldLink RX3 60 "CartelWatchModel" "thrown" "I", .fieldLink RX3 7 "CartelWatchModel" "state" "[I", .fieldLink RX3 22 "CartelWatchModel" "sum" "[I", .fieldLink RX3 13 "CartelWatchModel" "winner" "[I", .methodLink RX3 85 yX3_isTender, .instanceMethod yX3_isTender, .selects RX3 yX3_isTender yX3_isTender, .initialized RX3, .code yX3_isTender cX3_isTender 2 (some .boolean), .fieldLink RX3 67 "CartelWatchModel" "tenders" "I", .methodLink RX3 63 yX3_in, .static yX3_in, .code yX3_in cX3_in 3 (some .boolean), .methodLink RX3 77 yX3_fails, .instanceMethod yX3_fails, .selects RX3 yX3_fails yX3_fails, .code yX3_fails cX3_fails 2 (some .int), .methodLink RX3 81 yX3_stands, .instanceMethod yX3_stands, .selects RX3 yX3_stands yX3_stands, .code yX3_stands cX3_stands 3 (some .boolean), .fieldLink RX3 25 "CartelWatchModel" "gone" "[Z"] ++ wsX30)
def wsX3_price : List Cond := .code yX3_price cX3_price 2 (some .int) :: ([.fieldLink RX3 22 "CartelWatchModel" "sum" "[I", .fieldLink RX3 13 "CartelWatchModel" "winner" "[I"] ++ wsX30)
def wsX3_passOn_r1 : List Cond := [Cond.fieldLink RX3 60 "CartelWatchModel" "thrown" "I", Cond.fieldLink RX3 7 "CartelWatchModel" "state" "[I", Cond.fieldLink RX3 16 "CartelWatchModel" "passed" "[I", Cond.fieldLink RX3 13 "CartelWatchModel" "winner" "[I", Cond.fieldLink RX3 19 "CartelWatchModel" "part" "[I", Cond.methodLink RX3 85 yX3_isTender, Cond.instanceMethod yX3_isTender, Cond.selects RX3 yX3_isTender yX3_isTender, Cond.initialized RX3, Cond.code yX3_isTender cX3_isTender 2 (some .boolean), Cond.fieldLink RX3 67 "CartelWatchModel" "tenders" "I", Cond.methodLink RX3 63 yX3_in, Cond.static yX3_in, Cond.code yX3_in cX3_in 3 (some .boolean), Cond.methodLink RX3 77 yX3_fails, Cond.instanceMethod yX3_fails, Cond.selects RX3 yX3_fails yX3_fails, Cond.code yX3_fails cX3_fails 2 (some .int), Cond.methodLink RX3 73 yX3_isBidder, Cond.static yX3_isBidder, Cond.code yX3_isBidder cX3_isBidder 1 (some .boolean), Cond.methodLink RX3 92 yX3_price, Cond.instanceMethod yX3_price, Cond.selects RX3 yX3_price yX3_price]
def wsX3_passOn_r2 : List Cond := [Cond.code yX3_price cX3_price 2 (some .int), Cond.fieldLink RX3 22 "CartelWatchModel" "sum" "[I"]
def wsX3_passOn : List Cond := .code yX3_passOn cX3_passOn 4 (some .int) :: ((wsX3_passOn_r1 ++ wsX3_passOn_r2) ++ wsX30)
def wsX3_turnoverOf : List Cond := .code yX3_turnoverOf cX3_turnoverOf 4 (some .int) :: ([.fieldLink RX3 67 "CartelWatchModel" "tenders" "I", .fieldLink RX3 7 "CartelWatchModel" "state" "[I", .fieldLink RX3 13 "CartelWatchModel" "winner" "[I", .fieldLink RX3 19 "CartelWatchModel" "part" "[I", .fieldLink RX3 16 "CartelWatchModel" "passed" "[I", .methodLink RX3 92 yX3_price, .instanceMethod yX3_price, .selects RX3 yX3_price yX3_price, .initialized RX3, .code yX3_price cX3_price 2 (some .int), .fieldLink RX3 22 "CartelWatchModel" "sum" "[I"] ++ wsX30)
def wsX3_turnover_r1 : List Cond := [Cond.fieldLink RX3 60 "CartelWatchModel" "thrown" "I", Cond.methodLink RX3 73 yX3_isBidder, Cond.static yX3_isBidder, Cond.initialized RX3, Cond.code yX3_isBidder cX3_isBidder 1 (some .boolean), Cond.methodLink RX3 63 yX3_in, Cond.static yX3_in, Cond.code yX3_in cX3_in 3 (some .boolean), Cond.methodLink RX3 95 yX3_turnoverOf, Cond.instanceMethod yX3_turnoverOf, Cond.selects RX3 yX3_turnoverOf yX3_turnoverOf, Cond.code yX3_turnoverOf cX3_turnoverOf 4 (some .int), Cond.fieldLink RX3 67 "CartelWatchModel" "tenders" "I", Cond.fieldLink RX3 7 "CartelWatchModel" "state" "[I", Cond.fieldLink RX3 13 "CartelWatchModel" "winner" "[I", Cond.fieldLink RX3 19 "CartelWatchModel" "part" "[I", Cond.fieldLink RX3 16 "CartelWatchModel" "passed" "[I", Cond.methodLink RX3 92 yX3_price, Cond.instanceMethod yX3_price, Cond.selects RX3 yX3_price yX3_price, Cond.code yX3_price cX3_price 2 (some .int), Cond.fieldLink RX3 22 "CartelWatchModel" "sum" "[I", Cond.methodLink RX3 77 yX3_fails, Cond.instanceMethod yX3_fails]
def wsX3_turnover_r2 : List Cond := [Cond.selects RX3 yX3_fails yX3_fails, Cond.code yX3_fails cX3_fails 2 (some .int)]
def wsX3_turnover : List Cond := .code yX3_turnover cX3_turnover 2 (some .int) :: ((wsX3_turnover_r1 ++ wsX3_turnover_r2) ++ wsX30)
def wsX3_won : List Cond := .code yX3_won cX3_won 4 (some .int) :: ([.fieldLink RX3 60 "CartelWatchModel" "thrown" "I", .fieldLink RX3 67 "CartelWatchModel" "tenders" "I", .fieldLink RX3 7 "CartelWatchModel" "state" "[I", .fieldLink RX3 13 "CartelWatchModel" "winner" "[I", .methodLink RX3 73 yX3_isBidder, .static yX3_isBidder, .initialized RX3, .code yX3_isBidder cX3_isBidder 1 (some .boolean), .methodLink RX3 63 yX3_in, .static yX3_in, .code yX3_in cX3_in 3 (some .boolean), .methodLink RX3 77 yX3_fails, .instanceMethod yX3_fails, .selects RX3 yX3_fails yX3_fails, .code yX3_fails cX3_fails 2 (some .int)] ++ wsX30)
def wsX3_isTurn : List Cond := .code yX3_isTurn cX3_isTurn 6 (some .boolean) :: ([.fieldLink RX3 7 "CartelWatchModel" "state" "[I", .fieldLink RX3 13 "CartelWatchModel" "winner" "[I", .methodLink RX3 81 yX3_stands, .instanceMethod yX3_stands, .selects RX3 yX3_stands yX3_stands, .initialized RX3, .code yX3_stands cX3_stands 3 (some .boolean), .fieldLink RX3 22 "CartelWatchModel" "sum" "[I", .fieldLink RX3 25 "CartelWatchModel" "gone" "[Z"] ++ wsX30)
def wsX3_signOf : List Cond := .code yX3_signOf cX3_signOf 10 (some .int) :: ([.fieldLink RX3 7 "CartelWatchModel" "state" "[I", .fieldLink RX3 13 "CartelWatchModel" "winner" "[I", .fieldLink RX3 22 "CartelWatchModel" "sum" "[I", .fieldLink RX3 16 "CartelWatchModel" "passed" "[I", .fieldLink RX3 25 "CartelWatchModel" "gone" "[Z", .methodLink RX3 92 yX3_price, .instanceMethod yX3_price, .selects RX3 yX3_price yX3_price, .initialized RX3, .code yX3_price cX3_price 2 (some .int), .methodLink RX3 81 yX3_stands, .instanceMethod yX3_stands, .selects RX3 yX3_stands yX3_stands, .code yX3_stands cX3_stands 3 (some .boolean), .methodLink RX3 98 yX3_isTurn, .instanceMethod yX3_isTurn, .selects RX3 yX3_isTurn yX3_isTurn, .code yX3_isTurn cX3_isTurn 6 (some .boolean)] ++ wsX30)
def wsX3_suspicionOf : List Cond := .code yX3_suspicionOf cX3_suspicionOf 5 (some .int) :: ([.fieldLink RX3 67 "CartelWatchModel" "tenders" "I", .methodLink RX3 101 yX3_signOf, .instanceMethod yX3_signOf, .selects RX3 yX3_signOf yX3_signOf, .initialized RX3, .code yX3_signOf cX3_signOf 10 (some .int), .fieldLink RX3 7 "CartelWatchModel" "state" "[I", .fieldLink RX3 13 "CartelWatchModel" "winner" "[I", .fieldLink RX3 22 "CartelWatchModel" "sum" "[I", .fieldLink RX3 16 "CartelWatchModel" "passed" "[I", .fieldLink RX3 25 "CartelWatchModel" "gone" "[Z", .methodLink RX3 92 yX3_price, .instanceMethod yX3_price, .selects RX3 yX3_price yX3_price, .code yX3_price cX3_price 2 (some .int), .methodLink RX3 81 yX3_stands, .instanceMethod yX3_stands, .selects RX3 yX3_stands yX3_stands, .code yX3_stands cX3_stands 3 (some .boolean), .methodLink RX3 98 yX3_isTurn, .instanceMethod yX3_isTurn, .selects RX3 yX3_isTurn yX3_isTurn, .code yX3_isTurn cX3_isTurn 6 (some .boolean)] ++ wsX30)
def wsX3_suspicion_r1 : List Cond := [Cond.fieldLink RX3 60 "CartelWatchModel" "thrown" "I", Cond.methodLink RX3 105 yX3_isPair, Cond.static yX3_isPair, Cond.initialized RX3, Cond.code yX3_isPair cX3_isPair 2 (some .boolean), Cond.methodLink RX3 73 yX3_isBidder, Cond.static yX3_isBidder, Cond.code yX3_isBidder cX3_isBidder 1 (some .boolean), Cond.methodLink RX3 63 yX3_in, Cond.static yX3_in, Cond.code yX3_in cX3_in 3 (some .boolean), Cond.methodLink RX3 108 yX3_suspicionOf, Cond.instanceMethod yX3_suspicionOf, Cond.selects RX3 yX3_suspicionOf yX3_suspicionOf, Cond.code yX3_suspicionOf cX3_suspicionOf 5 (some .int), Cond.fieldLink RX3 67 "CartelWatchModel" "tenders" "I", Cond.methodLink RX3 101 yX3_signOf, Cond.instanceMethod yX3_signOf, Cond.selects RX3 yX3_signOf yX3_signOf, Cond.code yX3_signOf cX3_signOf 10 (some .int), Cond.fieldLink RX3 7 "CartelWatchModel" "state" "[I", Cond.fieldLink RX3 13 "CartelWatchModel" "winner" "[I", Cond.fieldLink RX3 22 "CartelWatchModel" "sum" "[I", Cond.fieldLink RX3 16 "CartelWatchModel" "passed" "[I"]
def wsX3_suspicion_r2 : List Cond := [Cond.fieldLink RX3 25 "CartelWatchModel" "gone" "[Z", Cond.methodLink RX3 92 yX3_price, Cond.instanceMethod yX3_price, Cond.selects RX3 yX3_price yX3_price, Cond.code yX3_price cX3_price 2 (some .int), Cond.methodLink RX3 81 yX3_stands, Cond.instanceMethod yX3_stands, Cond.selects RX3 yX3_stands yX3_stands, Cond.code yX3_stands cX3_stands 3 (some .boolean), Cond.methodLink RX3 98 yX3_isTurn, Cond.instanceMethod yX3_isTurn, Cond.selects RX3 yX3_isTurn yX3_isTurn, Cond.code yX3_isTurn cX3_isTurn 6 (some .boolean), Cond.methodLink RX3 77 yX3_fails, Cond.instanceMethod yX3_fails, Cond.selects RX3 yX3_fails yX3_fails, Cond.code yX3_fails cX3_fails 2 (some .int)]
def wsX3_suspicion : List Cond := .code yX3_suspicion cX3_suspicion 3 (some .int) :: ((wsX3_suspicion_r1 ++ wsX3_suspicion_r2) ++ wsX30)
def wsX3_sign_r1 : List Cond := [Cond.fieldLink RX3 60 "CartelWatchModel" "thrown" "I", Cond.methodLink RX3 85 yX3_isTender, Cond.instanceMethod yX3_isTender, Cond.selects RX3 yX3_isTender yX3_isTender, Cond.initialized RX3, Cond.code yX3_isTender cX3_isTender 2 (some .boolean), Cond.fieldLink RX3 67 "CartelWatchModel" "tenders" "I", Cond.methodLink RX3 63 yX3_in, Cond.static yX3_in, Cond.code yX3_in cX3_in 3 (some .boolean), Cond.methodLink RX3 77 yX3_fails, Cond.instanceMethod yX3_fails, Cond.selects RX3 yX3_fails yX3_fails, Cond.code yX3_fails cX3_fails 2 (some .int), Cond.methodLink RX3 105 yX3_isPair, Cond.static yX3_isPair, Cond.code yX3_isPair cX3_isPair 2 (some .boolean), Cond.methodLink RX3 73 yX3_isBidder, Cond.static yX3_isBidder, Cond.code yX3_isBidder cX3_isBidder 1 (some .boolean), Cond.methodLink RX3 101 yX3_signOf, Cond.instanceMethod yX3_signOf, Cond.selects RX3 yX3_signOf yX3_signOf, Cond.code yX3_signOf cX3_signOf 10 (some .int)]
def wsX3_sign_r2 : List Cond := [Cond.fieldLink RX3 7 "CartelWatchModel" "state" "[I", Cond.fieldLink RX3 13 "CartelWatchModel" "winner" "[I", Cond.fieldLink RX3 22 "CartelWatchModel" "sum" "[I", Cond.fieldLink RX3 16 "CartelWatchModel" "passed" "[I", Cond.fieldLink RX3 25 "CartelWatchModel" "gone" "[Z", Cond.methodLink RX3 92 yX3_price, Cond.instanceMethod yX3_price, Cond.selects RX3 yX3_price yX3_price, Cond.code yX3_price cX3_price 2 (some .int), Cond.methodLink RX3 81 yX3_stands, Cond.instanceMethod yX3_stands, Cond.selects RX3 yX3_stands yX3_stands, Cond.code yX3_stands cX3_stands 3 (some .boolean), Cond.methodLink RX3 98 yX3_isTurn, Cond.instanceMethod yX3_isTurn, Cond.selects RX3 yX3_isTurn yX3_isTurn, Cond.code yX3_isTurn cX3_isTurn 6 (some .boolean)]
def wsX3_sign : List Cond := .code yX3_sign cX3_sign 4 (some .int) :: ((wsX3_sign_r1 ++ wsX3_sign_r2) ++ wsX30)
def wsX3_setMark : List Cond := .code yX3_setMark cX3_setMark 3 (some .int) :: ([.fieldLink RX3 60 "CartelWatchModel" "thrown" "I", .fieldLink RX3 29 "CartelWatchModel" "mark" "I", .methodLink RX3 63 yX3_in, .static yX3_in, .initialized RX3, .code yX3_in cX3_in 3 (some .boolean), .methodLink RX3 77 yX3_fails, .instanceMethod yX3_fails, .selects RX3 yX3_fails yX3_fails, .code yX3_fails cX3_fails 2 (some .int)] ++ wsX30)
def wsX3_worst_r1 : List Cond := [Cond.fieldLink RX3 60 "CartelWatchModel" "thrown" "I", Cond.methodLink RX3 108 yX3_suspicionOf, Cond.instanceMethod yX3_suspicionOf, Cond.selects RX3 yX3_suspicionOf yX3_suspicionOf, Cond.initialized RX3, Cond.code yX3_suspicionOf cX3_suspicionOf 5 (some .int), Cond.fieldLink RX3 67 "CartelWatchModel" "tenders" "I", Cond.methodLink RX3 101 yX3_signOf, Cond.instanceMethod yX3_signOf, Cond.selects RX3 yX3_signOf yX3_signOf, Cond.code yX3_signOf cX3_signOf 10 (some .int), Cond.fieldLink RX3 7 "CartelWatchModel" "state" "[I", Cond.fieldLink RX3 13 "CartelWatchModel" "winner" "[I", Cond.fieldLink RX3 22 "CartelWatchModel" "sum" "[I", Cond.fieldLink RX3 16 "CartelWatchModel" "passed" "[I", Cond.fieldLink RX3 25 "CartelWatchModel" "gone" "[Z", Cond.methodLink RX3 92 yX3_price, Cond.instanceMethod yX3_price, Cond.selects RX3 yX3_price yX3_price, Cond.code yX3_price cX3_price 2 (some .int), Cond.methodLink RX3 81 yX3_stands, Cond.instanceMethod yX3_stands, Cond.selects RX3 yX3_stands yX3_stands, Cond.code yX3_stands cX3_stands 3 (some .boolean)]
def wsX3_worst_r2 : List Cond := [Cond.methodLink RX3 98 yX3_isTurn, Cond.instanceMethod yX3_isTurn, Cond.selects RX3 yX3_isTurn yX3_isTurn, Cond.code yX3_isTurn cX3_isTurn 6 (some .boolean)]
def wsX3_worst : List Cond := .code yX3_worst cX3_worst 6 (some .int) :: ((wsX3_worst_r1 ++ wsX3_worst_r2) ++ wsX30)
def wsX3_file_r1 : List Cond := [Cond.fieldLink RX3 60 "CartelWatchModel" "thrown" "I", Cond.fieldLink RX3 70 "CartelWatchModel" "files" "I", Cond.fieldLink RX3 33 "CartelWatchModel" "one" "[I", Cond.fieldLink RX3 36 "CartelWatchModel" "two" "[I", Cond.fieldLink RX3 29 "CartelWatchModel" "mark" "I", Cond.fieldLink RX3 45 "CartelWatchModel" "first" "[I", Cond.fieldLink RX3 67 "CartelWatchModel" "tenders" "I", Cond.fieldLink RX3 39 "CartelWatchModel" "matters" "[I", Cond.methodLink RX3 105 yX3_isPair, Cond.static yX3_isPair, Cond.initialized RX3, Cond.code yX3_isPair cX3_isPair 2 (some .boolean), Cond.methodLink RX3 73 yX3_isBidder, Cond.static yX3_isBidder, Cond.code yX3_isBidder cX3_isBidder 1 (some .boolean), Cond.methodLink RX3 63 yX3_in, Cond.static yX3_in, Cond.code yX3_in cX3_in 3 (some .boolean), Cond.methodLink RX3 77 yX3_fails, Cond.instanceMethod yX3_fails, Cond.selects RX3 yX3_fails yX3_fails, Cond.code yX3_fails cX3_fails 2 (some .int), Cond.methodLink RX3 108 yX3_suspicionOf, Cond.instanceMethod yX3_suspicionOf]
def wsX3_file_r2 : List Cond := [Cond.selects RX3 yX3_suspicionOf yX3_suspicionOf, Cond.code yX3_suspicionOf cX3_suspicionOf 5 (some .int), Cond.methodLink RX3 101 yX3_signOf, Cond.instanceMethod yX3_signOf, Cond.selects RX3 yX3_signOf yX3_signOf, Cond.code yX3_signOf cX3_signOf 10 (some .int), Cond.fieldLink RX3 7 "CartelWatchModel" "state" "[I", Cond.fieldLink RX3 13 "CartelWatchModel" "winner" "[I", Cond.fieldLink RX3 22 "CartelWatchModel" "sum" "[I", Cond.fieldLink RX3 16 "CartelWatchModel" "passed" "[I", Cond.fieldLink RX3 25 "CartelWatchModel" "gone" "[Z", Cond.methodLink RX3 92 yX3_price, Cond.instanceMethod yX3_price, Cond.selects RX3 yX3_price yX3_price, Cond.code yX3_price cX3_price 2 (some .int), Cond.methodLink RX3 81 yX3_stands, Cond.instanceMethod yX3_stands, Cond.selects RX3 yX3_stands yX3_stands, Cond.code yX3_stands cX3_stands 3 (some .boolean), Cond.methodLink RX3 98 yX3_isTurn, Cond.instanceMethod yX3_isTurn, Cond.selects RX3 yX3_isTurn yX3_isTurn, Cond.code yX3_isTurn cX3_isTurn 6 (some .boolean)]
def wsX3_file : List Cond := .code yX3_file cX3_file 7 (some .int) :: ((wsX3_file_r1 ++ wsX3_file_r2) ++ wsX30)
def wsX3_count : List Cond := .code yX3_count cX3_count 3 (some .int) :: ([])
def wsX3_matters : List Cond := .code yX3_matters cX3_matters 2 (some .int) :: ([.fieldLink RX3 60 "CartelWatchModel" "thrown" "I", .fieldLink RX3 39 "CartelWatchModel" "matters" "[I", .methodLink RX3 112 yX3_isFile, .instanceMethod yX3_isFile, .selects RX3 yX3_isFile yX3_isFile, .initialized RX3, .code yX3_isFile cX3_isFile 2 (some .boolean), .fieldLink RX3 70 "CartelWatchModel" "files" "I", .methodLink RX3 63 yX3_in, .static yX3_in, .code yX3_in cX3_in 3 (some .boolean), .methodLink RX3 115 yX3_count, .static yX3_count, .code yX3_count cX3_count 3 (some .int), .methodLink RX3 77 yX3_fails, .instanceMethod yX3_fails, .selects RX3 yX3_fails yX3_fails, .code yX3_fails cX3_fails 2 (some .int)] ++ wsX30)
def wsX3_isOf : List Cond := .code yX3_isOf cX3_isOf 3 (some .boolean) :: ([.fieldLink RX3 33 "CartelWatchModel" "one" "[I", .fieldLink RX3 36 "CartelWatchModel" "two" "[I"] ++ wsX30)
def wsX3_tell_r1 : List Cond := [Cond.fieldLink RX3 54 "CartelWatchModel" "closed" "[Z", Cond.fieldLink RX3 60 "CartelWatchModel" "thrown" "I", Cond.fieldLink RX3 39 "CartelWatchModel" "matters" "[I", Cond.fieldLink RX3 42 "CartelWatchModel" "told" "[I", Cond.fieldLink RX3 45 "CartelWatchModel" "first" "[I", Cond.fieldLink RX3 48 "CartelWatchModel" "news" "[I", Cond.fieldLink RX3 33 "CartelWatchModel" "one" "[I", Cond.methodLink RX3 112 yX3_isFile, Cond.instanceMethod yX3_isFile, Cond.selects RX3 yX3_isFile yX3_isFile, Cond.initialized RX3, Cond.code yX3_isFile cX3_isFile 2 (some .boolean), Cond.fieldLink RX3 70 "CartelWatchModel" "files" "I", Cond.methodLink RX3 63 yX3_in, Cond.static yX3_in, Cond.code yX3_in cX3_in 3 (some .boolean), Cond.methodLink RX3 85 yX3_isTender, Cond.instanceMethod yX3_isTender, Cond.selects RX3 yX3_isTender yX3_isTender, Cond.code yX3_isTender cX3_isTender 2 (some .boolean), Cond.fieldLink RX3 67 "CartelWatchModel" "tenders" "I", Cond.methodLink RX3 118 yX3_isOf, Cond.instanceMethod yX3_isOf, Cond.selects RX3 yX3_isOf yX3_isOf]
def wsX3_tell_r2 : List Cond := [Cond.code yX3_isOf cX3_isOf 3 (some .boolean), Cond.fieldLink RX3 36 "CartelWatchModel" "two" "[I"]
def wsX3_tell : List Cond := .code yX3_tell cX3_tell 5 (some .boolean) :: ((wsX3_tell_r1 ++ wsX3_tell_r2) ++ wsX30)
def wsX3_compensate : List Cond := .code yX3_compensate cX3_compensate 3 (some .int) :: ([.fieldLink RX3 60 "CartelWatchModel" "thrown" "I", .constant RX3 88 (100000), .fieldLink RX3 57 "CartelWatchModel" "paid" "[I", .methodLink RX3 73 yX3_isBidder, .static yX3_isBidder, .initialized RX3, .code yX3_isBidder cX3_isBidder 1 (some .boolean), .methodLink RX3 63 yX3_in, .static yX3_in, .code yX3_in cX3_in 3 (some .boolean), .methodLink RX3 77 yX3_fails, .instanceMethod yX3_fails, .selects RX3 yX3_fails yX3_fails, .code yX3_fails cX3_fails 2 (some .int)] ++ wsX30)
def wsX3_fineFor : List Cond := .code yX3_fineFor cX3_fineFor 7 (some .int) :: ([.fieldLink RX3 45 "CartelWatchModel" "first" "[I", .fieldLink RX3 39 "CartelWatchModel" "matters" "[I", .fieldLink RX3 57 "CartelWatchModel" "paid" "[I", .methodLink RX3 95 yX3_turnoverOf, .instanceMethod yX3_turnoverOf, .selects RX3 yX3_turnoverOf yX3_turnoverOf, .initialized RX3, .code yX3_turnoverOf cX3_turnoverOf 4 (some .int), .fieldLink RX3 67 "CartelWatchModel" "tenders" "I", .fieldLink RX3 7 "CartelWatchModel" "state" "[I", .fieldLink RX3 13 "CartelWatchModel" "winner" "[I", .fieldLink RX3 19 "CartelWatchModel" "part" "[I", .fieldLink RX3 16 "CartelWatchModel" "passed" "[I", .methodLink RX3 92 yX3_price, .instanceMethod yX3_price, .selects RX3 yX3_price yX3_price, .code yX3_price cX3_price 2 (some .int), .fieldLink RX3 22 "CartelWatchModel" "sum" "[I", .methodLink RX3 115 yX3_count, .static yX3_count, .code yX3_count cX3_count 3 (some .int)] ++ wsX30)
def wsX3_close_r1 : List Cond := [Cond.fieldLink RX3 60 "CartelWatchModel" "thrown" "I", Cond.fieldLink RX3 54 "CartelWatchModel" "closed" "[Z", Cond.fieldLink RX3 51 "CartelWatchModel" "fines" "[I", Cond.fieldLink RX3 33 "CartelWatchModel" "one" "[I", Cond.fieldLink RX3 48 "CartelWatchModel" "news" "[I", Cond.fieldLink RX3 36 "CartelWatchModel" "two" "[I", Cond.methodLink RX3 112 yX3_isFile, Cond.instanceMethod yX3_isFile, Cond.selects RX3 yX3_isFile yX3_isFile, Cond.initialized RX3, Cond.code yX3_isFile cX3_isFile 2 (some .boolean), Cond.fieldLink RX3 70 "CartelWatchModel" "files" "I", Cond.methodLink RX3 63 yX3_in, Cond.static yX3_in, Cond.code yX3_in cX3_in 3 (some .boolean), Cond.methodLink RX3 77 yX3_fails, Cond.instanceMethod yX3_fails, Cond.selects RX3 yX3_fails yX3_fails, Cond.code yX3_fails cX3_fails 2 (some .int), Cond.methodLink RX3 121 yX3_fineFor, Cond.instanceMethod yX3_fineFor, Cond.selects RX3 yX3_fineFor yX3_fineFor, Cond.code yX3_fineFor cX3_fineFor 7 (some .int), Cond.fieldLink RX3 45 "CartelWatchModel" "first" "[I"]
def wsX3_close_r2 : List Cond := [Cond.fieldLink RX3 39 "CartelWatchModel" "matters" "[I", Cond.fieldLink RX3 57 "CartelWatchModel" "paid" "[I", Cond.methodLink RX3 95 yX3_turnoverOf, Cond.instanceMethod yX3_turnoverOf, Cond.selects RX3 yX3_turnoverOf yX3_turnoverOf, Cond.code yX3_turnoverOf cX3_turnoverOf 4 (some .int), Cond.fieldLink RX3 67 "CartelWatchModel" "tenders" "I", Cond.fieldLink RX3 7 "CartelWatchModel" "state" "[I", Cond.fieldLink RX3 13 "CartelWatchModel" "winner" "[I", Cond.fieldLink RX3 19 "CartelWatchModel" "part" "[I", Cond.fieldLink RX3 16 "CartelWatchModel" "passed" "[I", Cond.methodLink RX3 92 yX3_price, Cond.instanceMethod yX3_price, Cond.selects RX3 yX3_price yX3_price, Cond.code yX3_price cX3_price 2 (some .int), Cond.fieldLink RX3 22 "CartelWatchModel" "sum" "[I", Cond.methodLink RX3 115 yX3_count, Cond.static yX3_count, Cond.code yX3_count cX3_count 3 (some .int)]
def wsX3_close : List Cond := .code yX3_close cX3_close 2 (some .int) :: ((wsX3_close_r1 ++ wsX3_close_r2) ++ wsX30)
def wsX3_fine : List Cond := .code yX3_fine cX3_fine 3 (some .int) :: ([.fieldLink RX3 60 "CartelWatchModel" "thrown" "I", .fieldLink RX3 51 "CartelWatchModel" "fines" "[I", .fieldLink RX3 33 "CartelWatchModel" "one" "[I", .methodLink RX3 112 yX3_isFile, .instanceMethod yX3_isFile, .selects RX3 yX3_isFile yX3_isFile, .initialized RX3, .code yX3_isFile cX3_isFile 2 (some .boolean), .fieldLink RX3 70 "CartelWatchModel" "files" "I", .methodLink RX3 63 yX3_in, .static yX3_in, .code yX3_in cX3_in 3 (some .boolean), .methodLink RX3 77 yX3_fails, .instanceMethod yX3_fails, .selects RX3 yX3_fails yX3_fails, .code yX3_fails cX3_fails 2 (some .int), .methodLink RX3 118 yX3_isOf, .instanceMethod yX3_isOf, .selects RX3 yX3_isOf yX3_isOf, .code yX3_isOf cX3_isOf 3 (some .boolean), .fieldLink RX3 36 "CartelWatchModel" "two" "[I"] ++ wsX30)
def wsX3_firstTeller : List Cond := .code yX3_firstTeller cX3_firstTeller 2 (some .int) :: ([.fieldLink RX3 60 "CartelWatchModel" "thrown" "I", .fieldLink RX3 45 "CartelWatchModel" "first" "[I", .methodLink RX3 112 yX3_isFile, .instanceMethod yX3_isFile, .selects RX3 yX3_isFile yX3_isFile, .initialized RX3, .code yX3_isFile cX3_isFile 2 (some .boolean), .fieldLink RX3 70 "CartelWatchModel" "files" "I", .methodLink RX3 63 yX3_in, .static yX3_in, .code yX3_in cX3_in 3 (some .boolean), .methodLink RX3 77 yX3_fails, .instanceMethod yX3_fails, .selects RX3 yX3_fails yX3_fails, .code yX3_fails cX3_fails 2 (some .int)] ++ wsX30)
def wsJ9_min_7cf53 : List Cond := .code yJ9_min_7cf53 cJ9_min_7cf53 2 (some .int) :: ([])
def wsL_open_r1 : List Cond := [Cond.classLink RL 13 "java/lang/IllegalStateException", Cond.methodLink RL 7 yX2_open, Cond.instanceMethod yX2_open, Cond.selects RX2 yX2_open yX2_open, Cond.initialized RX2, Cond.code yX2_open cX2_open 2 (some .int), Cond.classLink RX2 35 "java/lang/IllegalStateException", Cond.initialized "java/lang/IllegalStateException", Cond.fieldLink RX2 15 "CartelWatch" "tenderCount" "I", Cond.fieldLink RX2 11 "CartelWatch" "tenders" "[LCartelWatch$Tender;", Cond.classLink RX2 9 RX1, Cond.instantiable RX1 6, Cond.initialized RX1, Cond.instanceMethod yX1_init, Cond.code yX1_init cX1_init 1 none, Cond.methodLink RX1 3 objectInit, Cond.instanceMethod objectInit, Cond.code objectInit ⟨#[0xb1]⟩ 1 none, Cond.arrayClass .int, Cond.fieldLink RX1 9 "CartelWatch$Tender" "sums" "[I", Cond.arrayClass .boolean, Cond.fieldLink RX1 15 "CartelWatch$Tender" "withdrawn" "[Z", Cond.fieldLink RX1 19 "CartelWatch$Tender" "decided" "Z", Cond.fieldLink RX1 23 "CartelWatch$Tender" "winner" "I"]
def wsL_open_r2 : List Cond := [Cond.fieldLink RX1 27 "CartelWatch$Tender" "partner" "I", Cond.fieldLink RX1 30 "CartelWatch$Tender" "partnersPart" "I"]
def wsL_open : List Cond := .codeWith yL_open cL_open 3 (some .int) [(0, 8, 11, 13)] :: ((wsL_open_r1 ++ wsL_open_r2) ++ wsX20 ++ wsX10 ++ (vx_atS RX2 39 "java/lang/IllegalStateException" ["java/lang/RuntimeException", "java/lang/Exception"]).filter goodWord)
def wsL_bid_r1 : List Cond := [Cond.classLink RL 19 "java/lang/IndexOutOfBoundsException", Cond.classLink RL 21 "java/lang/IllegalArgumentException", Cond.classLink RL 13 "java/lang/IllegalStateException", Cond.methodLink RL 15 yX2_bid, Cond.instanceMethod yX2_bid, Cond.selects RX2 yX2_bid yX2_bid, Cond.initialized RX2, Cond.code yX2_bid cX2_bid 5 (some .int), Cond.classLink RX2 47 "java/lang/IndexOutOfBoundsException", Cond.initialized "java/lang/IndexOutOfBoundsException", Cond.classLink RX2 59 "java/lang/IllegalArgumentException", Cond.initialized "java/lang/IllegalArgumentException", Cond.classLink RX2 35 "java/lang/IllegalStateException", Cond.initialized "java/lang/IllegalStateException", Cond.methodLink RX2 43 yX2_tenderAt, Cond.instanceMethod yX2_tenderAt, Cond.selects RX2 yX2_tenderAt yX2_tenderAt, Cond.code yX2_tenderAt cX2_tenderAt 2 (some (.object "CartelWatch$Tender")), Cond.fieldLink RX2 11 "CartelWatch" "tenders" "[LCartelWatch$Tender;", Cond.methodLink RX2 52 yX2_isBidder, Cond.static yX2_isBidder, Cond.code yX2_isBidder cX2_isBidder 1 (some .boolean), Cond.methodLink RX2 56 yX2_isMoney, Cond.static yX2_isMoney]
def wsL_bid_r2 : List Cond := [Cond.code yX2_isMoney cX2_isMoney 1 (some .boolean), Cond.constant RX2 191 (100000), Cond.methodLink RX2 64 yX1_isOpen, Cond.instanceMethod yX1_isOpen, Cond.selects RX1 yX1_isOpen yX1_isOpen, Cond.initialized RX1, Cond.code yX1_isOpen cX1_isOpen 1 (some .boolean), Cond.fieldLink RX1 19 "CartelWatch$Tender" "decided" "Z", Cond.methodLink RX2 68 yX1_hasBidOf, Cond.instanceMethod yX1_hasBidOf, Cond.selects RX1 yX1_hasBidOf yX1_hasBidOf, Cond.code yX1_hasBidOf cX1_hasBidOf 2 (some .boolean), Cond.fieldLink RX1 9 "CartelWatch$Tender" "sums" "[I", Cond.methodLink RX2 73 yX1_takeBid, Cond.instanceMethod yX1_takeBid, Cond.selects RX1 yX1_takeBid yX1_takeBid, Cond.code yX1_takeBid cX1_takeBid 3 none, Cond.methodLink RX2 77 yX1_countStanding, Cond.instanceMethod yX1_countStanding, Cond.selects RX1 yX1_countStanding yX1_countStanding, Cond.code yX1_countStanding cX1_countStanding 3 (some .int), Cond.methodLink RX1 37 yX1_isStanding, Cond.instanceMethod yX1_isStanding, Cond.selects RX1 yX1_isStanding yX1_isStanding]
def wsL_bid_r3 : List Cond := [Cond.code yX1_isStanding cX1_isStanding 2 (some .boolean), Cond.fieldLink RX1 15 "CartelWatch$Tender" "withdrawn" "[Z"]
def wsL_bid : List Cond := .codeWith yL_bid cL_bid 6 (some .int) [(0, 12, 15, 19), (0, 12, 19, 21), (0, 12, 23, 13)] :: ((wsL_bid_r1 ++ (wsL_bid_r2 ++ wsL_bid_r3)) ++ wsX20 ++ wsX10 ++ (vx_atS RX2 51 "java/lang/IndexOutOfBoundsException" ["java/lang/RuntimeException", "java/lang/Exception"]).filter goodWord ++ (vx_atS RX2 63 "java/lang/IllegalArgumentException" ["java/lang/RuntimeException", "java/lang/Exception"]).filter goodWord ++ (vx_atS RX2 39 "java/lang/IllegalStateException" ["java/lang/RuntimeException", "java/lang/Exception"]).filter goodWord)
def wsL_withdraw_r1 : List Cond := [Cond.classLink RL 19 "java/lang/IndexOutOfBoundsException", Cond.classLink RL 21 "java/lang/IllegalArgumentException", Cond.classLink RL 13 "java/lang/IllegalStateException", Cond.methodLink RL 23 yX2_withdraw, Cond.instanceMethod yX2_withdraw, Cond.selects RX2 yX2_withdraw yX2_withdraw, Cond.initialized RX2, Cond.code yX2_withdraw cX2_withdraw 4 (some .int), Cond.classLink RX2 47 "java/lang/IndexOutOfBoundsException", Cond.initialized "java/lang/IndexOutOfBoundsException", Cond.classLink RX2 59 "java/lang/IllegalArgumentException", Cond.initialized "java/lang/IllegalArgumentException", Cond.classLink RX2 35 "java/lang/IllegalStateException", Cond.initialized "java/lang/IllegalStateException", Cond.methodLink RX2 43 yX2_tenderAt, Cond.instanceMethod yX2_tenderAt, Cond.selects RX2 yX2_tenderAt yX2_tenderAt, Cond.code yX2_tenderAt cX2_tenderAt 2 (some (.object "CartelWatch$Tender")), Cond.fieldLink RX2 11 "CartelWatch" "tenders" "[LCartelWatch$Tender;", Cond.methodLink RX2 52 yX2_isBidder, Cond.static yX2_isBidder, Cond.code yX2_isBidder cX2_isBidder 1 (some .boolean), Cond.methodLink RX2 64 yX1_isOpen, Cond.instanceMethod yX1_isOpen]
def wsL_withdraw_r2 : List Cond := [Cond.selects RX1 yX1_isOpen yX1_isOpen, Cond.initialized RX1, Cond.code yX1_isOpen cX1_isOpen 1 (some .boolean), Cond.fieldLink RX1 19 "CartelWatch$Tender" "decided" "Z", Cond.methodLink RX2 83 yX1_isStanding, Cond.instanceMethod yX1_isStanding, Cond.selects RX1 yX1_isStanding yX1_isStanding, Cond.code yX1_isStanding cX1_isStanding 2 (some .boolean), Cond.fieldLink RX1 9 "CartelWatch$Tender" "sums" "[I", Cond.fieldLink RX1 15 "CartelWatch$Tender" "withdrawn" "[Z", Cond.methodLink RX2 88 yX1_giveBack, Cond.instanceMethod yX1_giveBack, Cond.selects RX1 yX1_giveBack yX1_giveBack, Cond.code yX1_giveBack cX1_giveBack 2 none, Cond.methodLink RX2 92 yX1_sumOf, Cond.instanceMethod yX1_sumOf, Cond.selects RX1 yX1_sumOf yX1_sumOf, Cond.code yX1_sumOf cX1_sumOf 2 (some .int)]
def wsL_withdraw : List Cond := .codeWith yL_withdraw cL_withdraw 5 (some .int) [(0, 10, 13, 19), (0, 10, 17, 21), (0, 10, 21, 13)] :: ((wsL_withdraw_r1 ++ wsL_withdraw_r2) ++ wsX20 ++ wsX10 ++ (vx_atS RX2 51 "java/lang/IndexOutOfBoundsException" ["java/lang/RuntimeException", "java/lang/Exception"]).filter goodWord ++ (vx_atS RX2 63 "java/lang/IllegalArgumentException" ["java/lang/RuntimeException", "java/lang/Exception"]).filter goodWord ++ (vx_atS RX2 39 "java/lang/IllegalStateException" ["java/lang/RuntimeException", "java/lang/Exception"]).filter goodWord)
def wsL_award_r1 : List Cond := [Cond.classLink RL 19 "java/lang/IndexOutOfBoundsException", Cond.classLink RL 13 "java/lang/IllegalStateException", Cond.methodLink RL 27 yX2_award, Cond.instanceMethod yX2_award, Cond.selects RX2 yX2_award yX2_award, Cond.initialized RX2, Cond.code yX2_award cX2_award 3 (some .int), Cond.classLink RX2 47 "java/lang/IndexOutOfBoundsException", Cond.initialized "java/lang/IndexOutOfBoundsException", Cond.classLink RX2 35 "java/lang/IllegalStateException", Cond.initialized "java/lang/IllegalStateException", Cond.methodLink RX2 43 yX2_tenderAt, Cond.instanceMethod yX2_tenderAt, Cond.selects RX2 yX2_tenderAt yX2_tenderAt, Cond.code yX2_tenderAt cX2_tenderAt 2 (some (.object "CartelWatch$Tender")), Cond.fieldLink RX2 11 "CartelWatch" "tenders" "[LCartelWatch$Tender;", Cond.methodLink RX2 64 yX1_isOpen, Cond.instanceMethod yX1_isOpen, Cond.selects RX1 yX1_isOpen yX1_isOpen, Cond.initialized RX1, Cond.code yX1_isOpen cX1_isOpen 1 (some .boolean), Cond.fieldLink RX1 19 "CartelWatch$Tender" "decided" "Z", Cond.methodLink RX2 98 yX1_decide, Cond.instanceMethod yX1_decide]
def wsL_award_r2 : List Cond := [Cond.selects RX1 yX1_decide yX1_decide, Cond.code yX1_decide cX1_decide 3 none, Cond.fieldLink RX1 23 "CartelWatch$Tender" "winner" "I", Cond.methodLink RX1 37 yX1_isStanding, Cond.instanceMethod yX1_isStanding, Cond.selects RX1 yX1_isStanding yX1_isStanding, Cond.code yX1_isStanding cX1_isStanding 2 (some .boolean), Cond.fieldLink RX1 9 "CartelWatch$Tender" "sums" "[I", Cond.fieldLink RX1 15 "CartelWatch$Tender" "withdrawn" "[Z", Cond.static yX2_isBidder, Cond.code yX2_isBidder cX2_isBidder 1 (some .boolean), Cond.methodLink RX1 40 yX1_sumOf, Cond.instanceMethod yX1_sumOf, Cond.selects RX1 yX1_sumOf yX1_sumOf, Cond.code yX1_sumOf cX1_sumOf 2 (some .int), Cond.methodLink RX2 101 yX1_winner, Cond.instanceMethod yX1_winner, Cond.selects RX1 yX1_winner yX1_winner, Cond.code yX1_winner cX1_winner 1 (some .int)]
def wsL_award : List Cond := .codeWith yL_award cL_award 4 (some .int) [(0, 9, 12, 19), (0, 9, 15, 13)] :: ((wsL_award_r1 ++ wsL_award_r2) ++ wsX20 ++ wsX10 ++ (vx_atS RX2 51 "java/lang/IndexOutOfBoundsException" ["java/lang/RuntimeException", "java/lang/Exception"]).filter goodWord ++ (vx_atS RX2 39 "java/lang/IllegalStateException" ["java/lang/RuntimeException", "java/lang/Exception"]).filter goodWord)
def wsL_passOn_r1 : List Cond := [Cond.classLink RL 19 "java/lang/IndexOutOfBoundsException", Cond.classLink RL 13 "java/lang/IllegalStateException", Cond.classLink RL 21 "java/lang/IllegalArgumentException", Cond.methodLink RL 31 yX2_passOn, Cond.instanceMethod yX2_passOn, Cond.selects RX2 yX2_passOn yX2_passOn, Cond.initialized RX2, Cond.code yX2_passOn cX2_passOn 6 (some .int), Cond.classLink RX2 47 "java/lang/IndexOutOfBoundsException", Cond.initialized "java/lang/IndexOutOfBoundsException", Cond.classLink RX2 35 "java/lang/IllegalStateException", Cond.initialized "java/lang/IllegalStateException", Cond.classLink RX2 59 "java/lang/IllegalArgumentException", Cond.initialized "java/lang/IllegalArgumentException", Cond.methodLink RX2 43 yX2_tenderAt, Cond.instanceMethod yX2_tenderAt, Cond.selects RX2 yX2_tenderAt yX2_tenderAt, Cond.code yX2_tenderAt cX2_tenderAt 2 (some (.object "CartelWatch$Tender")), Cond.fieldLink RX2 11 "CartelWatch" "tenders" "[LCartelWatch$Tender;", Cond.methodLink RX2 104 yX1_isAwarded, Cond.instanceMethod yX1_isAwarded, Cond.selects RX1 yX1_isAwarded yX1_isAwarded, Cond.initialized RX1, Cond.code yX1_isAwarded cX1_isAwarded 1 (some .boolean)]
def wsL_passOn_r2 : List Cond := [Cond.fieldLink RX1 23 "CartelWatch$Tender" "winner" "I", Cond.methodLink RX2 107 yX1_isPassedOn, Cond.instanceMethod yX1_isPassedOn, Cond.selects RX1 yX1_isPassedOn yX1_isPassedOn, Cond.code yX1_isPassedOn cX1_isPassedOn 1 (some .boolean), Cond.fieldLink RX1 27 "CartelWatch$Tender" "partner" "I", Cond.methodLink RX2 101 yX1_winner, Cond.instanceMethod yX1_winner, Cond.selects RX1 yX1_winner yX1_winner, Cond.code yX1_winner cX1_winner 1 (some .int), Cond.methodLink RX2 52 yX2_isBidder, Cond.static yX2_isBidder, Cond.code yX2_isBidder cX2_isBidder 1 (some .boolean), Cond.methodLink RX2 92 yX1_sumOf, Cond.instanceMethod yX1_sumOf, Cond.selects RX1 yX1_sumOf yX1_sumOf, Cond.code yX1_sumOf cX1_sumOf 2 (some .int), Cond.fieldLink RX1 9 "CartelWatch$Tender" "sums" "[I", Cond.methodLink RX2 114 yX1_giveOver, Cond.instanceMethod yX1_giveOver, Cond.selects RX1 yX1_giveOver yX1_giveOver, Cond.code yX1_giveOver cX1_giveOver 3 none, Cond.fieldLink RX1 30 "CartelWatch$Tender" "partnersPart" "I"]
def wsL_passOn : List Cond := .codeWith yL_passOn cL_passOn 6 (some .int) [(0, 12, 15, 19), (0, 12, 19, 13), (0, 12, 23, 21)] :: ((wsL_passOn_r1 ++ wsL_passOn_r2) ++ wsX20 ++ wsX10 ++ (vx_atS RX2 51 "java/lang/IndexOutOfBoundsException" ["java/lang/RuntimeException", "java/lang/Exception"]).filter goodWord ++ (vx_atS RX2 39 "java/lang/IllegalStateException" ["java/lang/RuntimeException", "java/lang/Exception"]).filter goodWord ++ (vx_atS RX2 63 "java/lang/IllegalArgumentException" ["java/lang/RuntimeException", "java/lang/Exception"]).filter goodWord)
def wsL_turnover_r1 : List Cond := [Cond.classLink RL 21 "java/lang/IllegalArgumentException", Cond.methodLink RL 34 yX2_turnover, Cond.instanceMethod yX2_turnover, Cond.selects RX2 yX2_turnover yX2_turnover, Cond.initialized RX2, Cond.code yX2_turnover cX2_turnover 2 (some .int), Cond.classLink RX2 59 "java/lang/IllegalArgumentException", Cond.initialized "java/lang/IllegalArgumentException", Cond.methodLink RX2 52 yX2_isBidder, Cond.static yX2_isBidder, Cond.code yX2_isBidder cX2_isBidder 1 (some .boolean), Cond.methodLink RX2 117 yX2_turnoverOf, Cond.instanceMethod yX2_turnoverOf, Cond.selects RX2 yX2_turnoverOf yX2_turnoverOf, Cond.code yX2_turnoverOf cX2_turnoverOf 7 (some .int), Cond.fieldLink RX2 11 "CartelWatch" "tenders" "[LCartelWatch$Tender;", Cond.methodLink RX2 192 yX1_incomeOf, Cond.instanceMethod yX1_incomeOf, Cond.selects RX1 yX1_incomeOf yX1_incomeOf, Cond.initialized RX1, Cond.code yX1_incomeOf cX1_incomeOf 2 (some .int), Cond.fieldLink RX1 23 "CartelWatch$Tender" "winner" "I", Cond.fieldLink RX1 30 "CartelWatch$Tender" "partnersPart" "I", Cond.fieldLink RX1 27 "CartelWatch$Tender" "partner" "I"]
def wsL_turnover_r2 : List Cond := [Cond.methodLink RX1 40 yX1_sumOf, Cond.instanceMethod yX1_sumOf, Cond.selects RX1 yX1_sumOf yX1_sumOf, Cond.code yX1_sumOf cX1_sumOf 2 (some .int), Cond.fieldLink RX1 9 "CartelWatch$Tender" "sums" "[I"]
def wsL_turnover : List Cond := .codeWith yL_turnover cL_turnover 4 (some .int) [(0, 9, 12, 21)] :: ((wsL_turnover_r1 ++ wsL_turnover_r2) ++ wsX20 ++ wsX10 ++ (vx_atS RX2 63 "java/lang/IllegalArgumentException" ["java/lang/RuntimeException", "java/lang/Exception"]).filter goodWord)
def wsL_won : List Cond := .codeWith yL_won cL_won 4 (some .int) [(0, 9, 12, 21)] :: ([.classLink RL 21 "java/lang/IllegalArgumentException", .methodLink RL 37 yX2_won, .instanceMethod yX2_won, .selects RX2 yX2_won yX2_won, .initialized RX2, .code yX2_won cX2_won 7 (some .int), .classLink RX2 59 "java/lang/IllegalArgumentException", .initialized "java/lang/IllegalArgumentException", .fieldLink RX2 11 "CartelWatch" "tenders" "[LCartelWatch$Tender;", .methodLink RX2 52 yX2_isBidder, .static yX2_isBidder, .code yX2_isBidder cX2_isBidder 1 (some .boolean), .methodLink RX2 101 yX1_winner, .instanceMethod yX1_winner, .selects RX1 yX1_winner yX1_winner, .initialized RX1, .code yX1_winner cX1_winner 1 (some .int), .fieldLink RX1 23 "CartelWatch$Tender" "winner" "I"] ++ wsX20 ++ wsX10 ++ (vx_atS RX2 63 "java/lang/IllegalArgumentException" ["java/lang/RuntimeException", "java/lang/Exception"]).filter goodWord)
def wsL_suspicion_r1 : List Cond := [Cond.classLink RL 21 "java/lang/IllegalArgumentException", Cond.methodLink RL 40 yX2_suspicion, Cond.instanceMethod yX2_suspicion, Cond.selects RX2 yX2_suspicion yX2_suspicion, Cond.initialized RX2, Cond.code yX2_suspicion cX2_suspicion 3 (some .int), Cond.classLink RX2 59 "java/lang/IllegalArgumentException", Cond.initialized "java/lang/IllegalArgumentException", Cond.methodLink RX2 120 yX2_isPair, Cond.static yX2_isPair, Cond.code yX2_isPair cX2_isPair 2 (some .boolean), Cond.methodLink RX2 52 yX2_isBidder, Cond.static yX2_isBidder, Cond.code yX2_isBidder cX2_isBidder 1 (some .boolean), Cond.methodLink RX2 126 yX2_suspicionOf, Cond.instanceMethod yX2_suspicionOf, Cond.selects RX2 yX2_suspicionOf yX2_suspicionOf, Cond.code yX2_suspicionOf cX2_suspicionOf 5 (some .int), Cond.fieldLink RX2 11 "CartelWatch" "tenders" "[LCartelWatch$Tender;", Cond.methodLink RX2 130 yX2_countOf, Cond.instanceMethod yX2_countOf, Cond.selects RX2 yX2_countOf yX2_countOf, Cond.code yX2_countOf cX2_countOf 8 (some .int), Cond.methodLink RX2 43 yX2_tenderAt]
def wsL_suspicion_r2 : List Cond := [Cond.instanceMethod yX2_tenderAt, Cond.selects RX2 yX2_tenderAt yX2_tenderAt, Cond.code yX2_tenderAt cX2_tenderAt 2 (some (.object "CartelWatch$Tender")), Cond.methodLink RX2 101 yX1_winner, Cond.instanceMethod yX1_winner, Cond.selects RX1 yX1_winner yX1_winner, Cond.initialized RX1, Cond.code yX1_winner cX1_winner 1 (some .int), Cond.fieldLink RX1 23 "CartelWatch$Tender" "winner" "I", Cond.methodLink RX2 195 yX1_signsOfLoser, Cond.instanceMethod yX1_signsOfLoser, Cond.selects RX1 yX1_signsOfLoser yX1_signsOfLoser, Cond.code yX1_signsOfLoser cX1_signsOfLoser 3 (some .int), Cond.fieldLink RX1 27 "CartelWatch$Tender" "partner" "I", Cond.methodLink RX1 37 yX1_isStanding, Cond.instanceMethod yX1_isStanding, Cond.selects RX1 yX1_isStanding yX1_isStanding, Cond.code yX1_isStanding cX1_isStanding 2 (some .boolean), Cond.fieldLink RX1 9 "CartelWatch$Tender" "sums" "[I", Cond.fieldLink RX1 15 "CartelWatch$Tender" "withdrawn" "[Z", Cond.methodLink RX1 40 yX1_sumOf, Cond.instanceMethod yX1_sumOf, Cond.selects RX1 yX1_sumOf yX1_sumOf, Cond.code yX1_sumOf cX1_sumOf 2 (some .int)]
def wsL_suspicion_r3 : List Cond := [Cond.methodLink RX1 44 yX1_isNear, Cond.instanceMethod yX1_isNear, Cond.selects RX1 yX1_isNear yX1_isNear, Cond.code yX1_isNear cX1_isNear 3 (some .boolean), Cond.methodLink RX1 47 yX1_hasBidOf, Cond.instanceMethod yX1_hasBidOf, Cond.selects RX1 yX1_hasBidOf yX1_hasBidOf, Cond.code yX1_hasBidOf cX1_hasBidOf 2 (some .boolean), Cond.methodLink RX1 50 yX1_hasWithdrawn, Cond.instanceMethod yX1_hasWithdrawn, Cond.selects RX1 yX1_hasWithdrawn yX1_hasWithdrawn, Cond.code yX1_hasWithdrawn cX1_hasWithdrawn 2 (some .boolean), Cond.methodLink RX2 83 yX1_isStanding, Cond.methodLink RX2 198 yX2_lastWinnerBefore, Cond.instanceMethod yX2_lastWinnerBefore, Cond.selects RX2 yX2_lastWinnerBefore yX2_lastWinnerBefore, Cond.code yX2_lastWinnerBefore cX2_lastWinnerBefore 6 (some .int), Cond.methodLink RX2 104 yX1_isAwarded, Cond.instanceMethod yX1_isAwarded, Cond.selects RX1 yX1_isAwarded yX1_isAwarded, Cond.code yX1_isAwarded cX1_isAwarded 1 (some .boolean)]
def wsL_suspicion : List Cond := .codeWith yL_suspicion cL_suspicion 5 (some .int) [(0, 10, 13, 21)] :: ((wsL_suspicion_r1 ++ (wsL_suspicion_r2 ++ wsL_suspicion_r3)) ++ wsX20 ++ wsX10 ++ (vx_atS RX2 63 "java/lang/IllegalArgumentException" ["java/lang/RuntimeException", "java/lang/Exception"]).filter goodWord)
def wsL_sign_r1 : List Cond := [Cond.classLink RL 19 "java/lang/IndexOutOfBoundsException", Cond.classLink RL 21 "java/lang/IllegalArgumentException", Cond.methodLink RL 43 yX2_sign, Cond.instanceMethod yX2_sign, Cond.selects RX2 yX2_sign yX2_sign, Cond.initialized RX2, Cond.code yX2_sign cX2_sign 4 (some .int), Cond.classLink RX2 47 "java/lang/IndexOutOfBoundsException", Cond.initialized "java/lang/IndexOutOfBoundsException", Cond.classLink RX2 59 "java/lang/IllegalArgumentException", Cond.initialized "java/lang/IllegalArgumentException", Cond.methodLink RX2 43 yX2_tenderAt, Cond.instanceMethod yX2_tenderAt, Cond.selects RX2 yX2_tenderAt yX2_tenderAt, Cond.code yX2_tenderAt cX2_tenderAt 2 (some (.object "CartelWatch$Tender")), Cond.fieldLink RX2 11 "CartelWatch" "tenders" "[LCartelWatch$Tender;", Cond.methodLink RX2 120 yX2_isPair, Cond.static yX2_isPair, Cond.code yX2_isPair cX2_isPair 2 (some .boolean), Cond.methodLink RX2 52 yX2_isBidder, Cond.static yX2_isBidder, Cond.code yX2_isBidder cX2_isBidder 1 (some .boolean), Cond.methodLink RX2 130 yX2_countOf, Cond.instanceMethod yX2_countOf]
def wsL_sign_r2 : List Cond := [Cond.selects RX2 yX2_countOf yX2_countOf, Cond.code yX2_countOf cX2_countOf 8 (some .int), Cond.methodLink RX2 101 yX1_winner, Cond.instanceMethod yX1_winner, Cond.selects RX1 yX1_winner yX1_winner, Cond.initialized RX1, Cond.code yX1_winner cX1_winner 1 (some .int), Cond.fieldLink RX1 23 "CartelWatch$Tender" "winner" "I", Cond.methodLink RX2 195 yX1_signsOfLoser, Cond.instanceMethod yX1_signsOfLoser, Cond.selects RX1 yX1_signsOfLoser yX1_signsOfLoser, Cond.code yX1_signsOfLoser cX1_signsOfLoser 3 (some .int), Cond.fieldLink RX1 27 "CartelWatch$Tender" "partner" "I", Cond.methodLink RX1 37 yX1_isStanding, Cond.instanceMethod yX1_isStanding, Cond.selects RX1 yX1_isStanding yX1_isStanding, Cond.code yX1_isStanding cX1_isStanding 2 (some .boolean), Cond.fieldLink RX1 9 "CartelWatch$Tender" "sums" "[I", Cond.fieldLink RX1 15 "CartelWatch$Tender" "withdrawn" "[Z", Cond.methodLink RX1 40 yX1_sumOf, Cond.instanceMethod yX1_sumOf, Cond.selects RX1 yX1_sumOf yX1_sumOf, Cond.code yX1_sumOf cX1_sumOf 2 (some .int), Cond.methodLink RX1 44 yX1_isNear]
def wsL_sign_r3 : List Cond := [Cond.instanceMethod yX1_isNear, Cond.selects RX1 yX1_isNear yX1_isNear, Cond.code yX1_isNear cX1_isNear 3 (some .boolean), Cond.methodLink RX1 47 yX1_hasBidOf, Cond.instanceMethod yX1_hasBidOf, Cond.selects RX1 yX1_hasBidOf yX1_hasBidOf, Cond.code yX1_hasBidOf cX1_hasBidOf 2 (some .boolean), Cond.methodLink RX1 50 yX1_hasWithdrawn, Cond.instanceMethod yX1_hasWithdrawn, Cond.selects RX1 yX1_hasWithdrawn yX1_hasWithdrawn, Cond.code yX1_hasWithdrawn cX1_hasWithdrawn 2 (some .boolean), Cond.methodLink RX2 83 yX1_isStanding, Cond.methodLink RX2 198 yX2_lastWinnerBefore, Cond.instanceMethod yX2_lastWinnerBefore, Cond.selects RX2 yX2_lastWinnerBefore yX2_lastWinnerBefore, Cond.code yX2_lastWinnerBefore cX2_lastWinnerBefore 6 (some .int), Cond.methodLink RX2 104 yX1_isAwarded, Cond.instanceMethod yX1_isAwarded, Cond.selects RX1 yX1_isAwarded yX1_isAwarded, Cond.code yX1_isAwarded cX1_isAwarded 1 (some .boolean)]
def wsL_sign : List Cond := .codeWith yL_sign cL_sign 6 (some .int) [(0, 12, 15, 19), (0, 12, 19, 21)] :: ((wsL_sign_r1 ++ (wsL_sign_r2 ++ wsL_sign_r3)) ++ wsX20 ++ wsX10 ++ (vx_atS RX2 51 "java/lang/IndexOutOfBoundsException" ["java/lang/RuntimeException", "java/lang/Exception"]).filter goodWord ++ (vx_atS RX2 63 "java/lang/IllegalArgumentException" ["java/lang/RuntimeException", "java/lang/Exception"]).filter goodWord)
def wsL_setMark : List Cond := .codeWith yL_setMark cL_setMark 4 (some .int) [(0, 9, 12, 21)] :: ([.classLink RL 21 "java/lang/IllegalArgumentException", .methodLink RL 46 yX2_setMark, .instanceMethod yX2_setMark, .selects RX2 yX2_setMark yX2_setMark, .initialized RX2, .code yX2_setMark cX2_setMark 3 (some .int), .classLink RX2 59 "java/lang/IllegalArgumentException", .initialized "java/lang/IllegalArgumentException", .fieldLink RX2 32 "CartelWatch" "leastSuspicionForFile" "I"] ++ wsX20 ++ (vx_atS RX2 63 "java/lang/IllegalArgumentException" ["java/lang/RuntimeException", "java/lang/Exception"]).filter goodWord)
def wsL_file_r1 : List Cond := [Cond.classLink RL 21 "java/lang/IllegalArgumentException", Cond.classLink RL 13 "java/lang/IllegalStateException", Cond.methodLink RL 49 yX2_file, Cond.instanceMethod yX2_file, Cond.selects RX2 yX2_file yX2_file, Cond.initialized RX2, Cond.code yX2_file cX2_file 6 (some .int), Cond.classLink RX2 59 "java/lang/IllegalArgumentException", Cond.initialized "java/lang/IllegalArgumentException", Cond.classLink RX2 35 "java/lang/IllegalStateException", Cond.initialized "java/lang/IllegalStateException", Cond.fieldLink RX2 25 "CartelWatch" "dossierCount" "I", Cond.fieldLink RX2 21 "CartelWatch" "dossiers" "[LCartelWatch$Dossier;", Cond.fieldLink RX2 32 "CartelWatch" "leastSuspicionForFile" "I", Cond.classLink RX2 19 RX0, Cond.instantiable RX0 8, Cond.initialized RX0, Cond.fieldLink RX2 11 "CartelWatch" "tenders" "[LCartelWatch$Tender;", Cond.methodLink RX2 120 yX2_isPair, Cond.static yX2_isPair, Cond.code yX2_isPair cX2_isPair 2 (some .boolean), Cond.methodLink RX2 52 yX2_isBidder, Cond.static yX2_isBidder, Cond.code yX2_isBidder cX2_isBidder 1 (some .boolean)]
def wsL_file_r2 : List Cond := [Cond.methodLink RX2 136 yX2_hasDossier, Cond.instanceMethod yX2_hasDossier, Cond.selects RX2 yX2_hasDossier yX2_hasDossier, Cond.code yX2_hasDossier cX2_hasDossier 7 (some .boolean), Cond.methodLink RX2 157 yX0_isOf, Cond.instanceMethod yX0_isOf, Cond.selects RX0 yX0_isOf yX0_isOf, Cond.code yX0_isOf cX0_isOf 2 (some .boolean), Cond.fieldLink RX0 33 "CartelWatch$Dossier" "one" "I", Cond.fieldLink RX0 36 "CartelWatch$Dossier" "other" "I", Cond.methodLink RX2 126 yX2_suspicionOf, Cond.instanceMethod yX2_suspicionOf, Cond.selects RX2 yX2_suspicionOf yX2_suspicionOf, Cond.code yX2_suspicionOf cX2_suspicionOf 5 (some .int), Cond.methodLink RX2 130 yX2_countOf, Cond.instanceMethod yX2_countOf, Cond.selects RX2 yX2_countOf yX2_countOf, Cond.code yX2_countOf cX2_countOf 8 (some .int), Cond.methodLink RX2 43 yX2_tenderAt, Cond.instanceMethod yX2_tenderAt, Cond.selects RX2 yX2_tenderAt yX2_tenderAt, Cond.code yX2_tenderAt cX2_tenderAt 2 (some (.object "CartelWatch$Tender")), Cond.methodLink RX2 101 yX1_winner, Cond.instanceMethod yX1_winner]
def wsL_file_r3 : List Cond := [Cond.selects RX1 yX1_winner yX1_winner, Cond.initialized RX1, Cond.code yX1_winner cX1_winner 1 (some .int), Cond.fieldLink RX1 23 "CartelWatch$Tender" "winner" "I", Cond.methodLink RX2 195 yX1_signsOfLoser, Cond.instanceMethod yX1_signsOfLoser, Cond.selects RX1 yX1_signsOfLoser yX1_signsOfLoser, Cond.code yX1_signsOfLoser cX1_signsOfLoser 3 (some .int), Cond.fieldLink RX1 27 "CartelWatch$Tender" "partner" "I", Cond.methodLink RX1 37 yX1_isStanding, Cond.instanceMethod yX1_isStanding, Cond.selects RX1 yX1_isStanding yX1_isStanding, Cond.code yX1_isStanding cX1_isStanding 2 (some .boolean), Cond.fieldLink RX1 9 "CartelWatch$Tender" "sums" "[I", Cond.fieldLink RX1 15 "CartelWatch$Tender" "withdrawn" "[Z", Cond.methodLink RX1 40 yX1_sumOf, Cond.instanceMethod yX1_sumOf, Cond.selects RX1 yX1_sumOf yX1_sumOf, Cond.code yX1_sumOf cX1_sumOf 2 (some .int), Cond.methodLink RX1 44 yX1_isNear, Cond.instanceMethod yX1_isNear, Cond.selects RX1 yX1_isNear yX1_isNear, Cond.code yX1_isNear cX1_isNear 3 (some .boolean), Cond.methodLink RX1 47 yX1_hasBidOf]
def wsL_file_r4 : List Cond := [Cond.instanceMethod yX1_hasBidOf, Cond.selects RX1 yX1_hasBidOf yX1_hasBidOf, Cond.code yX1_hasBidOf cX1_hasBidOf 2 (some .boolean), Cond.methodLink RX1 50 yX1_hasWithdrawn, Cond.instanceMethod yX1_hasWithdrawn, Cond.selects RX1 yX1_hasWithdrawn yX1_hasWithdrawn, Cond.code yX1_hasWithdrawn cX1_hasWithdrawn 2 (some .boolean), Cond.methodLink RX2 83 yX1_isStanding, Cond.methodLink RX2 198 yX2_lastWinnerBefore, Cond.instanceMethod yX2_lastWinnerBefore, Cond.selects RX2 yX2_lastWinnerBefore yX2_lastWinnerBefore, Cond.code yX2_lastWinnerBefore cX2_lastWinnerBefore 6 (some .int), Cond.methodLink RX2 104 yX1_isAwarded, Cond.instanceMethod yX1_isAwarded, Cond.selects RX1 yX1_isAwarded yX1_isAwarded, Cond.code yX1_isAwarded cX1_isAwarded 1 (some .boolean), Cond.methodLink RX2 141 yX0_init, Cond.instanceMethod yX0_init, Cond.code yX0_init cX0_init 3 none, Cond.methodLink RX0 3 objectInit, Cond.instanceMethod objectInit, Cond.code objectInit ⟨#[0xb1]⟩ 1 none, Cond.arrayClass .boolean, Cond.fieldLink RX0 9 "CartelWatch$Dossier" "untold" "[Z"]
def wsL_file_r5 : List Cond := [Cond.arrayClass .int, Cond.fieldLink RX0 15 "CartelWatch$Dossier" "newTellings" "[I", Cond.fieldLink RX0 19 "CartelWatch$Dossier" "fines" "[I", Cond.fieldLink RX0 22 "CartelWatch$Dossier" "matterCount" "I", Cond.fieldLink RX0 26 "CartelWatch$Dossier" "first" "I", Cond.fieldLink RX0 29 "CartelWatch$Dossier" "closed" "Z", Cond.methodLink RX2 143 yX0_addMatter, Cond.instanceMethod yX0_addMatter, Cond.selects RX0 yX0_addMatter yX0_addMatter, Cond.code yX0_addMatter cX0_addMatter 2 none]
def wsL_file : List Cond := .codeWith yL_file cL_file 5 (some .int) [(0, 10, 13, 21), (0, 10, 17, 13)] :: ((wsL_file_r1 ++ (wsL_file_r2 ++ (wsL_file_r3 ++ (wsL_file_r4 ++ wsL_file_r5)))) ++ wsX20 ++ wsX00 ++ wsX10 ++ (vx_atS RX2 63 "java/lang/IllegalArgumentException" ["java/lang/RuntimeException", "java/lang/Exception"]).filter goodWord ++ (vx_atS RX2 39 "java/lang/IllegalStateException" ["java/lang/RuntimeException", "java/lang/Exception"]).filter goodWord)
def wsL_matters : List Cond := .codeWith yL_matters cL_matters 4 (some .int) [(0, 9, 12, 19)] :: ([.classLink RL 19 "java/lang/IndexOutOfBoundsException", .methodLink RL 52 yX2_matters, .instanceMethod yX2_matters, .selects RX2 yX2_matters yX2_matters, .initialized RX2, .code yX2_matters cX2_matters 3 (some .int), .classLink RX2 47 "java/lang/IndexOutOfBoundsException", .initialized "java/lang/IndexOutOfBoundsException", .methodLink RX2 146 yX2_dossierAt, .instanceMethod yX2_dossierAt, .selects RX2 yX2_dossierAt yX2_dossierAt, .code yX2_dossierAt cX2_dossierAt 2 (some (.object "CartelWatch$Dossier")), .fieldLink RX2 21 "CartelWatch" "dossiers" "[LCartelWatch$Dossier;", .methodLink RX2 152 yX0_matterCount, .instanceMethod yX0_matterCount, .selects RX0 yX0_matterCount yX0_matterCount, .initialized RX0, .code yX0_matterCount cX0_matterCount 1 (some .int), .fieldLink RX0 22 "CartelWatch$Dossier" "matterCount" "I"] ++ wsX20 ++ wsX00 ++ (vx_atS RX2 51 "java/lang/IndexOutOfBoundsException" ["java/lang/RuntimeException", "java/lang/Exception"]).filter goodWord)
def wsL_tell_r1 : List Cond := [Cond.classLink RL 19 "java/lang/IndexOutOfBoundsException", Cond.classLink RL 21 "java/lang/IllegalArgumentException", Cond.classLink RL 13 "java/lang/IllegalStateException", Cond.methodLink RL 55 yX2_tell, Cond.instanceMethod yX2_tell, Cond.selects RX2 yX2_tell yX2_tell, Cond.initialized RX2, Cond.code yX2_tell cX2_tell 5 (some .boolean), Cond.classLink RX2 47 "java/lang/IndexOutOfBoundsException", Cond.initialized "java/lang/IndexOutOfBoundsException", Cond.classLink RX2 59 "java/lang/IllegalArgumentException", Cond.initialized "java/lang/IllegalArgumentException", Cond.classLink RX2 35 "java/lang/IllegalStateException", Cond.initialized "java/lang/IllegalStateException", Cond.methodLink RX2 146 yX2_dossierAt, Cond.instanceMethod yX2_dossierAt, Cond.selects RX2 yX2_dossierAt yX2_dossierAt, Cond.code yX2_dossierAt cX2_dossierAt 2 (some (.object "CartelWatch$Dossier")), Cond.fieldLink RX2 21 "CartelWatch" "dossiers" "[LCartelWatch$Dossier;", Cond.methodLink RX2 43 yX2_tenderAt, Cond.instanceMethod yX2_tenderAt, Cond.selects RX2 yX2_tenderAt yX2_tenderAt, Cond.code yX2_tenderAt cX2_tenderAt 2 (some (.object "CartelWatch$Tender")), Cond.fieldLink RX2 11 "CartelWatch" "tenders" "[LCartelWatch$Tender;"]
def wsL_tell_r2 : List Cond := [Cond.methodLink RX2 157 yX0_isOf, Cond.instanceMethod yX0_isOf, Cond.selects RX0 yX0_isOf yX0_isOf, Cond.initialized RX0, Cond.code yX0_isOf cX0_isOf 2 (some .boolean), Cond.fieldLink RX0 33 "CartelWatch$Dossier" "one" "I", Cond.fieldLink RX0 36 "CartelWatch$Dossier" "other" "I", Cond.methodLink RX2 162 yX0_isClosed, Cond.instanceMethod yX0_isClosed, Cond.selects RX0 yX0_isClosed yX0_isClosed, Cond.code yX0_isClosed cX0_isClosed 1 (some .boolean), Cond.fieldLink RX0 29 "CartelWatch$Dossier" "closed" "Z", Cond.methodLink RX2 167 yX0_hear, Cond.instanceMethod yX0_hear, Cond.selects RX0 yX0_hear yX0_hear, Cond.code yX0_hear cX0_hear 3 (some .boolean), Cond.fieldLink RX0 9 "CartelWatch$Dossier" "untold" "[Z", Cond.fieldLink RX0 15 "CartelWatch$Dossier" "newTellings" "[I", Cond.fieldLink RX0 26 "CartelWatch$Dossier" "first" "I", Cond.static yX2_isBidder, Cond.code yX2_isBidder cX2_isBidder 1 (some .boolean)]
def wsL_tell : List Cond := .codeWith yL_tell cL_tell 6 (some .int) [(0, 19, 22, 19), (0, 19, 26, 21), (0, 19, 30, 13)] :: ((wsL_tell_r1 ++ wsL_tell_r2) ++ wsX20 ++ wsX00 ++ (vx_atS RX2 51 "java/lang/IndexOutOfBoundsException" ["java/lang/RuntimeException", "java/lang/Exception"]).filter goodWord ++ (vx_atS RX2 63 "java/lang/IllegalArgumentException" ["java/lang/RuntimeException", "java/lang/Exception"]).filter goodWord ++ (vx_atS RX2 39 "java/lang/IllegalStateException" ["java/lang/RuntimeException", "java/lang/Exception"]).filter goodWord)
def wsL_compensate : List Cond := .codeWith yL_compensate cL_compensate 5 (some .int) [(0, 10, 13, 21)] :: ([.classLink RL 21 "java/lang/IllegalArgumentException", .methodLink RL 59 yX2_compensate, .instanceMethod yX2_compensate, .selects RX2 yX2_compensate yX2_compensate, .initialized RX2, .code yX2_compensate cX2_compensate 3 (some .int), .classLink RX2 59 "java/lang/IllegalArgumentException", .initialized "java/lang/IllegalArgumentException", .fieldLink RX2 28 "CartelWatch" "paidToHarmed" "[I", .methodLink RX2 52 yX2_isBidder, .static yX2_isBidder, .code yX2_isBidder cX2_isBidder 1 (some .boolean), .methodLink RX2 56 yX2_isMoney, .static yX2_isMoney, .code yX2_isMoney cX2_isMoney 1 (some .boolean), .constant RX2 191 (100000)] ++ wsX20 ++ (vx_atS RX2 63 "java/lang/IllegalArgumentException" ["java/lang/RuntimeException", "java/lang/Exception"]).filter goodWord)
def wsL_close_r1 : List Cond := [Cond.classLink RL 19 "java/lang/IndexOutOfBoundsException", Cond.classLink RL 13 "java/lang/IllegalStateException", Cond.methodLink RL 62 yX2_close, Cond.instanceMethod yX2_close, Cond.selects RX2 yX2_close yX2_close, Cond.initialized RX2, Cond.code yX2_close cX2_close 3 (some .int), Cond.classLink RX2 47 "java/lang/IndexOutOfBoundsException", Cond.initialized "java/lang/IndexOutOfBoundsException", Cond.classLink RX2 35 "java/lang/IllegalStateException", Cond.initialized "java/lang/IllegalStateException", Cond.methodLink RX2 146 yX2_dossierAt, Cond.instanceMethod yX2_dossierAt, Cond.selects RX2 yX2_dossierAt yX2_dossierAt, Cond.code yX2_dossierAt cX2_dossierAt 2 (some (.object "CartelWatch$Dossier")), Cond.fieldLink RX2 21 "CartelWatch" "dossiers" "[LCartelWatch$Dossier;", Cond.methodLink RX2 162 yX0_isClosed, Cond.instanceMethod yX0_isClosed, Cond.selects RX0 yX0_isClosed yX0_isClosed, Cond.initialized RX0, Cond.code yX0_isClosed cX0_isClosed 1 (some .boolean), Cond.fieldLink RX0 29 "CartelWatch$Dossier" "closed" "Z", Cond.methodLink RX2 172 yX0_shut, Cond.instanceMethod yX0_shut]
def wsL_close_r2 : List Cond := [Cond.selects RX0 yX0_shut yX0_shut, Cond.code yX0_shut cX0_shut 1 none, Cond.methodLink RX2 175 yX0_one, Cond.instanceMethod yX0_one, Cond.selects RX0 yX0_one yX0_one, Cond.code yX0_one cX0_one 1 (some .int), Cond.fieldLink RX0 33 "CartelWatch$Dossier" "one" "I", Cond.methodLink RX2 178 yX2_settle, Cond.instanceMethod yX2_settle, Cond.selects RX2 yX2_settle yX2_settle, Cond.code yX2_settle cX2_settle 5 (some .int), Cond.fieldLink RX2 28 "CartelWatch" "paidToHarmed" "[I", Cond.methodLink RX2 204 Lib.Math.min.name, Cond.static Lib.Math.min.name, Cond.initialized "java/lang/Math", Cond.code Lib.Math.min.name Lib.Math.min.code 2 (some .int), Cond.methodLink RX2 52 yX2_isBidder, Cond.static yX2_isBidder, Cond.code yX2_isBidder cX2_isBidder 1 (some .boolean), Cond.methodLink RX2 117 yX2_turnoverOf, Cond.instanceMethod yX2_turnoverOf, Cond.selects RX2 yX2_turnoverOf yX2_turnoverOf, Cond.code yX2_turnoverOf cX2_turnoverOf 7 (some .int), Cond.fieldLink RX2 11 "CartelWatch" "tenders" "[LCartelWatch$Tender;"]
def wsL_close_r3 : List Cond := [Cond.methodLink RX2 192 yX1_incomeOf, Cond.instanceMethod yX1_incomeOf, Cond.selects RX1 yX1_incomeOf yX1_incomeOf, Cond.initialized RX1, Cond.code yX1_incomeOf cX1_incomeOf 2 (some .int), Cond.fieldLink RX1 23 "CartelWatch$Tender" "winner" "I", Cond.fieldLink RX1 30 "CartelWatch$Tender" "partnersPart" "I", Cond.fieldLink RX1 27 "CartelWatch$Tender" "partner" "I", Cond.methodLink RX1 40 yX1_sumOf, Cond.instanceMethod yX1_sumOf, Cond.selects RX1 yX1_sumOf yX1_sumOf, Cond.code yX1_sumOf cX1_sumOf 2 (some .int), Cond.fieldLink RX1 9 "CartelWatch$Tender" "sums" "[I", Cond.methodLink RX2 201 yX0_lenientFine, Cond.instanceMethod yX0_lenientFine, Cond.selects RX0 yX0_lenientFine yX0_lenientFine, Cond.code yX0_lenientFine cX0_lenientFine 4 (some .int), Cond.fieldLink RX0 15 "CartelWatch$Dossier" "newTellings" "[I", Cond.fieldLink RX0 26 "CartelWatch$Dossier" "first" "I", Cond.fieldLink RX0 22 "CartelWatch$Dossier" "matterCount" "I", Cond.methodLink RX2 209 yX0_impose, Cond.instanceMethod yX0_impose, Cond.selects RX0 yX0_impose yX0_impose, Cond.code yX0_impose cX0_impose 3 none]
def wsL_close_r4 : List Cond := [Cond.fieldLink RX0 19 "CartelWatch$Dossier" "fines" "[I", Cond.methodLink RX2 182 yX0_other, Cond.instanceMethod yX0_other, Cond.selects RX0 yX0_other yX0_other, Cond.code yX0_other cX0_other 1 (some .int), Cond.fieldLink RX0 36 "CartelWatch$Dossier" "other" "I"]
def wsL_close : List Cond := .codeWith yL_close cL_close 4 (some .int) [(0, 9, 12, 19), (0, 9, 15, 13)] :: ((wsL_close_r1 ++ (wsL_close_r2 ++ (wsL_close_r3 ++ wsL_close_r4))) ++ wsX20 ++ wsX00 ++ wsX10 ++ (vx_atS RX2 51 "java/lang/IndexOutOfBoundsException" ["java/lang/RuntimeException", "java/lang/Exception"]).filter goodWord ++ (vx_atS RX2 39 "java/lang/IllegalStateException" ["java/lang/RuntimeException", "java/lang/Exception"]).filter goodWord)
def wsL_fine_r1 : List Cond := [Cond.classLink RL 19 "java/lang/IndexOutOfBoundsException", Cond.classLink RL 21 "java/lang/IllegalArgumentException", Cond.methodLink RL 65 yX2_fine, Cond.instanceMethod yX2_fine, Cond.selects RX2 yX2_fine yX2_fine, Cond.initialized RX2, Cond.code yX2_fine cX2_fine 4 (some .int), Cond.classLink RX2 47 "java/lang/IndexOutOfBoundsException", Cond.initialized "java/lang/IndexOutOfBoundsException", Cond.classLink RX2 59 "java/lang/IllegalArgumentException", Cond.initialized "java/lang/IllegalArgumentException", Cond.methodLink RX2 146 yX2_dossierAt, Cond.instanceMethod yX2_dossierAt, Cond.selects RX2 yX2_dossierAt yX2_dossierAt, Cond.code yX2_dossierAt cX2_dossierAt 2 (some (.object "CartelWatch$Dossier")), Cond.fieldLink RX2 21 "CartelWatch" "dossiers" "[LCartelWatch$Dossier;", Cond.methodLink RX2 157 yX0_isOf, Cond.instanceMethod yX0_isOf, Cond.selects RX0 yX0_isOf yX0_isOf, Cond.initialized RX0, Cond.code yX0_isOf cX0_isOf 2 (some .boolean), Cond.fieldLink RX0 33 "CartelWatch$Dossier" "one" "I", Cond.fieldLink RX0 36 "CartelWatch$Dossier" "other" "I", Cond.methodLink RX2 185 yX0_fineOf]
def wsL_fine_r2 : List Cond := [Cond.instanceMethod yX0_fineOf, Cond.selects RX0 yX0_fineOf yX0_fineOf, Cond.code yX0_fineOf cX0_fineOf 2 (some .int), Cond.fieldLink RX0 19 "CartelWatch$Dossier" "fines" "[I", Cond.static yX2_isBidder, Cond.code yX2_isBidder cX2_isBidder 1 (some .boolean)]
def wsL_fine : List Cond := .codeWith yL_fine cL_fine 5 (some .int) [(0, 10, 13, 19), (0, 10, 17, 21)] :: ((wsL_fine_r1 ++ wsL_fine_r2) ++ wsX20 ++ wsX00 ++ (vx_atS RX2 51 "java/lang/IndexOutOfBoundsException" ["java/lang/RuntimeException", "java/lang/Exception"]).filter goodWord ++ (vx_atS RX2 63 "java/lang/IllegalArgumentException" ["java/lang/RuntimeException", "java/lang/Exception"]).filter goodWord)
def wsL_firstTeller : List Cond := .codeWith yL_firstTeller cL_firstTeller 4 (some .int) [(0, 9, 12, 19)] :: ([.classLink RL 19 "java/lang/IndexOutOfBoundsException", .methodLink RL 68 yX2_firstTeller, .instanceMethod yX2_firstTeller, .selects RX2 yX2_firstTeller yX2_firstTeller, .initialized RX2, .code yX2_firstTeller cX2_firstTeller 3 (some .int), .classLink RX2 47 "java/lang/IndexOutOfBoundsException", .initialized "java/lang/IndexOutOfBoundsException", .methodLink RX2 146 yX2_dossierAt, .instanceMethod yX2_dossierAt, .selects RX2 yX2_dossierAt yX2_dossierAt, .code yX2_dossierAt cX2_dossierAt 2 (some (.object "CartelWatch$Dossier")), .fieldLink RX2 21 "CartelWatch" "dossiers" "[LCartelWatch$Dossier;", .methodLink RX2 188 yX0_first, .instanceMethod yX0_first, .selects RX0 yX0_first yX0_first, .initialized RX0, .code yX0_first cX0_first 1 (some .int), .fieldLink RX0 26 "CartelWatch$Dossier" "first" "I"] ++ wsX20 ++ wsX00 ++ (vx_atS RX2 51 "java/lang/IndexOutOfBoundsException" ["java/lang/RuntimeException", "java/lang/Exception"]).filter goodWord)
def wsL_law0_r1 : List Cond := [Cond.classLink RL 8 RX2, Cond.instantiable RX2 6, Cond.initialized RX2, Cond.classLink RL 72 RX3, Cond.instantiable RX3 19, Cond.initialized RX3, Cond.arrayClass .long, Cond.methodLink RL 71 yX2_init, Cond.instanceMethod yX2_init, Cond.code yX2_init cX2_init 1 none, Cond.methodLink RX2 1 objectInit, Cond.instanceMethod objectInit, Cond.code objectInit ⟨#[0xb1]⟩ 1 none, Cond.classLink RX2 9 RX1, Cond.fieldLink RX2 11 "CartelWatch" "tenders" "[LCartelWatch$Tender;", Cond.fieldLink RX2 15 "CartelWatch" "tenderCount" "I", Cond.classLink RX2 19 RX0, Cond.fieldLink RX2 21 "CartelWatch" "dossiers" "[LCartelWatch$Dossier;", Cond.fieldLink RX2 25 "CartelWatch" "dossierCount" "I", Cond.arrayClass .int, Cond.fieldLink RX2 28 "CartelWatch" "paidToHarmed" "[I", Cond.fieldLink RX2 32 "CartelWatch" "leastSuspicionForFile" "I", Cond.methodLink RL 74 yX3_init, Cond.instanceMethod yX3_init]
def wsL_law0_r2 : List Cond := [Cond.code yX3_init cX3_init 1 none, Cond.methodLink RX3 1 objectInit, Cond.fieldLink RX3 7 "CartelWatchModel" "state" "[I", Cond.fieldLink RX3 13 "CartelWatchModel" "winner" "[I", Cond.fieldLink RX3 16 "CartelWatchModel" "passed" "[I", Cond.fieldLink RX3 19 "CartelWatchModel" "part" "[I", Cond.fieldLink RX3 22 "CartelWatchModel" "sum" "[I", Cond.arrayClass .boolean, Cond.fieldLink RX3 25 "CartelWatchModel" "gone" "[Z", Cond.fieldLink RX3 29 "CartelWatchModel" "mark" "I", Cond.fieldLink RX3 33 "CartelWatchModel" "one" "[I", Cond.fieldLink RX3 36 "CartelWatchModel" "two" "[I", Cond.fieldLink RX3 39 "CartelWatchModel" "matters" "[I", Cond.fieldLink RX3 42 "CartelWatchModel" "told" "[I", Cond.fieldLink RX3 45 "CartelWatchModel" "first" "[I", Cond.fieldLink RX3 48 "CartelWatchModel" "news" "[I", Cond.fieldLink RX3 51 "CartelWatchModel" "fines" "[I", Cond.fieldLink RX3 54 "CartelWatchModel" "closed" "[Z", Cond.fieldLink RX3 57 "CartelWatchModel" "paid" "[I", Cond.methodLink RL 75 yL_open, Cond.static yL_open, Cond.initialized RL, Cond.codeWith yL_open cL_open 3 (some .int) [(0, 8, 11, 13)], Cond.classLink RL 13 "java/lang/IllegalStateException"]
def wsL_law0_r3 : List Cond := [Cond.methodLink RL 7 yX2_open, Cond.instanceMethod yX2_open, Cond.selects RX2 yX2_open yX2_open, Cond.code yX2_open cX2_open 2 (some .int), Cond.classLink RX2 35 "java/lang/IllegalStateException", Cond.initialized "java/lang/IllegalStateException", Cond.instantiable RX1 6, Cond.initialized RX1, Cond.instanceMethod yX1_init, Cond.code yX1_init cX1_init 1 none, Cond.methodLink RX1 3 objectInit, Cond.fieldLink RX1 9 "CartelWatch$Tender" "sums" "[I", Cond.fieldLink RX1 15 "CartelWatch$Tender" "withdrawn" "[Z", Cond.fieldLink RX1 19 "CartelWatch$Tender" "decided" "Z", Cond.fieldLink RX1 23 "CartelWatch$Tender" "winner" "I", Cond.fieldLink RX1 27 "CartelWatch$Tender" "partner" "I", Cond.fieldLink RX1 30 "CartelWatch$Tender" "partnersPart" "I", Cond.methodLink RL 80 yX3_open, Cond.instanceMethod yX3_open, Cond.selects RX3 yX3_open yX3_open, Cond.code yX3_open cX3_open 1 (some .int), Cond.fieldLink RX3 60 "CartelWatchModel" "thrown" "I", Cond.fieldLink RX3 67 "CartelWatchModel" "tenders" "I", Cond.methodLink RX3 77 yX3_fails]
def wsL_law0_r4 : List Cond := [Cond.instanceMethod yX3_fails, Cond.selects RX3 yX3_fails yX3_fails, Cond.code yX3_fails cX3_fails 2 (some .int), Cond.methodLink RL 81 yX3_thrown, Cond.instanceMethod yX3_thrown, Cond.selects RX3 yX3_thrown yX3_thrown, Cond.code yX3_thrown cX3_thrown 1 (some .int), Cond.methodLink RL 84 yL_bid, Cond.static yL_bid, Cond.codeWith yL_bid cL_bid 6 (some .int) [(0, 12, 15, 19), (0, 12, 19, 21), (0, 12, 23, 13)], Cond.classLink RL 19 "java/lang/IndexOutOfBoundsException", Cond.classLink RL 21 "java/lang/IllegalArgumentException", Cond.methodLink RL 15 yX2_bid, Cond.instanceMethod yX2_bid, Cond.selects RX2 yX2_bid yX2_bid, Cond.code yX2_bid cX2_bid 5 (some .int), Cond.classLink RX2 47 "java/lang/IndexOutOfBoundsException", Cond.initialized "java/lang/IndexOutOfBoundsException", Cond.classLink RX2 59 "java/lang/IllegalArgumentException", Cond.initialized "java/lang/IllegalArgumentException", Cond.methodLink RX2 43 yX2_tenderAt, Cond.instanceMethod yX2_tenderAt, Cond.selects RX2 yX2_tenderAt yX2_tenderAt, Cond.code yX2_tenderAt cX2_tenderAt 2 (some (.object "CartelWatch$Tender"))]
def wsL_law0_r5 : List Cond := [Cond.methodLink RX2 52 yX2_isBidder, Cond.static yX2_isBidder, Cond.code yX2_isBidder cX2_isBidder 1 (some .boolean), Cond.methodLink RX2 56 yX2_isMoney, Cond.static yX2_isMoney, Cond.code yX2_isMoney cX2_isMoney 1 (some .boolean), Cond.constant RX2 191 (100000), Cond.methodLink RX2 64 yX1_isOpen, Cond.instanceMethod yX1_isOpen, Cond.selects RX1 yX1_isOpen yX1_isOpen, Cond.code yX1_isOpen cX1_isOpen 1 (some .boolean), Cond.methodLink RX2 68 yX1_hasBidOf, Cond.instanceMethod yX1_hasBidOf, Cond.selects RX1 yX1_hasBidOf yX1_hasBidOf, Cond.code yX1_hasBidOf cX1_hasBidOf 2 (some .boolean), Cond.methodLink RX2 73 yX1_takeBid, Cond.instanceMethod yX1_takeBid, Cond.selects RX1 yX1_takeBid yX1_takeBid, Cond.code yX1_takeBid cX1_takeBid 3 none, Cond.methodLink RX2 77 yX1_countStanding, Cond.instanceMethod yX1_countStanding, Cond.selects RX1 yX1_countStanding yX1_countStanding, Cond.code yX1_countStanding cX1_countStanding 3 (some .int), Cond.methodLink RX1 37 yX1_isStanding]
def wsL_law0_r6 : List Cond := [Cond.instanceMethod yX1_isStanding, Cond.selects RX1 yX1_isStanding yX1_isStanding, Cond.code yX1_isStanding cX1_isStanding 2 (some .boolean), Cond.methodLink RL 87 yX3_bid, Cond.instanceMethod yX3_bid, Cond.selects RX3 yX3_bid yX3_bid, Cond.code yX3_bid cX3_bid 4 (some .int), Cond.constant RX3 88 (100000), Cond.methodLink RX3 85 yX3_isTender, Cond.instanceMethod yX3_isTender, Cond.selects RX3 yX3_isTender yX3_isTender, Cond.code yX3_isTender cX3_isTender 2 (some .boolean), Cond.methodLink RX3 63 yX3_in, Cond.static yX3_in, Cond.code yX3_in cX3_in 3 (some .boolean), Cond.methodLink RX3 73 yX3_isBidder, Cond.static yX3_isBidder, Cond.code yX3_isBidder cX3_isBidder 1 (some .boolean), Cond.methodLink RX3 89 yX3_countBids, Cond.instanceMethod yX3_countBids, Cond.selects RX3 yX3_countBids yX3_countBids, Cond.code yX3_countBids cX3_countBids 4 (some .int), Cond.methodLink RX3 81 yX3_stands, Cond.instanceMethod yX3_stands]
def wsL_law0_r7 : List Cond := [Cond.selects RX3 yX3_stands yX3_stands, Cond.code yX3_stands cX3_stands 3 (some .boolean), Cond.methodLink RL 88 yL_withdraw, Cond.static yL_withdraw, Cond.codeWith yL_withdraw cL_withdraw 5 (some .int) [(0, 10, 13, 19), (0, 10, 17, 21), (0, 10, 21, 13)], Cond.methodLink RL 23 yX2_withdraw, Cond.instanceMethod yX2_withdraw, Cond.selects RX2 yX2_withdraw yX2_withdraw, Cond.code yX2_withdraw cX2_withdraw 4 (some .int), Cond.methodLink RX2 83 yX1_isStanding, Cond.methodLink RX2 88 yX1_giveBack, Cond.instanceMethod yX1_giveBack, Cond.selects RX1 yX1_giveBack yX1_giveBack, Cond.code yX1_giveBack cX1_giveBack 2 none, Cond.methodLink RX2 92 yX1_sumOf, Cond.instanceMethod yX1_sumOf, Cond.selects RX1 yX1_sumOf yX1_sumOf, Cond.code yX1_sumOf cX1_sumOf 2 (some .int), Cond.methodLink RL 91 yX3_withdraw, Cond.instanceMethod yX3_withdraw, Cond.selects RX3 yX3_withdraw yX3_withdraw, Cond.code yX3_withdraw cX3_withdraw 3 (some .int), Cond.methodLink RL 92 yL_award, Cond.static yL_award]
def wsL_law0_r8 : List Cond := [Cond.codeWith yL_award cL_award 4 (some .int) [(0, 9, 12, 19), (0, 9, 15, 13)], Cond.methodLink RL 27 yX2_award, Cond.instanceMethod yX2_award, Cond.selects RX2 yX2_award yX2_award, Cond.code yX2_award cX2_award 3 (some .int), Cond.methodLink RX2 98 yX1_decide, Cond.instanceMethod yX1_decide, Cond.selects RX1 yX1_decide yX1_decide, Cond.code yX1_decide cX1_decide 3 none, Cond.methodLink RX1 40 yX1_sumOf, Cond.methodLink RX2 101 yX1_winner, Cond.instanceMethod yX1_winner, Cond.selects RX1 yX1_winner yX1_winner, Cond.code yX1_winner cX1_winner 1 (some .int), Cond.methodLink RL 95 yX3_award, Cond.instanceMethod yX3_award, Cond.selects RX3 yX3_award yX3_award, Cond.code yX3_award cX3_award 5 (some .int), Cond.methodLink RL 96 yL_passOn, Cond.static yL_passOn, Cond.codeWith yL_passOn cL_passOn 6 (some .int) [(0, 12, 15, 19), (0, 12, 19, 13), (0, 12, 23, 21)], Cond.methodLink RL 31 yX2_passOn, Cond.instanceMethod yX2_passOn, Cond.selects RX2 yX2_passOn yX2_passOn]
def wsL_law0_r9 : List Cond := [Cond.code yX2_passOn cX2_passOn 6 (some .int), Cond.methodLink RX2 104 yX1_isAwarded, Cond.instanceMethod yX1_isAwarded, Cond.selects RX1 yX1_isAwarded yX1_isAwarded, Cond.code yX1_isAwarded cX1_isAwarded 1 (some .boolean), Cond.methodLink RX2 107 yX1_isPassedOn, Cond.instanceMethod yX1_isPassedOn, Cond.selects RX1 yX1_isPassedOn yX1_isPassedOn, Cond.code yX1_isPassedOn cX1_isPassedOn 1 (some .boolean), Cond.methodLink RX2 114 yX1_giveOver, Cond.instanceMethod yX1_giveOver, Cond.selects RX1 yX1_giveOver yX1_giveOver, Cond.code yX1_giveOver cX1_giveOver 3 none, Cond.methodLink RL 98 yX3_passOn, Cond.instanceMethod yX3_passOn, Cond.selects RX3 yX3_passOn yX3_passOn, Cond.code yX3_passOn cX3_passOn 4 (some .int), Cond.methodLink RX3 92 yX3_price, Cond.instanceMethod yX3_price, Cond.selects RX3 yX3_price yX3_price, Cond.code yX3_price cX3_price 2 (some .int), Cond.methodLink RL 99 yL_turnover, Cond.static yL_turnover, Cond.codeWith yL_turnover cL_turnover 4 (some .int) [(0, 9, 12, 21)]]
def wsL_law0_r10 : List Cond := [Cond.methodLink RL 34 yX2_turnover, Cond.instanceMethod yX2_turnover, Cond.selects RX2 yX2_turnover yX2_turnover, Cond.code yX2_turnover cX2_turnover 2 (some .int), Cond.methodLink RX2 117 yX2_turnoverOf, Cond.instanceMethod yX2_turnoverOf, Cond.selects RX2 yX2_turnoverOf yX2_turnoverOf, Cond.code yX2_turnoverOf cX2_turnoverOf 7 (some .int), Cond.methodLink RX2 192 yX1_incomeOf, Cond.instanceMethod yX1_incomeOf, Cond.selects RX1 yX1_incomeOf yX1_incomeOf, Cond.code yX1_incomeOf cX1_incomeOf 2 (some .int), Cond.methodLink RL 101 yX3_turnover, Cond.instanceMethod yX3_turnover, Cond.selects RX3 yX3_turnover yX3_turnover, Cond.code yX3_turnover cX3_turnover 2 (some .int), Cond.methodLink RX3 95 yX3_turnoverOf, Cond.instanceMethod yX3_turnoverOf, Cond.selects RX3 yX3_turnoverOf yX3_turnoverOf, Cond.code yX3_turnoverOf cX3_turnoverOf 4 (some .int), Cond.methodLink RL 102 yL_won, Cond.static yL_won, Cond.codeWith yL_won cL_won 4 (some .int) [(0, 9, 12, 21)], Cond.methodLink RL 37 yX2_won]
def wsL_law0_r11 : List Cond := [Cond.instanceMethod yX2_won, Cond.selects RX2 yX2_won yX2_won, Cond.code yX2_won cX2_won 7 (some .int), Cond.methodLink RL 104 yX3_won, Cond.instanceMethod yX3_won, Cond.selects RX3 yX3_won yX3_won, Cond.code yX3_won cX3_won 4 (some .int), Cond.methodLink RL 105 yL_suspicion, Cond.static yL_suspicion, Cond.codeWith yL_suspicion cL_suspicion 5 (some .int) [(0, 10, 13, 21)], Cond.methodLink RL 40 yX2_suspicion, Cond.instanceMethod yX2_suspicion, Cond.selects RX2 yX2_suspicion yX2_suspicion, Cond.code yX2_suspicion cX2_suspicion 3 (some .int), Cond.methodLink RX2 120 yX2_isPair, Cond.static yX2_isPair, Cond.code yX2_isPair cX2_isPair 2 (some .boolean), Cond.methodLink RX2 126 yX2_suspicionOf, Cond.instanceMethod yX2_suspicionOf, Cond.selects RX2 yX2_suspicionOf yX2_suspicionOf, Cond.code yX2_suspicionOf cX2_suspicionOf 5 (some .int), Cond.methodLink RX2 130 yX2_countOf, Cond.instanceMethod yX2_countOf, Cond.selects RX2 yX2_countOf yX2_countOf]
def wsL_law0_r12 : List Cond := [Cond.code yX2_countOf cX2_countOf 8 (some .int), Cond.methodLink RX2 195 yX1_signsOfLoser, Cond.instanceMethod yX1_signsOfLoser, Cond.selects RX1 yX1_signsOfLoser yX1_signsOfLoser, Cond.code yX1_signsOfLoser cX1_signsOfLoser 3 (some .int), Cond.methodLink RX1 44 yX1_isNear, Cond.instanceMethod yX1_isNear, Cond.selects RX1 yX1_isNear yX1_isNear, Cond.code yX1_isNear cX1_isNear 3 (some .boolean), Cond.methodLink RX1 47 yX1_hasBidOf, Cond.methodLink RX1 50 yX1_hasWithdrawn, Cond.instanceMethod yX1_hasWithdrawn, Cond.selects RX1 yX1_hasWithdrawn yX1_hasWithdrawn, Cond.code yX1_hasWithdrawn cX1_hasWithdrawn 2 (some .boolean), Cond.methodLink RX2 198 yX2_lastWinnerBefore, Cond.instanceMethod yX2_lastWinnerBefore, Cond.selects RX2 yX2_lastWinnerBefore yX2_lastWinnerBefore, Cond.code yX2_lastWinnerBefore cX2_lastWinnerBefore 6 (some .int), Cond.methodLink RL 107 yX3_suspicion, Cond.instanceMethod yX3_suspicion, Cond.selects RX3 yX3_suspicion yX3_suspicion, Cond.code yX3_suspicion cX3_suspicion 3 (some .int), Cond.methodLink RX3 105 yX3_isPair, Cond.static yX3_isPair]
def wsL_law0_r13 : List Cond := [Cond.code yX3_isPair cX3_isPair 2 (some .boolean), Cond.methodLink RX3 108 yX3_suspicionOf, Cond.instanceMethod yX3_suspicionOf, Cond.selects RX3 yX3_suspicionOf yX3_suspicionOf, Cond.code yX3_suspicionOf cX3_suspicionOf 5 (some .int), Cond.methodLink RX3 101 yX3_signOf, Cond.instanceMethod yX3_signOf, Cond.selects RX3 yX3_signOf yX3_signOf, Cond.code yX3_signOf cX3_signOf 10 (some .int), Cond.methodLink RX3 98 yX3_isTurn, Cond.instanceMethod yX3_isTurn, Cond.selects RX3 yX3_isTurn yX3_isTurn, Cond.code yX3_isTurn cX3_isTurn 6 (some .boolean), Cond.methodLink RL 108 yL_sign, Cond.static yL_sign, Cond.codeWith yL_sign cL_sign 6 (some .int) [(0, 12, 15, 19), (0, 12, 19, 21)], Cond.methodLink RL 43 yX2_sign, Cond.instanceMethod yX2_sign, Cond.selects RX2 yX2_sign yX2_sign, Cond.code yX2_sign cX2_sign 4 (some .int), Cond.methodLink RL 110 yX3_sign, Cond.instanceMethod yX3_sign, Cond.selects RX3 yX3_sign yX3_sign, Cond.code yX3_sign cX3_sign 4 (some .int)]
def wsL_law0_r14 : List Cond := [Cond.methodLink RL 111 yL_setMark, Cond.static yL_setMark, Cond.codeWith yL_setMark cL_setMark 4 (some .int) [(0, 9, 12, 21)], Cond.methodLink RL 46 yX2_setMark, Cond.instanceMethod yX2_setMark, Cond.selects RX2 yX2_setMark yX2_setMark, Cond.code yX2_setMark cX2_setMark 3 (some .int), Cond.methodLink RL 113 yX3_setMark, Cond.instanceMethod yX3_setMark, Cond.selects RX3 yX3_setMark yX3_setMark, Cond.code yX3_setMark cX3_setMark 3 (some .int), Cond.methodLink RL 114 yX2_worst, Cond.instanceMethod yX2_worst, Cond.selects RX2 yX2_worst yX2_worst, Cond.code yX2_worst cX2_worst 6 (some .int), Cond.methodLink RL 117 yX3_worst, Cond.instanceMethod yX3_worst, Cond.selects RX3 yX3_worst yX3_worst, Cond.code yX3_worst cX3_worst 6 (some .int), Cond.methodLink RL 118 yL_file, Cond.static yL_file, Cond.codeWith yL_file cL_file 5 (some .int) [(0, 10, 13, 21), (0, 10, 17, 13)], Cond.methodLink RL 49 yX2_file, Cond.instanceMethod yX2_file]
def wsL_law0_r15 : List Cond := [Cond.selects RX2 yX2_file yX2_file, Cond.code yX2_file cX2_file 6 (some .int), Cond.instantiable RX0 8, Cond.initialized RX0, Cond.methodLink RX2 136 yX2_hasDossier, Cond.instanceMethod yX2_hasDossier, Cond.selects RX2 yX2_hasDossier yX2_hasDossier, Cond.code yX2_hasDossier cX2_hasDossier 7 (some .boolean), Cond.methodLink RX2 157 yX0_isOf, Cond.instanceMethod yX0_isOf, Cond.selects RX0 yX0_isOf yX0_isOf, Cond.code yX0_isOf cX0_isOf 2 (some .boolean), Cond.fieldLink RX0 33 "CartelWatch$Dossier" "one" "I", Cond.fieldLink RX0 36 "CartelWatch$Dossier" "other" "I", Cond.methodLink RX2 141 yX0_init, Cond.instanceMethod yX0_init, Cond.code yX0_init cX0_init 3 none, Cond.methodLink RX0 3 objectInit, Cond.fieldLink RX0 9 "CartelWatch$Dossier" "untold" "[Z", Cond.fieldLink RX0 15 "CartelWatch$Dossier" "newTellings" "[I", Cond.fieldLink RX0 19 "CartelWatch$Dossier" "fines" "[I", Cond.fieldLink RX0 22 "CartelWatch$Dossier" "matterCount" "I", Cond.fieldLink RX0 26 "CartelWatch$Dossier" "first" "I", Cond.fieldLink RX0 29 "CartelWatch$Dossier" "closed" "Z"]
def wsL_law0_r16 : List Cond := [Cond.methodLink RX2 143 yX0_addMatter, Cond.instanceMethod yX0_addMatter, Cond.selects RX0 yX0_addMatter yX0_addMatter, Cond.code yX0_addMatter cX0_addMatter 2 none, Cond.methodLink RL 120 yX3_file, Cond.instanceMethod yX3_file, Cond.selects RX3 yX3_file yX3_file, Cond.code yX3_file cX3_file 7 (some .int), Cond.fieldLink RX3 70 "CartelWatchModel" "files" "I", Cond.methodLink RL 121 yL_matters, Cond.static yL_matters, Cond.codeWith yL_matters cL_matters 4 (some .int) [(0, 9, 12, 19)], Cond.methodLink RL 52 yX2_matters, Cond.instanceMethod yX2_matters, Cond.selects RX2 yX2_matters yX2_matters, Cond.code yX2_matters cX2_matters 3 (some .int), Cond.methodLink RX2 146 yX2_dossierAt, Cond.instanceMethod yX2_dossierAt, Cond.selects RX2 yX2_dossierAt yX2_dossierAt, Cond.code yX2_dossierAt cX2_dossierAt 2 (some (.object "CartelWatch$Dossier")), Cond.methodLink RX2 152 yX0_matterCount, Cond.instanceMethod yX0_matterCount, Cond.selects RX0 yX0_matterCount yX0_matterCount, Cond.code yX0_matterCount cX0_matterCount 1 (some .int)]
def wsL_law0_r17 : List Cond := [Cond.methodLink RL 123 yX3_matters, Cond.instanceMethod yX3_matters, Cond.selects RX3 yX3_matters yX3_matters, Cond.code yX3_matters cX3_matters 2 (some .int), Cond.methodLink RX3 112 yX3_isFile, Cond.instanceMethod yX3_isFile, Cond.selects RX3 yX3_isFile yX3_isFile, Cond.code yX3_isFile cX3_isFile 2 (some .boolean), Cond.methodLink RX3 115 yX3_count, Cond.static yX3_count, Cond.code yX3_count cX3_count 3 (some .int), Cond.methodLink RL 124 yL_tell, Cond.static yL_tell, Cond.codeWith yL_tell cL_tell 6 (some .int) [(0, 19, 22, 19), (0, 19, 26, 21), (0, 19, 30, 13)], Cond.methodLink RL 55 yX2_tell, Cond.instanceMethod yX2_tell, Cond.selects RX2 yX2_tell yX2_tell, Cond.code yX2_tell cX2_tell 5 (some .boolean), Cond.methodLink RX2 162 yX0_isClosed, Cond.instanceMethod yX0_isClosed, Cond.selects RX0 yX0_isClosed yX0_isClosed, Cond.code yX0_isClosed cX0_isClosed 1 (some .boolean), Cond.methodLink RX2 167 yX0_hear, Cond.instanceMethod yX0_hear]
def wsL_law0_r18 : List Cond := [Cond.selects RX0 yX0_hear yX0_hear, Cond.code yX0_hear cX0_hear 3 (some .boolean), Cond.methodLink RL 126 yX3_tell, Cond.instanceMethod yX3_tell, Cond.selects RX3 yX3_tell yX3_tell, Cond.code yX3_tell cX3_tell 5 (some .boolean), Cond.methodLink RX3 118 yX3_isOf, Cond.instanceMethod yX3_isOf, Cond.selects RX3 yX3_isOf yX3_isOf, Cond.code yX3_isOf cX3_isOf 3 (some .boolean), Cond.methodLink RL 127 yL_compensate, Cond.static yL_compensate, Cond.codeWith yL_compensate cL_compensate 5 (some .int) [(0, 10, 13, 21)], Cond.methodLink RL 59 yX2_compensate, Cond.instanceMethod yX2_compensate, Cond.selects RX2 yX2_compensate yX2_compensate, Cond.code yX2_compensate cX2_compensate 3 (some .int), Cond.methodLink RL 129 yX3_compensate, Cond.instanceMethod yX3_compensate, Cond.selects RX3 yX3_compensate yX3_compensate, Cond.code yX3_compensate cX3_compensate 3 (some .int), Cond.methodLink RL 130 yL_close, Cond.static yL_close, Cond.codeWith yL_close cL_close 4 (some .int) [(0, 9, 12, 19), (0, 9, 15, 13)]]
def wsL_law0_r19 : List Cond := [Cond.methodLink RL 62 yX2_close, Cond.instanceMethod yX2_close, Cond.selects RX2 yX2_close yX2_close, Cond.code yX2_close cX2_close 3 (some .int), Cond.methodLink RX2 172 yX0_shut, Cond.instanceMethod yX0_shut, Cond.selects RX0 yX0_shut yX0_shut, Cond.code yX0_shut cX0_shut 1 none, Cond.methodLink RX2 175 yX0_one, Cond.instanceMethod yX0_one, Cond.selects RX0 yX0_one yX0_one, Cond.code yX0_one cX0_one 1 (some .int), Cond.methodLink RX2 178 yX2_settle, Cond.instanceMethod yX2_settle, Cond.selects RX2 yX2_settle yX2_settle, Cond.code yX2_settle cX2_settle 5 (some .int), Cond.methodLink RX2 204 Lib.Math.min.name, Cond.static Lib.Math.min.name, Cond.initialized "java/lang/Math", Cond.code Lib.Math.min.name Lib.Math.min.code 2 (some .int), Cond.methodLink RX2 201 yX0_lenientFine, Cond.instanceMethod yX0_lenientFine, Cond.selects RX0 yX0_lenientFine yX0_lenientFine, Cond.code yX0_lenientFine cX0_lenientFine 4 (some .int)]
def wsL_law0_r20 : List Cond := [Cond.methodLink RX2 209 yX0_impose, Cond.instanceMethod yX0_impose, Cond.selects RX0 yX0_impose yX0_impose, Cond.code yX0_impose cX0_impose 3 none, Cond.methodLink RX2 182 yX0_other, Cond.instanceMethod yX0_other, Cond.selects RX0 yX0_other yX0_other, Cond.code yX0_other cX0_other 1 (some .int), Cond.methodLink RL 132 yX3_close, Cond.instanceMethod yX3_close, Cond.selects RX3 yX3_close yX3_close, Cond.code yX3_close cX3_close 2 (some .int), Cond.methodLink RX3 121 yX3_fineFor, Cond.instanceMethod yX3_fineFor, Cond.selects RX3 yX3_fineFor yX3_fineFor, Cond.code yX3_fineFor cX3_fineFor 7 (some .int), Cond.methodLink RL 133 yL_fine, Cond.static yL_fine, Cond.codeWith yL_fine cL_fine 5 (some .int) [(0, 10, 13, 19), (0, 10, 17, 21)], Cond.methodLink RL 65 yX2_fine, Cond.instanceMethod yX2_fine, Cond.selects RX2 yX2_fine yX2_fine, Cond.code yX2_fine cX2_fine 4 (some .int), Cond.methodLink RX2 185 yX0_fineOf]
def wsL_law0_r21 : List Cond := [Cond.instanceMethod yX0_fineOf, Cond.selects RX0 yX0_fineOf yX0_fineOf, Cond.code yX0_fineOf cX0_fineOf 2 (some .int), Cond.methodLink RL 135 yX3_fine, Cond.instanceMethod yX3_fine, Cond.selects RX3 yX3_fine yX3_fine, Cond.code yX3_fine cX3_fine 3 (some .int), Cond.methodLink RL 136 yL_firstTeller, Cond.static yL_firstTeller, Cond.codeWith yL_firstTeller cL_firstTeller 4 (some .int) [(0, 9, 12, 19)], Cond.methodLink RL 68 yX2_firstTeller, Cond.instanceMethod yX2_firstTeller, Cond.selects RX2 yX2_firstTeller yX2_firstTeller, Cond.code yX2_firstTeller cX2_firstTeller 3 (some .int), Cond.methodLink RX2 188 yX0_first, Cond.instanceMethod yX0_first, Cond.selects RX0 yX0_first yX0_first, Cond.code yX0_first cX0_first 1 (some .int), Cond.methodLink RL 138 yX3_firstTeller, Cond.instanceMethod yX3_firstTeller, Cond.selects RX3 yX3_firstTeller yX3_firstTeller, Cond.code yX3_firstTeller cX3_firstTeller 2 (some .int)]
def wsL_law0 : List Cond := (wsL_law0_r1 ++ (wsL_law0_r2 ++ (wsL_law0_r3 ++ (wsL_law0_r4 ++ (wsL_law0_r5 ++ (wsL_law0_r6 ++ (wsL_law0_r7 ++ (wsL_law0_r8 ++ (wsL_law0_r9 ++ (wsL_law0_r10 ++ (wsL_law0_r11 ++ (wsL_law0_r12 ++ (wsL_law0_r13 ++ (wsL_law0_r14 ++ (wsL_law0_r15 ++ (wsL_law0_r16 ++ (wsL_law0_r17 ++ (wsL_law0_r18 ++ (wsL_law0_r19 ++ (wsL_law0_r20 ++ wsL_law0_r21)))))))))))))))))))) ++ wsX20 ++ wsX30 ++ wsX10 ++ wsX00 ++ ([] : List Cond)
def wsL_law : List Cond := wsL_law0 ++ (vx_atS RX2 39 "java/lang/IllegalStateException" ["java/lang/RuntimeException", "java/lang/Exception"]).filter goodWord ++ (vx_atS RX2 51 "java/lang/IndexOutOfBoundsException" ["java/lang/RuntimeException", "java/lang/Exception"]).filter goodWord ++ (vx_atS RX2 63 "java/lang/IllegalArgumentException" ["java/lang/RuntimeException", "java/lang/Exception"]).filter goodWord
end
section
theorem inJ9 : ∀ w ∈ wsJ90, w ∈ lw_tbl := by decide +kernel
theorem inJ0 : ∀ w ∈ wsJ00, w ∈ lw_tbl := by decide +kernel
theorem dX0_init_0 : decode cX0_init 0 = .ok (.aload_n 0, 1) := by decide +kernel
theorem dX0_init_1 : decode cX0_init 1 = .ok (.invokespecial 3, 3) := by decide +kernel
theorem dX0_init_4 : decode cX0_init 4 = .ok (.aload_n 0, 1) := by decide +kernel
theorem dX0_init_5 : decode cX0_init 5 = .ok (.bipush 30, 2) := by decide +kernel
theorem dX0_init_7 : decode cX0_init 7 = .ok (.newarray .boolean, 2) := by decide +kernel
theorem dX0_init_9 : decode cX0_init 9 = .ok (.putfield 9, 3) := by decide +kernel
theorem dX0_init_12 : decode cX0_init 12 = .ok (.aload_n 0, 1) := by decide +kernel
theorem dX0_init_13 : decode cX0_init 13 = .ok (.bipush 7, 2) := by decide +kernel
theorem dX0_init_15 : decode cX0_init 15 = .ok (.newarray .int, 2) := by decide +kernel
theorem dX0_init_17 : decode cX0_init 17 = .ok (.putfield 15, 3) := by decide +kernel
theorem dX0_init_20 : decode cX0_init 20 = .ok (.aload_n 0, 1) := by decide +kernel
theorem dX0_init_21 : decode cX0_init 21 = .ok (.bipush 7, 2) := by decide +kernel
theorem dX0_init_23 : decode cX0_init 23 = .ok (.newarray .int, 2) := by decide +kernel
theorem dX0_init_25 : decode cX0_init 25 = .ok (.putfield 19, 3) := by decide +kernel
theorem dX0_init_28 : decode cX0_init 28 = .ok (.aload_n 0, 1) := by decide +kernel
theorem dX0_init_29 : decode cX0_init 29 = .ok (.iconst 0, 1) := by decide +kernel
theorem dX0_init_30 : decode cX0_init 30 = .ok (.putfield 22, 3) := by decide +kernel
theorem dX0_init_33 : decode cX0_init 33 = .ok (.aload_n 0, 1) := by decide +kernel
theorem dX0_init_34 : decode cX0_init 34 = .ok (.iconst (-1), 1) := by decide +kernel
theorem dX0_init_35 : decode cX0_init 35 = .ok (.putfield 26, 3) := by decide +kernel
theorem dX0_init_38 : decode cX0_init 38 = .ok (.aload_n 0, 1) := by decide +kernel
theorem dX0_init_39 : decode cX0_init 39 = .ok (.iconst 0, 1) := by decide +kernel
theorem dX0_init_40 : decode cX0_init 40 = .ok (.putfield 29, 3) := by decide +kernel
theorem dX0_init_43 : decode cX0_init 43 = .ok (.aload_n 0, 1) := by decide +kernel
theorem dX0_init_44 : decode cX0_init 44 = .ok (.iload_n 1, 1) := by decide +kernel
theorem dX0_init_45 : decode cX0_init 45 = .ok (.putfield 33, 3) := by decide +kernel
theorem dX0_init_48 : decode cX0_init 48 = .ok (.aload_n 0, 1) := by decide +kernel
theorem dX0_init_49 : decode cX0_init 49 = .ok (.iload_n 2, 1) := by decide +kernel
theorem dX0_init_50 : decode cX0_init 50 = .ok (.putfield 36, 3) := by decide +kernel
theorem dX0_init_53 : decode cX0_init 53 = .ok (.return_, 1) := by decide +kernel
theorem dX0_one_0 : decode cX0_one 0 = .ok (.aload_n 0, 1) := by decide +kernel
theorem dX0_one_1 : decode cX0_one 1 = .ok (.getfield 33, 3) := by decide +kernel
theorem dX0_one_4 : decode cX0_one 4 = .ok (.ireturn, 1) := by decide +kernel
theorem dX0_other_0 : decode cX0_other 0 = .ok (.aload_n 0, 1) := by decide +kernel
theorem dX0_other_1 : decode cX0_other 1 = .ok (.getfield 36, 3) := by decide +kernel
theorem dX0_other_4 : decode cX0_other 4 = .ok (.ireturn, 1) := by decide +kernel
theorem dX0_isOf_0 : decode cX0_isOf 0 = .ok (.iload_n 1, 1) := by decide +kernel
theorem dX0_isOf_1 : decode cX0_isOf 1 = .ok (.aload_n 0, 1) := by decide +kernel
theorem dX0_isOf_2 : decode cX0_isOf 2 = .ok (.getfield 33, 3) := by decide +kernel
theorem dX0_isOf_5 : decode cX0_isOf 5 = .ok (.if_icmp .eq 11, 3) := by decide +kernel
theorem dX0_isOf_8 : decode cX0_isOf 8 = .ok (.iload_n 1, 1) := by decide +kernel
theorem dX0_isOf_9 : decode cX0_isOf 9 = .ok (.aload_n 0, 1) := by decide +kernel
theorem dX0_isOf_10 : decode cX0_isOf 10 = .ok (.getfield 36, 3) := by decide +kernel
theorem dX0_isOf_13 : decode cX0_isOf 13 = .ok (.if_icmp .ne 7, 3) := by decide +kernel
theorem dX0_isOf_16 : decode cX0_isOf 16 = .ok (.iconst 1, 1) := by decide +kernel
theorem dX0_isOf_17 : decode cX0_isOf 17 = .ok (.goto 4, 3) := by decide +kernel
theorem dX0_isOf_20 : decode cX0_isOf 20 = .ok (.iconst 0, 1) := by decide +kernel
theorem dX0_isOf_21 : decode cX0_isOf 21 = .ok (.ireturn, 1) := by decide +kernel
theorem dX0_isClosed_0 : decode cX0_isClosed 0 = .ok (.aload_n 0, 1) := by decide +kernel
theorem dX0_isClosed_1 : decode cX0_isClosed 1 = .ok (.getfield 29, 3) := by decide +kernel
theorem dX0_isClosed_4 : decode cX0_isClosed 4 = .ok (.ireturn, 1) := by decide +kernel
theorem dX0_shut_0 : decode cX0_shut 0 = .ok (.aload_n 0, 1) := by decide +kernel
theorem dX0_shut_1 : decode cX0_shut 1 = .ok (.iconst 1, 1) := by decide +kernel
theorem dX0_shut_2 : decode cX0_shut 2 = .ok (.putfield 29, 3) := by decide +kernel
theorem dX0_shut_5 : decode cX0_shut 5 = .ok (.return_, 1) := by decide +kernel
theorem dX0_matterCount_0 : decode cX0_matterCount 0 = .ok (.aload_n 0, 1) := by decide +kernel
theorem dX0_matterCount_1 : decode cX0_matterCount 1 = .ok (.getfield 22, 3) := by decide +kernel
theorem dX0_matterCount_4 : decode cX0_matterCount 4 = .ok (.ireturn, 1) := by decide +kernel
theorem dX0_first_0 : decode cX0_first 0 = .ok (.aload_n 0, 1) := by decide +kernel
theorem dX0_first_1 : decode cX0_first 1 = .ok (.getfield 26, 3) := by decide +kernel
theorem dX0_first_4 : decode cX0_first 4 = .ok (.ireturn, 1) := by decide +kernel
set_option maxRecDepth 20000 in
theorem ggX0_fineOf_X2_isBidder : GoodIn wsX0_fineOf wsX2_isBidder := goodIn_r _ [4] (by decide +kernel) (by decide +kernel)
set_option maxRecDepth 20000 in
theorem gX0_fineOf_X2_isBidder_n39 : GoodIn wsX0_fineOf (wsX2_isBidder) := ggX0_fineOf_X2_isBidder
theorem dX0_fineOf_0 : decode cX0_fineOf 0 = .ok (.iload_n 1, 1) := by decide +kernel
theorem dX0_fineOf_1 : decode cX0_fineOf 1 = .ok (.invokestatic 39, 3) := by decide +kernel
theorem dX0_fineOf_4 : decode cX0_fineOf 4 = .ok (.ifCond .eq 12, 3) := by decide +kernel
theorem dX0_fineOf_7 : decode cX0_fineOf 7 = .ok (.aload_n 0, 1) := by decide +kernel
theorem dX0_fineOf_8 : decode cX0_fineOf 8 = .ok (.getfield 19, 3) := by decide +kernel
theorem dX0_fineOf_11 : decode cX0_fineOf 11 = .ok (.iload_n 1, 1) := by decide +kernel
theorem dX0_fineOf_12 : decode cX0_fineOf 12 = .ok (.iaload, 1) := by decide +kernel
theorem dX0_fineOf_13 : decode cX0_fineOf 13 = .ok (.goto 4, 3) := by decide +kernel
theorem dX0_fineOf_16 : decode cX0_fineOf 16 = .ok (.iconst 0, 1) := by decide +kernel
theorem dX0_fineOf_17 : decode cX0_fineOf 17 = .ok (.ireturn, 1) := by decide +kernel
set_option maxRecDepth 20000 in
theorem ggX0_impose_X2_isBidder : GoodIn wsX0_impose wsX2_isBidder := goodIn_r _ [4] (by decide +kernel) (by decide +kernel)
set_option maxRecDepth 20000 in
theorem gX0_impose_X2_isBidder_n39 : GoodIn wsX0_impose (wsX2_isBidder) := ggX0_impose_X2_isBidder
theorem dX0_impose_0 : decode cX0_impose 0 = .ok (.iload_n 1, 1) := by decide +kernel
theorem dX0_impose_1 : decode cX0_impose 1 = .ok (.invokestatic 39, 3) := by decide +kernel
theorem dX0_impose_4 : decode cX0_impose 4 = .ok (.ifCond .eq 10, 3) := by decide +kernel
theorem dX0_impose_7 : decode cX0_impose 7 = .ok (.aload_n 0, 1) := by decide +kernel
theorem dX0_impose_8 : decode cX0_impose 8 = .ok (.getfield 19, 3) := by decide +kernel
theorem dX0_impose_11 : decode cX0_impose 11 = .ok (.iload_n 1, 1) := by decide +kernel
theorem dX0_impose_12 : decode cX0_impose 12 = .ok (.iload_n 2, 1) := by decide +kernel
theorem dX0_impose_13 : decode cX0_impose 13 = .ok (.iastore, 1) := by decide +kernel
theorem dX0_impose_14 : decode cX0_impose 14 = .ok (.return_, 1) := by decide +kernel
theorem dX0_addMatter_0 : decode cX0_addMatter 0 = .ok (.iload_n 1, 1) := by decide +kernel
theorem dX0_addMatter_1 : decode cX0_addMatter 1 = .ok (.ifCond .lt 29, 3) := by decide +kernel
theorem dX0_addMatter_4 : decode cX0_addMatter 4 = .ok (.iload_n 1, 1) := by decide +kernel
theorem dX0_addMatter_5 : decode cX0_addMatter 5 = .ok (.aload_n 0, 1) := by decide +kernel
theorem dX0_addMatter_6 : decode cX0_addMatter 6 = .ok (.getfield 9, 3) := by decide +kernel
theorem dX0_addMatter_9 : decode cX0_addMatter 9 = .ok (.arraylength, 1) := by decide +kernel
theorem dX0_addMatter_10 : decode cX0_addMatter 10 = .ok (.if_icmp .ge 20, 3) := by decide +kernel
theorem dX0_addMatter_13 : decode cX0_addMatter 13 = .ok (.aload_n 0, 1) := by decide +kernel
theorem dX0_addMatter_14 : decode cX0_addMatter 14 = .ok (.getfield 9, 3) := by decide +kernel
theorem dX0_addMatter_17 : decode cX0_addMatter 17 = .ok (.iload_n 1, 1) := by decide +kernel
theorem dX0_addMatter_18 : decode cX0_addMatter 18 = .ok (.iconst 1, 1) := by decide +kernel
theorem dX0_addMatter_19 : decode cX0_addMatter 19 = .ok (.bastore, 1) := by decide +kernel
theorem dX0_addMatter_20 : decode cX0_addMatter 20 = .ok (.aload_n 0, 1) := by decide +kernel
theorem dX0_addMatter_21 : decode cX0_addMatter 21 = .ok (.dup, 1) := by decide +kernel
theorem dX0_addMatter_22 : decode cX0_addMatter 22 = .ok (.getfield 22, 3) := by decide +kernel
theorem dX0_addMatter_25 : decode cX0_addMatter 25 = .ok (.iconst 1, 1) := by decide +kernel
theorem dX0_addMatter_26 : decode cX0_addMatter 26 = .ok (.iadd, 1) := by decide +kernel
theorem dX0_addMatter_27 : decode cX0_addMatter 27 = .ok (.putfield 22, 3) := by decide +kernel
theorem dX0_addMatter_30 : decode cX0_addMatter 30 = .ok (.return_, 1) := by decide +kernel
set_option maxRecDepth 20000 in
theorem ggX0_hear_X2_isBidder : GoodIn wsX0_hear wsX2_isBidder := goodIn_r _ [6] (by decide +kernel) (by decide +kernel)
set_option maxRecDepth 20000 in
theorem gX0_hear_X2_isBidder_n39 : GoodIn wsX0_hear (wsX2_isBidder) := ggX0_hear_X2_isBidder
theorem dX0_hear_0 : decode cX0_hear 0 = .ok (.iload_n 1, 1) := by decide +kernel
theorem dX0_hear_1 : decode cX0_hear 1 = .ok (.invokestatic 39, 3) := by decide +kernel
theorem dX0_hear_4 : decode cX0_hear 4 = .ok (.ifCond .eq 25, 3) := by decide +kernel
theorem dX0_hear_7 : decode cX0_hear 7 = .ok (.iload_n 2, 1) := by decide +kernel
theorem dX0_hear_8 : decode cX0_hear 8 = .ok (.ifCond .lt 21, 3) := by decide +kernel
theorem dX0_hear_11 : decode cX0_hear 11 = .ok (.iload_n 2, 1) := by decide +kernel
theorem dX0_hear_12 : decode cX0_hear 12 = .ok (.aload_n 0, 1) := by decide +kernel
theorem dX0_hear_13 : decode cX0_hear 13 = .ok (.getfield 9, 3) := by decide +kernel
theorem dX0_hear_16 : decode cX0_hear 16 = .ok (.arraylength, 1) := by decide +kernel
theorem dX0_hear_17 : decode cX0_hear 17 = .ok (.if_icmp .ge 12, 3) := by decide +kernel
theorem dX0_hear_20 : decode cX0_hear 20 = .ok (.aload_n 0, 1) := by decide +kernel
theorem dX0_hear_21 : decode cX0_hear 21 = .ok (.getfield 9, 3) := by decide +kernel
theorem dX0_hear_24 : decode cX0_hear 24 = .ok (.iload_n 2, 1) := by decide +kernel
theorem dX0_hear_25 : decode cX0_hear 25 = .ok (.baload, 1) := by decide +kernel
theorem dX0_hear_26 : decode cX0_hear 26 = .ok (.ifCond .ne 5, 3) := by decide +kernel
theorem dX0_hear_29 : decode cX0_hear 29 = .ok (.iconst 0, 1) := by decide +kernel
theorem dX0_hear_30 : decode cX0_hear 30 = .ok (.ireturn, 1) := by decide +kernel
theorem dX0_hear_31 : decode cX0_hear 31 = .ok (.aload_n 0, 1) := by decide +kernel
theorem dX0_hear_32 : decode cX0_hear 32 = .ok (.getfield 9, 3) := by decide +kernel
theorem dX0_hear_35 : decode cX0_hear 35 = .ok (.iload_n 2, 1) := by decide +kernel
theorem dX0_hear_36 : decode cX0_hear 36 = .ok (.iconst 0, 1) := by decide +kernel
theorem dX0_hear_37 : decode cX0_hear 37 = .ok (.bastore, 1) := by decide +kernel
theorem dX0_hear_38 : decode cX0_hear 38 = .ok (.aload_n 0, 1) := by decide +kernel
theorem dX0_hear_39 : decode cX0_hear 39 = .ok (.getfield 15, 3) := by decide +kernel
theorem dX0_hear_42 : decode cX0_hear 42 = .ok (.iload_n 1, 1) := by decide +kernel
theorem dX0_hear_43 : decode cX0_hear 43 = .ok (.dup2, 1) := by decide +kernel
theorem dX0_hear_44 : decode cX0_hear 44 = .ok (.iaload, 1) := by decide +kernel
theorem dX0_hear_45 : decode cX0_hear 45 = .ok (.iconst 1, 1) := by decide +kernel
theorem dX0_hear_46 : decode cX0_hear 46 = .ok (.iadd, 1) := by decide +kernel
theorem dX0_hear_47 : decode cX0_hear 47 = .ok (.iastore, 1) := by decide +kernel
theorem dX0_hear_48 : decode cX0_hear 48 = .ok (.aload_n 0, 1) := by decide +kernel
theorem dX0_hear_49 : decode cX0_hear 49 = .ok (.getfield 26, 3) := by decide +kernel
theorem dX0_hear_52 : decode cX0_hear 52 = .ok (.iconst (-1), 1) := by decide +kernel
theorem dX0_hear_53 : decode cX0_hear 53 = .ok (.if_icmp .ne 8, 3) := by decide +kernel
theorem dX0_hear_56 : decode cX0_hear 56 = .ok (.aload_n 0, 1) := by decide +kernel
theorem dX0_hear_57 : decode cX0_hear 57 = .ok (.iload_n 1, 1) := by decide +kernel
theorem dX0_hear_58 : decode cX0_hear 58 = .ok (.putfield 26, 3) := by decide +kernel
theorem dX0_hear_61 : decode cX0_hear 61 = .ok (.iconst 1, 1) := by decide +kernel
theorem dX0_hear_62 : decode cX0_hear 62 = .ok (.ireturn, 1) := by decide +kernel
set_option maxRecDepth 20000 in
theorem ggX0_lenientFine_X2_isBidder : GoodIn wsX0_lenientFine wsX2_isBidder := goodIn_r _ [6] (by decide +kernel) (by decide +kernel)
set_option maxRecDepth 20000 in
theorem gX0_lenientFine_X2_isBidder_n39 : GoodIn wsX0_lenientFine (wsX2_isBidder) := ggX0_lenientFine_X2_isBidder
theorem dX0_lenientFine_0 : decode cX0_lenientFine 0 = .ok (.iload_n 1, 1) := by decide +kernel
theorem dX0_lenientFine_1 : decode cX0_lenientFine 1 = .ok (.invokestatic 39, 3) := by decide +kernel
theorem dX0_lenientFine_4 : decode cX0_lenientFine 4 = .ok (.ifCond .eq 12, 3) := by decide +kernel
theorem dX0_lenientFine_7 : decode cX0_lenientFine 7 = .ok (.aload_n 0, 1) := by decide +kernel
theorem dX0_lenientFine_8 : decode cX0_lenientFine 8 = .ok (.getfield 15, 3) := by decide +kernel
theorem dX0_lenientFine_11 : decode cX0_lenientFine 11 = .ok (.iload_n 1, 1) := by decide +kernel
theorem dX0_lenientFine_12 : decode cX0_lenientFine 12 = .ok (.iaload, 1) := by decide +kernel
theorem dX0_lenientFine_13 : decode cX0_lenientFine 13 = .ok (.goto 4, 3) := by decide +kernel
theorem dX0_lenientFine_16 : decode cX0_lenientFine 16 = .ok (.iconst 0, 1) := by decide +kernel
theorem dX0_lenientFine_17 : decode cX0_lenientFine 17 = .ok (.istore_n 3, 1) := by decide +kernel
theorem dX0_lenientFine_18 : decode cX0_lenientFine 18 = .ok (.iload_n 3, 1) := by decide +kernel
theorem dX0_lenientFine_19 : decode cX0_lenientFine 19 = .ok (.ifCond .ne 5, 3) := by decide +kernel
theorem dX0_lenientFine_22 : decode cX0_lenientFine 22 = .ok (.iload_n 2, 1) := by decide +kernel
theorem dX0_lenientFine_23 : decode cX0_lenientFine 23 = .ok (.ireturn, 1) := by decide +kernel
theorem dX0_lenientFine_24 : decode cX0_lenientFine 24 = .ok (.iload_n 1, 1) := by decide +kernel
theorem dX0_lenientFine_25 : decode cX0_lenientFine 25 = .ok (.aload_n 0, 1) := by decide +kernel
theorem dX0_lenientFine_26 : decode cX0_lenientFine 26 = .ok (.getfield 26, 3) := by decide +kernel
theorem dX0_lenientFine_29 : decode cX0_lenientFine 29 = .ok (.if_icmp .eq 9, 3) := by decide +kernel
theorem dX0_lenientFine_32 : decode cX0_lenientFine 32 = .ok (.iload_n 2, 1) := by decide +kernel
theorem dX0_lenientFine_33 : decode cX0_lenientFine 33 = .ok (.iload_n 2, 1) := by decide +kernel
theorem dX0_lenientFine_34 : decode cX0_lenientFine 34 = .ok (.iconst 4, 1) := by decide +kernel
theorem dX0_lenientFine_35 : decode cX0_lenientFine 35 = .ok (.idiv, 1) := by decide +kernel
theorem dX0_lenientFine_36 : decode cX0_lenientFine 36 = .ok (.isub, 1) := by decide +kernel
theorem dX0_lenientFine_37 : decode cX0_lenientFine 37 = .ok (.ireturn, 1) := by decide +kernel
theorem dX0_lenientFine_38 : decode cX0_lenientFine 38 = .ok (.iconst 2, 1) := by decide +kernel
theorem dX0_lenientFine_39 : decode cX0_lenientFine 39 = .ok (.iload_n 3, 1) := by decide +kernel
theorem dX0_lenientFine_40 : decode cX0_lenientFine 40 = .ok (.imul, 1) := by decide +kernel
theorem dX0_lenientFine_41 : decode cX0_lenientFine 41 = .ok (.aload_n 0, 1) := by decide +kernel
theorem dX0_lenientFine_42 : decode cX0_lenientFine 42 = .ok (.getfield 22, 3) := by decide +kernel
theorem dX0_lenientFine_45 : decode cX0_lenientFine 45 = .ok (.if_icmp .lt 7, 3) := by decide +kernel
theorem dX0_lenientFine_48 : decode cX0_lenientFine 48 = .ok (.iconst 0, 1) := by decide +kernel
theorem dX0_lenientFine_49 : decode cX0_lenientFine 49 = .ok (.goto 6, 3) := by decide +kernel
theorem dX0_lenientFine_52 : decode cX0_lenientFine 52 = .ok (.iload_n 2, 1) := by decide +kernel
theorem dX0_lenientFine_53 : decode cX0_lenientFine 53 = .ok (.iconst 2, 1) := by decide +kernel
theorem dX0_lenientFine_54 : decode cX0_lenientFine 54 = .ok (.idiv, 1) := by decide +kernel
theorem dX0_lenientFine_55 : decode cX0_lenientFine 55 = .ok (.ireturn, 1) := by decide +kernel
theorem dX1_init_0 : decode cX1_init 0 = .ok (.aload_n 0, 1) := by decide +kernel
theorem dX1_init_1 : decode cX1_init 1 = .ok (.invokespecial 3, 3) := by decide +kernel
theorem dX1_init_4 : decode cX1_init 4 = .ok (.aload_n 0, 1) := by decide +kernel
theorem dX1_init_5 : decode cX1_init 5 = .ok (.bipush 7, 2) := by decide +kernel
theorem dX1_init_7 : decode cX1_init 7 = .ok (.newarray .int, 2) := by decide +kernel
theorem dX1_init_9 : decode cX1_init 9 = .ok (.putfield 9, 3) := by decide +kernel
theorem dX1_init_12 : decode cX1_init 12 = .ok (.aload_n 0, 1) := by decide +kernel
theorem dX1_init_13 : decode cX1_init 13 = .ok (.bipush 7, 2) := by decide +kernel
theorem dX1_init_15 : decode cX1_init 15 = .ok (.newarray .boolean, 2) := by decide +kernel
theorem dX1_init_17 : decode cX1_init 17 = .ok (.putfield 15, 3) := by decide +kernel
theorem dX1_init_20 : decode cX1_init 20 = .ok (.aload_n 0, 1) := by decide +kernel
theorem dX1_init_21 : decode cX1_init 21 = .ok (.iconst 0, 1) := by decide +kernel
theorem dX1_init_22 : decode cX1_init 22 = .ok (.putfield 19, 3) := by decide +kernel
theorem dX1_init_25 : decode cX1_init 25 = .ok (.aload_n 0, 1) := by decide +kernel
theorem dX1_init_26 : decode cX1_init 26 = .ok (.iconst (-1), 1) := by decide +kernel
theorem dX1_init_27 : decode cX1_init 27 = .ok (.putfield 23, 3) := by decide +kernel
theorem dX1_init_30 : decode cX1_init 30 = .ok (.aload_n 0, 1) := by decide +kernel
theorem dX1_init_31 : decode cX1_init 31 = .ok (.iconst (-1), 1) := by decide +kernel
theorem dX1_init_32 : decode cX1_init 32 = .ok (.putfield 27, 3) := by decide +kernel
theorem dX1_init_35 : decode cX1_init 35 = .ok (.aload_n 0, 1) := by decide +kernel
theorem dX1_init_36 : decode cX1_init 36 = .ok (.iconst 0, 1) := by decide +kernel
theorem dX1_init_37 : decode cX1_init 37 = .ok (.putfield 30, 3) := by decide +kernel
theorem dX1_init_40 : decode cX1_init 40 = .ok (.return_, 1) := by decide +kernel
theorem dX1_isOpen_0 : decode cX1_isOpen 0 = .ok (.aload_n 0, 1) := by decide +kernel
theorem dX1_isOpen_1 : decode cX1_isOpen 1 = .ok (.getfield 19, 3) := by decide +kernel
theorem dX1_isOpen_4 : decode cX1_isOpen 4 = .ok (.ifCond .ne 7, 3) := by decide +kernel
theorem dX1_isOpen_7 : decode cX1_isOpen 7 = .ok (.iconst 1, 1) := by decide +kernel
theorem dX1_isOpen_8 : decode cX1_isOpen 8 = .ok (.goto 4, 3) := by decide +kernel
theorem dX1_isOpen_11 : decode cX1_isOpen 11 = .ok (.iconst 0, 1) := by decide +kernel
theorem dX1_isOpen_12 : decode cX1_isOpen 12 = .ok (.ireturn, 1) := by decide +kernel
theorem dX1_isAwarded_0 : decode cX1_isAwarded 0 = .ok (.aload_n 0, 1) := by decide +kernel
theorem dX1_isAwarded_1 : decode cX1_isAwarded 1 = .ok (.getfield 23, 3) := by decide +kernel
theorem dX1_isAwarded_4 : decode cX1_isAwarded 4 = .ok (.iconst (-1), 1) := by decide +kernel
theorem dX1_isAwarded_5 : decode cX1_isAwarded 5 = .ok (.if_icmp .eq 7, 3) := by decide +kernel
theorem dX1_isAwarded_8 : decode cX1_isAwarded 8 = .ok (.iconst 1, 1) := by decide +kernel
theorem dX1_isAwarded_9 : decode cX1_isAwarded 9 = .ok (.goto 4, 3) := by decide +kernel
theorem dX1_isAwarded_12 : decode cX1_isAwarded 12 = .ok (.iconst 0, 1) := by decide +kernel
theorem dX1_isAwarded_13 : decode cX1_isAwarded 13 = .ok (.ireturn, 1) := by decide +kernel
theorem dX1_isPassedOn_0 : decode cX1_isPassedOn 0 = .ok (.aload_n 0, 1) := by decide +kernel
theorem dX1_isPassedOn_1 : decode cX1_isPassedOn 1 = .ok (.getfield 27, 3) := by decide +kernel
theorem dX1_isPassedOn_4 : decode cX1_isPassedOn 4 = .ok (.iconst (-1), 1) := by decide +kernel
theorem dX1_isPassedOn_5 : decode cX1_isPassedOn 5 = .ok (.if_icmp .eq 7, 3) := by decide +kernel
theorem dX1_isPassedOn_8 : decode cX1_isPassedOn 8 = .ok (.iconst 1, 1) := by decide +kernel
theorem dX1_isPassedOn_9 : decode cX1_isPassedOn 9 = .ok (.goto 4, 3) := by decide +kernel
theorem dX1_isPassedOn_12 : decode cX1_isPassedOn 12 = .ok (.iconst 0, 1) := by decide +kernel
theorem dX1_isPassedOn_13 : decode cX1_isPassedOn 13 = .ok (.ireturn, 1) := by decide +kernel
theorem dX1_winner_0 : decode cX1_winner 0 = .ok (.aload_n 0, 1) := by decide +kernel
theorem dX1_winner_1 : decode cX1_winner 1 = .ok (.getfield 23, 3) := by decide +kernel
theorem dX1_winner_4 : decode cX1_winner 4 = .ok (.ireturn, 1) := by decide +kernel
set_option maxRecDepth 20000 in
theorem ggX1_sumOf_X2_isBidder : GoodIn wsX1_sumOf wsX2_isBidder := goodIn_r _ [4] (by decide +kernel) (by decide +kernel)
set_option maxRecDepth 20000 in
theorem gX1_sumOf_X2_isBidder_n33 : GoodIn wsX1_sumOf (wsX2_isBidder) := ggX1_sumOf_X2_isBidder
theorem dX1_sumOf_0 : decode cX1_sumOf 0 = .ok (.iload_n 1, 1) := by decide +kernel
theorem dX1_sumOf_1 : decode cX1_sumOf 1 = .ok (.invokestatic 33, 3) := by decide +kernel
theorem dX1_sumOf_4 : decode cX1_sumOf 4 = .ok (.ifCond .eq 12, 3) := by decide +kernel
theorem dX1_sumOf_7 : decode cX1_sumOf 7 = .ok (.aload_n 0, 1) := by decide +kernel
theorem dX1_sumOf_8 : decode cX1_sumOf 8 = .ok (.getfield 9, 3) := by decide +kernel
theorem dX1_sumOf_11 : decode cX1_sumOf 11 = .ok (.iload_n 1, 1) := by decide +kernel
theorem dX1_sumOf_12 : decode cX1_sumOf 12 = .ok (.iaload, 1) := by decide +kernel
theorem dX1_sumOf_13 : decode cX1_sumOf 13 = .ok (.goto 4, 3) := by decide +kernel
theorem dX1_sumOf_16 : decode cX1_sumOf 16 = .ok (.iconst 0, 1) := by decide +kernel
theorem dX1_sumOf_17 : decode cX1_sumOf 17 = .ok (.ireturn, 1) := by decide +kernel
set_option maxRecDepth 20000 in
theorem ggX1_hasBidOf_X2_isBidder : GoodIn wsX1_hasBidOf wsX2_isBidder := goodIn_r _ [4] (by decide +kernel) (by decide +kernel)
set_option maxRecDepth 20000 in
theorem gX1_hasBidOf_X2_isBidder_n33 : GoodIn wsX1_hasBidOf (wsX2_isBidder) := ggX1_hasBidOf_X2_isBidder
theorem dX1_hasBidOf_0 : decode cX1_hasBidOf 0 = .ok (.iload_n 1, 1) := by decide +kernel
theorem dX1_hasBidOf_1 : decode cX1_hasBidOf 1 = .ok (.invokestatic 33, 3) := by decide +kernel
theorem dX1_hasBidOf_4 : decode cX1_hasBidOf 4 = .ok (.ifCond .eq 16, 3) := by decide +kernel
theorem dX1_hasBidOf_7 : decode cX1_hasBidOf 7 = .ok (.aload_n 0, 1) := by decide +kernel
theorem dX1_hasBidOf_8 : decode cX1_hasBidOf 8 = .ok (.getfield 9, 3) := by decide +kernel
theorem dX1_hasBidOf_11 : decode cX1_hasBidOf 11 = .ok (.iload_n 1, 1) := by decide +kernel
theorem dX1_hasBidOf_12 : decode cX1_hasBidOf 12 = .ok (.iaload, 1) := by decide +kernel
theorem dX1_hasBidOf_13 : decode cX1_hasBidOf 13 = .ok (.ifCond .le 7, 3) := by decide +kernel
theorem dX1_hasBidOf_16 : decode cX1_hasBidOf 16 = .ok (.iconst 1, 1) := by decide +kernel
theorem dX1_hasBidOf_17 : decode cX1_hasBidOf 17 = .ok (.goto 4, 3) := by decide +kernel
theorem dX1_hasBidOf_20 : decode cX1_hasBidOf 20 = .ok (.iconst 0, 1) := by decide +kernel
theorem dX1_hasBidOf_21 : decode cX1_hasBidOf 21 = .ok (.ireturn, 1) := by decide +kernel
set_option maxRecDepth 20000 in
theorem ggX1_hasWithdrawn_X2_isBidder : GoodIn wsX1_hasWithdrawn wsX2_isBidder := goodIn_r _ [4] (by decide +kernel) (by decide +kernel)
set_option maxRecDepth 20000 in
theorem gX1_hasWithdrawn_X2_isBidder_n33 : GoodIn wsX1_hasWithdrawn (wsX2_isBidder) := ggX1_hasWithdrawn_X2_isBidder
theorem dX1_hasWithdrawn_0 : decode cX1_hasWithdrawn 0 = .ok (.iload_n 1, 1) := by decide +kernel
theorem dX1_hasWithdrawn_1 : decode cX1_hasWithdrawn 1 = .ok (.invokestatic 33, 3) := by decide +kernel
theorem dX1_hasWithdrawn_4 : decode cX1_hasWithdrawn 4 = .ok (.ifCond .eq 16, 3) := by decide +kernel
theorem dX1_hasWithdrawn_7 : decode cX1_hasWithdrawn 7 = .ok (.aload_n 0, 1) := by decide +kernel
theorem dX1_hasWithdrawn_8 : decode cX1_hasWithdrawn 8 = .ok (.getfield 15, 3) := by decide +kernel
theorem dX1_hasWithdrawn_11 : decode cX1_hasWithdrawn 11 = .ok (.iload_n 1, 1) := by decide +kernel
theorem dX1_hasWithdrawn_12 : decode cX1_hasWithdrawn 12 = .ok (.baload, 1) := by decide +kernel
theorem dX1_hasWithdrawn_13 : decode cX1_hasWithdrawn 13 = .ok (.ifCond .eq 7, 3) := by decide +kernel
theorem dX1_hasWithdrawn_16 : decode cX1_hasWithdrawn 16 = .ok (.iconst 1, 1) := by decide +kernel
theorem dX1_hasWithdrawn_17 : decode cX1_hasWithdrawn 17 = .ok (.goto 4, 3) := by decide +kernel
theorem dX1_hasWithdrawn_20 : decode cX1_hasWithdrawn 20 = .ok (.iconst 0, 1) := by decide +kernel
theorem dX1_hasWithdrawn_21 : decode cX1_hasWithdrawn 21 = .ok (.ireturn, 1) := by decide +kernel
set_option maxRecDepth 20000 in
theorem ggX1_isStanding_X2_isBidder : GoodIn wsX1_isStanding wsX2_isBidder := goodIn_r _ [5] (by decide +kernel) (by decide +kernel)
set_option maxRecDepth 20000 in
theorem gX1_isStanding_X2_isBidder_n33 : GoodIn wsX1_isStanding (wsX2_isBidder) := ggX1_isStanding_X2_isBidder
theorem dX1_isStanding_0 : decode cX1_isStanding 0 = .ok (.iload_n 1, 1) := by decide +kernel
theorem dX1_isStanding_1 : decode cX1_isStanding 1 = .ok (.invokestatic 33, 3) := by decide +kernel
theorem dX1_isStanding_4 : decode cX1_isStanding 4 = .ok (.ifCond .eq 25, 3) := by decide +kernel
theorem dX1_isStanding_7 : decode cX1_isStanding 7 = .ok (.aload_n 0, 1) := by decide +kernel
theorem dX1_isStanding_8 : decode cX1_isStanding 8 = .ok (.getfield 9, 3) := by decide +kernel
theorem dX1_isStanding_11 : decode cX1_isStanding 11 = .ok (.iload_n 1, 1) := by decide +kernel
theorem dX1_isStanding_12 : decode cX1_isStanding 12 = .ok (.iaload, 1) := by decide +kernel
theorem dX1_isStanding_13 : decode cX1_isStanding 13 = .ok (.ifCond .le 16, 3) := by decide +kernel
theorem dX1_isStanding_16 : decode cX1_isStanding 16 = .ok (.aload_n 0, 1) := by decide +kernel
theorem dX1_isStanding_17 : decode cX1_isStanding 17 = .ok (.getfield 15, 3) := by decide +kernel
theorem dX1_isStanding_20 : decode cX1_isStanding 20 = .ok (.iload_n 1, 1) := by decide +kernel
theorem dX1_isStanding_21 : decode cX1_isStanding 21 = .ok (.baload, 1) := by decide +kernel
theorem dX1_isStanding_22 : decode cX1_isStanding 22 = .ok (.ifCond .ne 7, 3) := by decide +kernel
theorem dX1_isStanding_25 : decode cX1_isStanding 25 = .ok (.iconst 1, 1) := by decide +kernel
theorem dX1_isStanding_26 : decode cX1_isStanding 26 = .ok (.goto 4, 3) := by decide +kernel
theorem dX1_isStanding_29 : decode cX1_isStanding 29 = .ok (.iconst 0, 1) := by decide +kernel
theorem dX1_isStanding_30 : decode cX1_isStanding 30 = .ok (.ireturn, 1) := by decide +kernel
set_option maxRecDepth 20000 in
theorem ggX1_countStanding_X1_isStanding : GoodIn wsX1_countStanding wsX1_isStanding := goodIn_r _ [5, 6, 7, 8, 9, 10, 11, 12, 13, 14, 15, 16] (by decide +kernel) (by decide +kernel)
set_option maxRecDepth 20000 in
theorem gX1_countStanding_X1_isStanding : GoodIn wsX1_countStanding (wsV RX1 37 RX1 yX1_isStanding wsX1_isStanding) := goodIn_app (goodIn_of _ (by decide +kernel)) ggX1_countStanding_X1_isStanding
theorem dX1_countStanding_0 : decode cX1_countStanding 0 = .ok (.iconst 0, 1) := by decide +kernel
theorem dX1_countStanding_1 : decode cX1_countStanding 1 = .ok (.istore_n 1, 1) := by decide +kernel
theorem dX1_countStanding_2 : decode cX1_countStanding 2 = .ok (.iconst 0, 1) := by decide +kernel
theorem dX1_countStanding_3 : decode cX1_countStanding 3 = .ok (.istore_n 2, 1) := by decide +kernel
theorem dX1_countStanding_4 : decode cX1_countStanding 4 = .ok (.iload_n 2, 1) := by decide +kernel
theorem dX1_countStanding_5 : decode cX1_countStanding 5 = .ok (.bipush 7, 2) := by decide +kernel
theorem dX1_countStanding_7 : decode cX1_countStanding 7 = .ok (.if_icmp .ge 20, 3) := by decide +kernel
theorem dX1_countStanding_10 : decode cX1_countStanding 10 = .ok (.aload_n 0, 1) := by decide +kernel
theorem dX1_countStanding_11 : decode cX1_countStanding 11 = .ok (.iload_n 2, 1) := by decide +kernel
theorem dX1_countStanding_12 : decode cX1_countStanding 12 = .ok (.invokevirtual 37, 3) := by decide +kernel
theorem dX1_countStanding_15 : decode cX1_countStanding 15 = .ok (.ifCond .eq 6, 3) := by decide +kernel
theorem dX1_countStanding_18 : decode cX1_countStanding 18 = .ok (.iinc 1 1, 3) := by decide +kernel
theorem dX1_countStanding_21 : decode cX1_countStanding 21 = .ok (.iinc 2 1, 3) := by decide +kernel
theorem dX1_countStanding_24 : decode cX1_countStanding 24 = .ok (.goto (-20), 3) := by decide +kernel
theorem dX1_countStanding_27 : decode cX1_countStanding 27 = .ok (.iload_n 1, 1) := by decide +kernel
theorem dX1_countStanding_28 : decode cX1_countStanding 28 = .ok (.ireturn, 1) := by decide +kernel
set_option maxRecDepth 20000 in
theorem ggX1_takeBid_X2_isBidder : GoodIn wsX1_takeBid wsX2_isBidder := goodIn_r _ [4] (by decide +kernel) (by decide +kernel)
set_option maxRecDepth 20000 in
theorem gX1_takeBid_X2_isBidder_n33 : GoodIn wsX1_takeBid (wsX2_isBidder) := ggX1_takeBid_X2_isBidder
theorem dX1_takeBid_0 : decode cX1_takeBid 0 = .ok (.iload_n 1, 1) := by decide +kernel
theorem dX1_takeBid_1 : decode cX1_takeBid 1 = .ok (.invokestatic 33, 3) := by decide +kernel
theorem dX1_takeBid_4 : decode cX1_takeBid 4 = .ok (.ifCond .eq 10, 3) := by decide +kernel
theorem dX1_takeBid_7 : decode cX1_takeBid 7 = .ok (.aload_n 0, 1) := by decide +kernel
theorem dX1_takeBid_8 : decode cX1_takeBid 8 = .ok (.getfield 9, 3) := by decide +kernel
theorem dX1_takeBid_11 : decode cX1_takeBid 11 = .ok (.iload_n 1, 1) := by decide +kernel
theorem dX1_takeBid_12 : decode cX1_takeBid 12 = .ok (.iload_n 2, 1) := by decide +kernel
theorem dX1_takeBid_13 : decode cX1_takeBid 13 = .ok (.iastore, 1) := by decide +kernel
theorem dX1_takeBid_14 : decode cX1_takeBid 14 = .ok (.return_, 1) := by decide +kernel
set_option maxRecDepth 20000 in
theorem ggX1_giveBack_X2_isBidder : GoodIn wsX1_giveBack wsX2_isBidder := goodIn_r _ [4] (by decide +kernel) (by decide +kernel)
set_option maxRecDepth 20000 in
theorem gX1_giveBack_X2_isBidder_n33 : GoodIn wsX1_giveBack (wsX2_isBidder) := ggX1_giveBack_X2_isBidder
theorem dX1_giveBack_0 : decode cX1_giveBack 0 = .ok (.iload_n 1, 1) := by decide +kernel
theorem dX1_giveBack_1 : decode cX1_giveBack 1 = .ok (.invokestatic 33, 3) := by decide +kernel
theorem dX1_giveBack_4 : decode cX1_giveBack 4 = .ok (.ifCond .eq 10, 3) := by decide +kernel
theorem dX1_giveBack_7 : decode cX1_giveBack 7 = .ok (.aload_n 0, 1) := by decide +kernel
theorem dX1_giveBack_8 : decode cX1_giveBack 8 = .ok (.getfield 15, 3) := by decide +kernel
theorem dX1_giveBack_11 : decode cX1_giveBack 11 = .ok (.iload_n 1, 1) := by decide +kernel
theorem dX1_giveBack_12 : decode cX1_giveBack 12 = .ok (.iconst 1, 1) := by decide +kernel
theorem dX1_giveBack_13 : decode cX1_giveBack 13 = .ok (.bastore, 1) := by decide +kernel
theorem dX1_giveBack_14 : decode cX1_giveBack 14 = .ok (.return_, 1) := by decide +kernel
set_option maxRecDepth 20000 in
theorem ggX1_decide_X1_isStanding : GoodIn wsX1_decide wsX1_isStanding := goodIn_r _ [7, 8, 9, 10, 11, 12, 17, 18, 19, 20, 21, 22] (by decide +kernel) (by decide +kernel)
set_option maxRecDepth 20000 in
theorem gX1_decide_X1_isStanding : GoodIn wsX1_decide (wsV RX1 37 RX1 yX1_isStanding wsX1_isStanding) := goodIn_app (goodIn_of _ (by decide +kernel)) ggX1_decide_X1_isStanding
set_option maxRecDepth 20000 in
theorem ggX1_decide_X1_sumOf : GoodIn wsX1_decide wsX1_sumOf := goodIn_r _ [16, 8, 10, 11, 12, 17, 18, 19, 20, 21, 22] (by decide +kernel) (by decide +kernel)
set_option maxRecDepth 20000 in
theorem gX1_decide_X1_sumOf : GoodIn wsX1_decide (wsV RX1 40 RX1 yX1_sumOf wsX1_sumOf) := goodIn_app (goodIn_of _ (by decide +kernel)) ggX1_decide_X1_sumOf
theorem dX1_decide_0 : decode cX1_decide 0 = .ok (.iconst (-1), 1) := by decide +kernel
theorem dX1_decide_1 : decode cX1_decide 1 = .ok (.istore_n 1, 1) := by decide +kernel
theorem dX1_decide_2 : decode cX1_decide 2 = .ok (.iconst 0, 1) := by decide +kernel
theorem dX1_decide_3 : decode cX1_decide 3 = .ok (.istore_n 2, 1) := by decide +kernel
theorem dX1_decide_4 : decode cX1_decide 4 = .ok (.iload_n 2, 1) := by decide +kernel
theorem dX1_decide_5 : decode cX1_decide 5 = .ok (.bipush 7, 2) := by decide +kernel
theorem dX1_decide_7 : decode cX1_decide 7 = .ok (.if_icmp .ge 37, 3) := by decide +kernel
theorem dX1_decide_10 : decode cX1_decide 10 = .ok (.aload_n 0, 1) := by decide +kernel
theorem dX1_decide_11 : decode cX1_decide 11 = .ok (.iload_n 2, 1) := by decide +kernel
theorem dX1_decide_12 : decode cX1_decide 12 = .ok (.invokevirtual 37, 3) := by decide +kernel
theorem dX1_decide_15 : decode cX1_decide 15 = .ok (.ifCond .eq 23, 3) := by decide +kernel
theorem dX1_decide_18 : decode cX1_decide 18 = .ok (.iload_n 1, 1) := by decide +kernel
theorem dX1_decide_19 : decode cX1_decide 19 = .ok (.iconst (-1), 1) := by decide +kernel
theorem dX1_decide_20 : decode cX1_decide 20 = .ok (.if_icmp .eq 16, 3) := by decide +kernel
theorem dX1_decide_23 : decode cX1_decide 23 = .ok (.aload_n 0, 1) := by decide +kernel
theorem dX1_decide_24 : decode cX1_decide 24 = .ok (.iload_n 2, 1) := by decide +kernel
theorem dX1_decide_25 : decode cX1_decide 25 = .ok (.invokevirtual 40, 3) := by decide +kernel
theorem dX1_decide_28 : decode cX1_decide 28 = .ok (.aload_n 0, 1) := by decide +kernel
theorem dX1_decide_29 : decode cX1_decide 29 = .ok (.iload_n 1, 1) := by decide +kernel
theorem dX1_decide_30 : decode cX1_decide 30 = .ok (.invokevirtual 40, 3) := by decide +kernel
theorem dX1_decide_33 : decode cX1_decide 33 = .ok (.if_icmp .ge 5, 3) := by decide +kernel
theorem dX1_decide_36 : decode cX1_decide 36 = .ok (.iload_n 2, 1) := by decide +kernel
theorem dX1_decide_37 : decode cX1_decide 37 = .ok (.istore_n 1, 1) := by decide +kernel
theorem dX1_decide_38 : decode cX1_decide 38 = .ok (.iinc 2 1, 3) := by decide +kernel
theorem dX1_decide_41 : decode cX1_decide 41 = .ok (.goto (-37), 3) := by decide +kernel
theorem dX1_decide_44 : decode cX1_decide 44 = .ok (.aload_n 0, 1) := by decide +kernel
theorem dX1_decide_45 : decode cX1_decide 45 = .ok (.iload_n 1, 1) := by decide +kernel
theorem dX1_decide_46 : decode cX1_decide 46 = .ok (.putfield 23, 3) := by decide +kernel
theorem dX1_decide_49 : decode cX1_decide 49 = .ok (.aload_n 0, 1) := by decide +kernel
theorem dX1_decide_50 : decode cX1_decide 50 = .ok (.iconst 1, 1) := by decide +kernel
theorem dX1_decide_51 : decode cX1_decide 51 = .ok (.putfield 19, 3) := by decide +kernel
theorem dX1_decide_54 : decode cX1_decide 54 = .ok (.return_, 1) := by decide +kernel
theorem dX1_giveOver_0 : decode cX1_giveOver 0 = .ok (.aload_n 0, 1) := by decide +kernel
theorem dX1_giveOver_1 : decode cX1_giveOver 1 = .ok (.iload_n 1, 1) := by decide +kernel
theorem dX1_giveOver_2 : decode cX1_giveOver 2 = .ok (.putfield 27, 3) := by decide +kernel
theorem dX1_giveOver_5 : decode cX1_giveOver 5 = .ok (.aload_n 0, 1) := by decide +kernel
theorem dX1_giveOver_6 : decode cX1_giveOver 6 = .ok (.iload_n 2, 1) := by decide +kernel
theorem dX1_giveOver_7 : decode cX1_giveOver 7 = .ok (.putfield 30, 3) := by decide +kernel
theorem dX1_giveOver_10 : decode cX1_giveOver 10 = .ok (.return_, 1) := by decide +kernel
set_option maxRecDepth 20000 in
theorem ggX1_incomeOf_X1_sumOf : GoodIn wsX1_incomeOf wsX1_sumOf := goodIn_r _ [8, 9, 10, 11, 12, 13, 14, 15, 16, 17, 18] (by decide +kernel) (by decide +kernel)
set_option maxRecDepth 20000 in
theorem gX1_incomeOf_X1_sumOf : GoodIn wsX1_incomeOf (wsV RX1 40 RX1 yX1_sumOf wsX1_sumOf) := goodIn_app (goodIn_of _ (by decide +kernel)) ggX1_incomeOf_X1_sumOf
theorem dX1_incomeOf_0 : decode cX1_incomeOf 0 = .ok (.iload_n 1, 1) := by decide +kernel
theorem dX1_incomeOf_1 : decode cX1_incomeOf 1 = .ok (.aload_n 0, 1) := by decide +kernel
theorem dX1_incomeOf_2 : decode cX1_incomeOf 2 = .ok (.getfield 23, 3) := by decide +kernel
theorem dX1_incomeOf_5 : decode cX1_incomeOf 5 = .ok (.if_icmp .ne 14, 3) := by decide +kernel
theorem dX1_incomeOf_8 : decode cX1_incomeOf 8 = .ok (.aload_n 0, 1) := by decide +kernel
theorem dX1_incomeOf_9 : decode cX1_incomeOf 9 = .ok (.iload_n 1, 1) := by decide +kernel
theorem dX1_incomeOf_10 : decode cX1_incomeOf 10 = .ok (.invokevirtual 40, 3) := by decide +kernel
theorem dX1_incomeOf_13 : decode cX1_incomeOf 13 = .ok (.aload_n 0, 1) := by decide +kernel
theorem dX1_incomeOf_14 : decode cX1_incomeOf 14 = .ok (.getfield 30, 3) := by decide +kernel
theorem dX1_incomeOf_17 : decode cX1_incomeOf 17 = .ok (.isub, 1) := by decide +kernel
theorem dX1_incomeOf_18 : decode cX1_incomeOf 18 = .ok (.ireturn, 1) := by decide +kernel
theorem dX1_incomeOf_19 : decode cX1_incomeOf 19 = .ok (.iload_n 1, 1) := by decide +kernel
theorem dX1_incomeOf_20 : decode cX1_incomeOf 20 = .ok (.aload_n 0, 1) := by decide +kernel
theorem dX1_incomeOf_21 : decode cX1_incomeOf 21 = .ok (.getfield 27, 3) := by decide +kernel
theorem dX1_incomeOf_24 : decode cX1_incomeOf 24 = .ok (.if_icmp .ne 10, 3) := by decide +kernel
theorem dX1_incomeOf_27 : decode cX1_incomeOf 27 = .ok (.aload_n 0, 1) := by decide +kernel
theorem dX1_incomeOf_28 : decode cX1_incomeOf 28 = .ok (.getfield 30, 3) := by decide +kernel
theorem dX1_incomeOf_31 : decode cX1_incomeOf 31 = .ok (.goto 4, 3) := by decide +kernel
theorem dX1_incomeOf_34 : decode cX1_incomeOf 34 = .ok (.iconst 0, 1) := by decide +kernel
theorem dX1_incomeOf_35 : decode cX1_incomeOf 35 = .ok (.ireturn, 1) := by decide +kernel
set_option maxRecDepth 20000 in
theorem ggX1_signsOfLoser_X1_isStanding : GoodIn wsX1_signsOfLoser wsX1_isStanding := goodIn_r _ [6, 7, 8, 9, 10, 11, 29, 30, 31, 32, 33, 34] (by decide +kernel) (by decide +kernel)
set_option maxRecDepth 20000 in
theorem gX1_signsOfLoser_X1_isStanding : GoodIn wsX1_signsOfLoser (wsV RX1 37 RX1 yX1_isStanding wsX1_isStanding) := goodIn_app (goodIn_of _ (by decide +kernel)) ggX1_signsOfLoser_X1_isStanding
set_option maxRecDepth 20000 in
theorem ggX1_signsOfLoser_X1_sumOf : GoodIn wsX1_signsOfLoser wsX1_sumOf := goodIn_r _ [15, 7, 9, 10, 11, 29, 30, 31, 32, 33, 34] (by decide +kernel) (by decide +kernel)
set_option maxRecDepth 20000 in
theorem gX1_signsOfLoser_X1_sumOf : GoodIn wsX1_signsOfLoser (wsV RX1 40 RX1 yX1_sumOf wsX1_sumOf) := goodIn_app (goodIn_of _ (by decide +kernel)) ggX1_signsOfLoser_X1_sumOf
set_option maxRecDepth 20000 in
theorem ggX1_signsOfLoser_X1_isNear : GoodIn wsX1_signsOfLoser wsX1_isNear := goodIn_r _ [19, 20, 12, 13, 14, 5, 15, 7, 9, 10, 11, 29, 30, 31, 32, 33, 34] (by decide +kernel) (by decide +kernel)
set_option maxRecDepth 20000 in
theorem gX1_signsOfLoser_X1_isNear : GoodIn wsX1_signsOfLoser (wsV RX1 44 RX1 yX1_isNear wsX1_isNear) := goodIn_app (goodIn_of _ (by decide +kernel)) ggX1_signsOfLoser_X1_isNear
set_option maxRecDepth 20000 in
theorem ggX1_signsOfLoser_X1_hasBidOf : GoodIn wsX1_signsOfLoser wsX1_hasBidOf := goodIn_r _ [24, 7, 9, 10, 11, 29, 30, 31, 32, 33, 34] (by decide +kernel) (by decide +kernel)
set_option maxRecDepth 20000 in
theorem gX1_signsOfLoser_X1_hasBidOf : GoodIn wsX1_signsOfLoser (wsV RX1 47 RX1 yX1_hasBidOf wsX1_hasBidOf) := goodIn_app (goodIn_of _ (by decide +kernel)) ggX1_signsOfLoser_X1_hasBidOf
set_option maxRecDepth 20000 in
theorem ggX1_signsOfLoser_X1_hasWithdrawn : GoodIn wsX1_signsOfLoser wsX1_hasWithdrawn := goodIn_r _ [28, 8, 9, 10, 11, 29, 30, 31, 32, 33, 34] (by decide +kernel) (by decide +kernel)
set_option maxRecDepth 20000 in
theorem gX1_signsOfLoser_X1_hasWithdrawn : GoodIn wsX1_signsOfLoser (wsV RX1 50 RX1 yX1_hasWithdrawn wsX1_hasWithdrawn) := goodIn_app (goodIn_of _ (by decide +kernel)) ggX1_signsOfLoser_X1_hasWithdrawn
theorem dX1_signsOfLoser_0 : decode cX1_signsOfLoser 0 = .ok (.iconst 0, 1) := by decide +kernel
theorem dX1_signsOfLoser_1 : decode cX1_signsOfLoser 1 = .ok (.istore_n 2, 1) := by decide +kernel
theorem dX1_signsOfLoser_2 : decode cX1_signsOfLoser 2 = .ok (.aload_n 0, 1) := by decide +kernel
theorem dX1_signsOfLoser_3 : decode cX1_signsOfLoser 3 = .ok (.iload_n 1, 1) := by decide +kernel
theorem dX1_signsOfLoser_4 : decode cX1_signsOfLoser 4 = .ok (.invokevirtual 37, 3) := by decide +kernel
theorem dX1_signsOfLoser_7 : decode cX1_signsOfLoser 7 = .ok (.ifCond .eq 18, 3) := by decide +kernel
theorem dX1_signsOfLoser_10 : decode cX1_signsOfLoser 10 = .ok (.aload_n 0, 1) := by decide +kernel
theorem dX1_signsOfLoser_11 : decode cX1_signsOfLoser 11 = .ok (.aload_n 0, 1) := by decide +kernel
theorem dX1_signsOfLoser_12 : decode cX1_signsOfLoser 12 = .ok (.iload_n 1, 1) := by decide +kernel
theorem dX1_signsOfLoser_13 : decode cX1_signsOfLoser 13 = .ok (.invokevirtual 40, 3) := by decide +kernel
theorem dX1_signsOfLoser_16 : decode cX1_signsOfLoser 16 = .ok (.invokevirtual 44, 3) := by decide +kernel
theorem dX1_signsOfLoser_19 : decode cX1_signsOfLoser 19 = .ok (.ifCond .eq 6, 3) := by decide +kernel
theorem dX1_signsOfLoser_22 : decode cX1_signsOfLoser 22 = .ok (.iinc 2 2, 3) := by decide +kernel
theorem dX1_signsOfLoser_25 : decode cX1_signsOfLoser 25 = .ok (.aload_n 0, 1) := by decide +kernel
theorem dX1_signsOfLoser_26 : decode cX1_signsOfLoser 26 = .ok (.getfield 27, 3) := by decide +kernel
theorem dX1_signsOfLoser_29 : decode cX1_signsOfLoser 29 = .ok (.iload_n 1, 1) := by decide +kernel
theorem dX1_signsOfLoser_30 : decode cX1_signsOfLoser 30 = .ok (.if_icmp .ne 14, 3) := by decide +kernel
theorem dX1_signsOfLoser_33 : decode cX1_signsOfLoser 33 = .ok (.aload_n 0, 1) := by decide +kernel
theorem dX1_signsOfLoser_34 : decode cX1_signsOfLoser 34 = .ok (.iload_n 1, 1) := by decide +kernel
theorem dX1_signsOfLoser_35 : decode cX1_signsOfLoser 35 = .ok (.invokevirtual 47, 3) := by decide +kernel
theorem dX1_signsOfLoser_38 : decode cX1_signsOfLoser 38 = .ok (.ifCond .eq 6, 3) := by decide +kernel
theorem dX1_signsOfLoser_41 : decode cX1_signsOfLoser 41 = .ok (.iinc 2 3, 3) := by decide +kernel
theorem dX1_signsOfLoser_44 : decode cX1_signsOfLoser 44 = .ok (.aload_n 0, 1) := by decide +kernel
theorem dX1_signsOfLoser_45 : decode cX1_signsOfLoser 45 = .ok (.iload_n 1, 1) := by decide +kernel
theorem dX1_signsOfLoser_46 : decode cX1_signsOfLoser 46 = .ok (.invokevirtual 50, 3) := by decide +kernel
theorem dX1_signsOfLoser_49 : decode cX1_signsOfLoser 49 = .ok (.ifCond .eq 6, 3) := by decide +kernel
theorem dX1_signsOfLoser_52 : decode cX1_signsOfLoser 52 = .ok (.iinc 2 1, 3) := by decide +kernel
theorem dX1_signsOfLoser_55 : decode cX1_signsOfLoser 55 = .ok (.iload_n 2, 1) := by decide +kernel
theorem dX1_signsOfLoser_56 : decode cX1_signsOfLoser 56 = .ok (.ireturn, 1) := by decide +kernel
set_option maxRecDepth 20000 in
theorem ggX1_isNear_X1_sumOf : GoodIn wsX1_isNear wsX1_sumOf := goodIn_r _ [6, 7, 8, 9, 10, 11, 12, 13, 14, 15, 16] (by decide +kernel) (by decide +kernel)
set_option maxRecDepth 20000 in
theorem gX1_isNear_X1_sumOf : GoodIn wsX1_isNear (wsV RX1 40 RX1 yX1_sumOf wsX1_sumOf) := goodIn_app (goodIn_of _ (by decide +kernel)) ggX1_isNear_X1_sumOf
theorem dX1_isNear_0 : decode cX1_isNear 0 = .ok (.aload_n 0, 1) := by decide +kernel
theorem dX1_isNear_1 : decode cX1_isNear 1 = .ok (.aload_n 0, 1) := by decide +kernel
theorem dX1_isNear_2 : decode cX1_isNear 2 = .ok (.getfield 23, 3) := by decide +kernel
theorem dX1_isNear_5 : decode cX1_isNear 5 = .ok (.invokevirtual 40, 3) := by decide +kernel
theorem dX1_isNear_8 : decode cX1_isNear 8 = .ok (.istore_n 2, 1) := by decide +kernel
theorem dX1_isNear_9 : decode cX1_isNear 9 = .ok (.iload_n 1, 1) := by decide +kernel
theorem dX1_isNear_10 : decode cX1_isNear 10 = .ok (.iload_n 2, 1) := by decide +kernel
theorem dX1_isNear_11 : decode cX1_isNear 11 = .ok (.if_icmp .le 19, 3) := by decide +kernel
theorem dX1_isNear_14 : decode cX1_isNear 14 = .ok (.iload_n 1, 1) := by decide +kernel
theorem dX1_isNear_15 : decode cX1_isNear 15 = .ok (.iload_n 2, 1) := by decide +kernel
theorem dX1_isNear_16 : decode cX1_isNear 16 = .ok (.isub, 1) := by decide +kernel
theorem dX1_isNear_17 : decode cX1_isNear 17 = .ok (.iload_n 2, 1) := by decide +kernel
theorem dX1_isNear_18 : decode cX1_isNear 18 = .ok (.iconst 5, 1) := by decide +kernel
theorem dX1_isNear_19 : decode cX1_isNear 19 = .ok (.imul, 1) := by decide +kernel
theorem dX1_isNear_20 : decode cX1_isNear 20 = .ok (.bipush 100, 2) := by decide +kernel
theorem dX1_isNear_22 : decode cX1_isNear 22 = .ok (.idiv, 1) := by decide +kernel
theorem dX1_isNear_23 : decode cX1_isNear 23 = .ok (.if_icmp .gt 7, 3) := by decide +kernel
theorem dX1_isNear_26 : decode cX1_isNear 26 = .ok (.iconst 1, 1) := by decide +kernel
theorem dX1_isNear_27 : decode cX1_isNear 27 = .ok (.goto 4, 3) := by decide +kernel
theorem dX1_isNear_30 : decode cX1_isNear 30 = .ok (.iconst 0, 1) := by decide +kernel
theorem dX1_isNear_31 : decode cX1_isNear 31 = .ok (.ireturn, 1) := by decide +kernel
theorem dX2_init_0 : decode cX2_init 0 = .ok (.aload_n 0, 1) := by decide +kernel
theorem dX2_init_1 : decode cX2_init 1 = .ok (.invokespecial 1, 3) := by decide +kernel
theorem dX2_init_4 : decode cX2_init 4 = .ok (.aload_n 0, 1) := by decide +kernel
theorem dX2_init_5 : decode cX2_init 5 = .ok (.bipush 30, 2) := by decide +kernel
theorem dX2_init_7 : decode cX2_init 7 = .ok (.anewarray 9, 3) := by decide +kernel
theorem dX2_init_10 : decode cX2_init 10 = .ok (.putfield 11, 3) := by decide +kernel
theorem dX2_init_13 : decode cX2_init 13 = .ok (.aload_n 0, 1) := by decide +kernel
theorem dX2_init_14 : decode cX2_init 14 = .ok (.iconst 0, 1) := by decide +kernel
theorem dX2_init_15 : decode cX2_init 15 = .ok (.putfield 15, 3) := by decide +kernel
theorem dX2_init_18 : decode cX2_init 18 = .ok (.aload_n 0, 1) := by decide +kernel
theorem dX2_init_19 : decode cX2_init 19 = .ok (.bipush 20, 2) := by decide +kernel
theorem dX2_init_21 : decode cX2_init 21 = .ok (.anewarray 19, 3) := by decide +kernel
theorem dX2_init_24 : decode cX2_init 24 = .ok (.putfield 21, 3) := by decide +kernel
theorem dX2_init_27 : decode cX2_init 27 = .ok (.aload_n 0, 1) := by decide +kernel
theorem dX2_init_28 : decode cX2_init 28 = .ok (.iconst 0, 1) := by decide +kernel
theorem dX2_init_29 : decode cX2_init 29 = .ok (.putfield 25, 3) := by decide +kernel
theorem dX2_init_32 : decode cX2_init 32 = .ok (.aload_n 0, 1) := by decide +kernel
theorem dX2_init_33 : decode cX2_init 33 = .ok (.bipush 7, 2) := by decide +kernel
theorem dX2_init_35 : decode cX2_init 35 = .ok (.newarray .int, 2) := by decide +kernel
theorem dX2_init_37 : decode cX2_init 37 = .ok (.putfield 28, 3) := by decide +kernel
theorem dX2_init_40 : decode cX2_init 40 = .ok (.aload_n 0, 1) := by decide +kernel
theorem dX2_init_41 : decode cX2_init 41 = .ok (.bipush 10, 2) := by decide +kernel
theorem dX2_init_43 : decode cX2_init 43 = .ok (.putfield 32, 3) := by decide +kernel
theorem dX2_init_46 : decode cX2_init 46 = .ok (.return_, 1) := by decide +kernel
set_option maxRecDepth 20000 in
theorem ggX2_open_X1_init : GoodIn wsX2_open wsX1_init := goodIn_r _ [9, 10, 11, 12, 13, 14, 15, 16, 17, 18, 19, 20, 27, 28, 29, 30, 31, 32] (by decide +kernel) (by decide +kernel)
set_option maxRecDepth 20000 in
theorem gX2_open_X1_init_n42 : GoodIn wsX2_open (wsX1_init) := ggX2_open_X1_init
theorem dX2_open_0 : decode cX2_open 0 = .ok (.aload_n 0, 1) := by decide +kernel
theorem dX2_open_1 : decode cX2_open 1 = .ok (.getfield 15, 3) := by decide +kernel
theorem dX2_open_4 : decode cX2_open 4 = .ok (.istore_n 1, 1) := by decide +kernel
theorem dX2_open_5 : decode cX2_open 5 = .ok (.iload_n 1, 1) := by decide +kernel
theorem dX2_open_6 : decode cX2_open 6 = .ok (.ifCond .lt 12, 3) := by decide +kernel
theorem dX2_open_9 : decode cX2_open 9 = .ok (.iload_n 1, 1) := by decide +kernel
theorem dX2_open_10 : decode cX2_open 10 = .ok (.aload_n 0, 1) := by decide +kernel
theorem dX2_open_11 : decode cX2_open 11 = .ok (.getfield 11, 3) := by decide +kernel
theorem dX2_open_14 : decode cX2_open 14 = .ok (.arraylength, 1) := by decide +kernel
theorem dX2_open_15 : decode cX2_open 15 = .ok (.if_icmp .lt 13, 3) := by decide +kernel
theorem dX2_open_18 : decode cX2_open 18 = .ok (.new 35, 3) := by decide +kernel
theorem dX2_open_21 : decode cX2_open 21 = .ok (.dup, 1) := by decide +kernel
theorem dX2_open_22 : decode cX2_open 22 = .ok (.ldc 37, 2) := by decide +kernel
theorem dX2_open_24 : decode cX2_open 24 = .ok (.invokespecial 39, 3) := by decide +kernel
theorem dX2_open_27 : decode cX2_open 27 = .ok (.athrow, 1) := by decide +kernel
theorem dX2_open_28 : decode cX2_open 28 = .ok (.aload_n 0, 1) := by decide +kernel
theorem dX2_open_29 : decode cX2_open 29 = .ok (.getfield 11, 3) := by decide +kernel
theorem dX2_open_32 : decode cX2_open 32 = .ok (.iload_n 1, 1) := by decide +kernel
theorem dX2_open_33 : decode cX2_open 33 = .ok (.new 9, 3) := by decide +kernel
theorem dX2_open_36 : decode cX2_open 36 = .ok (.dup, 1) := by decide +kernel
theorem dX2_open_37 : decode cX2_open 37 = .ok (.invokespecial 42, 3) := by decide +kernel
theorem dX2_open_40 : decode cX2_open 40 = .ok (.aastore, 1) := by decide +kernel
theorem dX2_open_41 : decode cX2_open 41 = .ok (.aload_n 0, 1) := by decide +kernel
theorem dX2_open_42 : decode cX2_open 42 = .ok (.iload_n 1, 1) := by decide +kernel
theorem dX2_open_43 : decode cX2_open 43 = .ok (.iconst 1, 1) := by decide +kernel
theorem dX2_open_44 : decode cX2_open 44 = .ok (.iadd, 1) := by decide +kernel
theorem dX2_open_45 : decode cX2_open 45 = .ok (.putfield 15, 3) := by decide +kernel
theorem dX2_open_48 : decode cX2_open 48 = .ok (.iload_n 1, 1) := by decide +kernel
theorem dX2_open_49 : decode cX2_open 49 = .ok (.ireturn, 1) := by decide +kernel
set_option maxRecDepth 20000 in
theorem ggX2_bid_X2_tenderAt : GoodIn wsX2_bid wsX2_tenderAt := goodIn_r _ [11, 12, 44, 45, 46, 47, 48, 49] (by decide +kernel) (by decide +kernel)
set_option maxRecDepth 20000 in
theorem gX2_bid_X2_tenderAt : GoodIn wsX2_bid (wsV RX2 43 RX2 yX2_tenderAt wsX2_tenderAt) := goodIn_app (goodIn_of _ (by decide +kernel)) ggX2_bid_X2_tenderAt
set_option maxRecDepth 20000 in
theorem ggX2_bid_X2_isBidder : GoodIn wsX2_bid wsX2_isBidder := goodIn_r _ [15] (by decide +kernel) (by decide +kernel)
set_option maxRecDepth 20000 in
theorem gX2_bid_X2_isBidder : GoodIn wsX2_bid (va_wsS RX2 52 yX2_isBidder wsX2_isBidder) := goodIn_app (goodIn_of _ (by decide +kernel)) ggX2_bid_X2_isBidder
set_option maxRecDepth 20000 in
theorem ggX2_bid_X2_isMoney : GoodIn wsX2_bid wsX2_isMoney := goodIn_r _ [18, 19] (by decide +kernel) (by decide +kernel)
set_option maxRecDepth 20000 in
theorem gX2_bid_X2_isMoney : GoodIn wsX2_bid (va_wsS RX2 56 yX2_isMoney wsX2_isMoney) := goodIn_app (goodIn_of _ (by decide +kernel)) ggX2_bid_X2_isMoney
set_option maxRecDepth 20000 in
theorem ggX2_bid_X1_isOpen : GoodIn wsX2_bid wsX1_isOpen := goodIn_r _ [24, 25, 50, 51, 52, 53, 54, 55] (by decide +kernel) (by decide +kernel)
set_option maxRecDepth 20000 in
theorem gX2_bid_X1_isOpen : GoodIn wsX2_bid (wsV RX2 64 RX1 yX1_isOpen wsX1_isOpen) := goodIn_app (goodIn_of _ (by decide +kernel)) ggX2_bid_X1_isOpen
set_option maxRecDepth 20000 in
theorem ggX2_bid_X1_hasBidOf : GoodIn wsX2_bid wsX1_hasBidOf := goodIn_r _ [29, 30, 14, 10, 15, 50, 51, 52, 53, 54, 55] (by decide +kernel) (by decide +kernel)
set_option maxRecDepth 20000 in
theorem gX2_bid_X1_hasBidOf : GoodIn wsX2_bid (wsV RX2 68 RX1 yX1_hasBidOf wsX1_hasBidOf) := goodIn_app (goodIn_of _ (by decide +kernel)) ggX2_bid_X1_hasBidOf
set_option maxRecDepth 20000 in
theorem ggX2_bid_X1_takeBid : GoodIn wsX2_bid wsX1_takeBid := goodIn_r _ [34, 30, 14, 10, 15, 50, 51, 52, 53, 54, 55] (by decide +kernel) (by decide +kernel)
set_option maxRecDepth 20000 in
theorem gX2_bid_X1_takeBid : GoodIn wsX2_bid (wsV RX2 73 RX1 yX1_takeBid wsX1_takeBid) := goodIn_app (goodIn_of _ (by decide +kernel)) ggX2_bid_X1_takeBid
set_option maxRecDepth 20000 in
theorem ggX2_bid_X1_countStanding : GoodIn wsX2_bid wsX1_countStanding := goodIn_r _ [38, 39, 40, 41, 23, 42, 30, 43, 14, 10, 15, 50, 51, 52, 53, 54, 55] (by decide +kernel) (by decide +kernel)
set_option maxRecDepth 20000 in
theorem gX2_bid_X1_countStanding : GoodIn wsX2_bid (wsV RX2 77 RX1 yX1_countStanding wsX1_countStanding) := goodIn_app (goodIn_of _ (by decide +kernel)) ggX2_bid_X1_countStanding
theorem dX2_bid_0 : decode cX2_bid 0 = .ok (.aload_n 0, 1) := by decide +kernel
theorem dX2_bid_1 : decode cX2_bid 1 = .ok (.iload_n 1, 1) := by decide +kernel
theorem dX2_bid_2 : decode cX2_bid 2 = .ok (.invokevirtual 43, 3) := by decide +kernel
theorem dX2_bid_5 : decode cX2_bid 5 = .ok (.astore 4, 2) := by decide +kernel
theorem dX2_bid_7 : decode cX2_bid 7 = .ok (.aload 4, 2) := by decide +kernel
theorem dX2_bid_9 : decode cX2_bid 9 = .ok (.ifnonnull 13, 3) := by decide +kernel
theorem dX2_bid_12 : decode cX2_bid 12 = .ok (.new 47, 3) := by decide +kernel
theorem dX2_bid_15 : decode cX2_bid 15 = .ok (.dup, 1) := by decide +kernel
theorem dX2_bid_16 : decode cX2_bid 16 = .ok (.ldc 49, 2) := by decide +kernel
theorem dX2_bid_18 : decode cX2_bid 18 = .ok (.invokespecial 51, 3) := by decide +kernel
theorem dX2_bid_21 : decode cX2_bid 21 = .ok (.athrow, 1) := by decide +kernel
theorem dX2_bid_22 : decode cX2_bid 22 = .ok (.iload_n 2, 1) := by decide +kernel
theorem dX2_bid_23 : decode cX2_bid 23 = .ok (.invokestatic 52, 3) := by decide +kernel
theorem dX2_bid_26 : decode cX2_bid 26 = .ok (.ifCond .eq 10, 3) := by decide +kernel
theorem dX2_bid_29 : decode cX2_bid 29 = .ok (.iload_n 3, 1) := by decide +kernel
theorem dX2_bid_30 : decode cX2_bid 30 = .ok (.invokestatic 56, 3) := by decide +kernel
theorem dX2_bid_33 : decode cX2_bid 33 = .ok (.ifCond .ne 13, 3) := by decide +kernel
theorem dX2_bid_36 : decode cX2_bid 36 = .ok (.new 59, 3) := by decide +kernel
theorem dX2_bid_39 : decode cX2_bid 39 = .ok (.dup, 1) := by decide +kernel
theorem dX2_bid_40 : decode cX2_bid 40 = .ok (.ldc 61, 2) := by decide +kernel
theorem dX2_bid_42 : decode cX2_bid 42 = .ok (.invokespecial 63, 3) := by decide +kernel
theorem dX2_bid_45 : decode cX2_bid 45 = .ok (.athrow, 1) := by decide +kernel
theorem dX2_bid_46 : decode cX2_bid 46 = .ok (.aload 4, 2) := by decide +kernel
theorem dX2_bid_48 : decode cX2_bid 48 = .ok (.invokevirtual 64, 3) := by decide +kernel
theorem dX2_bid_51 : decode cX2_bid 51 = .ok (.ifCond .eq 12, 3) := by decide +kernel
theorem dX2_bid_54 : decode cX2_bid 54 = .ok (.aload 4, 2) := by decide +kernel
theorem dX2_bid_56 : decode cX2_bid 56 = .ok (.iload_n 2, 1) := by decide +kernel
theorem dX2_bid_57 : decode cX2_bid 57 = .ok (.invokevirtual 68, 3) := by decide +kernel
theorem dX2_bid_60 : decode cX2_bid 60 = .ok (.ifCond .eq 13, 3) := by decide +kernel
theorem dX2_bid_63 : decode cX2_bid 63 = .ok (.new 35, 3) := by decide +kernel
theorem dX2_bid_66 : decode cX2_bid 66 = .ok (.dup, 1) := by decide +kernel
theorem dX2_bid_67 : decode cX2_bid 67 = .ok (.ldc 71, 2) := by decide +kernel
theorem dX2_bid_69 : decode cX2_bid 69 = .ok (.invokespecial 39, 3) := by decide +kernel
theorem dX2_bid_72 : decode cX2_bid 72 = .ok (.athrow, 1) := by decide +kernel
theorem dX2_bid_73 : decode cX2_bid 73 = .ok (.aload 4, 2) := by decide +kernel
theorem dX2_bid_75 : decode cX2_bid 75 = .ok (.iload_n 2, 1) := by decide +kernel
theorem dX2_bid_76 : decode cX2_bid 76 = .ok (.iload_n 3, 1) := by decide +kernel
theorem dX2_bid_77 : decode cX2_bid 77 = .ok (.invokevirtual 73, 3) := by decide +kernel
theorem dX2_bid_80 : decode cX2_bid 80 = .ok (.aload 4, 2) := by decide +kernel
theorem dX2_bid_82 : decode cX2_bid 82 = .ok (.invokevirtual 77, 3) := by decide +kernel
theorem dX2_bid_85 : decode cX2_bid 85 = .ok (.ireturn, 1) := by decide +kernel
set_option maxRecDepth 20000 in
theorem ggX2_withdraw_X2_tenderAt : GoodIn wsX2_withdraw wsX2_tenderAt := goodIn_r _ [11, 12, 36, 37, 38, 39, 40, 41] (by decide +kernel) (by decide +kernel)
set_option maxRecDepth 20000 in
theorem gX2_withdraw_X2_tenderAt : GoodIn wsX2_withdraw (wsV RX2 43 RX2 yX2_tenderAt wsX2_tenderAt) := goodIn_app (goodIn_of _ (by decide +kernel)) ggX2_withdraw_X2_tenderAt
set_option maxRecDepth 20000 in
theorem ggX2_withdraw_X2_isBidder : GoodIn wsX2_withdraw wsX2_isBidder := goodIn_r _ [15] (by decide +kernel) (by decide +kernel)
set_option maxRecDepth 20000 in
theorem gX2_withdraw_X2_isBidder : GoodIn wsX2_withdraw (va_wsS RX2 52 yX2_isBidder wsX2_isBidder) := goodIn_app (goodIn_of _ (by decide +kernel)) ggX2_withdraw_X2_isBidder
set_option maxRecDepth 20000 in
theorem ggX2_withdraw_X1_isOpen : GoodIn wsX2_withdraw wsX1_isOpen := goodIn_r _ [20, 21, 42, 43, 44, 45, 46, 47] (by decide +kernel) (by decide +kernel)
set_option maxRecDepth 20000 in
theorem gX2_withdraw_X1_isOpen : GoodIn wsX2_withdraw (wsV RX2 64 RX1 yX1_isOpen wsX1_isOpen) := goodIn_app (goodIn_of _ (by decide +kernel)) ggX2_withdraw_X1_isOpen
set_option maxRecDepth 20000 in
theorem ggX2_withdraw_X1_isStanding : GoodIn wsX2_withdraw wsX1_isStanding := goodIn_r _ [25, 26, 27, 14, 10, 15, 42, 43, 44, 45, 46, 47] (by decide +kernel) (by decide +kernel)
set_option maxRecDepth 20000 in
theorem gX2_withdraw_X1_isStanding : GoodIn wsX2_withdraw (wsV RX2 83 RX1 yX1_isStanding wsX1_isStanding) := goodIn_app (goodIn_of _ (by decide +kernel)) ggX2_withdraw_X1_isStanding
set_option maxRecDepth 20000 in
theorem ggX2_withdraw_X1_giveBack : GoodIn wsX2_withdraw wsX1_giveBack := goodIn_r _ [31, 27, 14, 10, 15, 42, 43, 44, 45, 46, 47] (by decide +kernel) (by decide +kernel)
set_option maxRecDepth 20000 in
theorem gX2_withdraw_X1_giveBack : GoodIn wsX2_withdraw (wsV RX2 88 RX1 yX1_giveBack wsX1_giveBack) := goodIn_app (goodIn_of _ (by decide +kernel)) ggX2_withdraw_X1_giveBack
set_option maxRecDepth 20000 in
theorem ggX2_withdraw_X1_sumOf : GoodIn wsX2_withdraw wsX1_sumOf := goodIn_r _ [35, 26, 14, 10, 15, 42, 43, 44, 45, 46, 47] (by decide +kernel) (by decide +kernel)
set_option maxRecDepth 20000 in
theorem gX2_withdraw_X1_sumOf : GoodIn wsX2_withdraw (wsV RX2 92 RX1 yX1_sumOf wsX1_sumOf) := goodIn_app (goodIn_of _ (by decide +kernel)) ggX2_withdraw_X1_sumOf
theorem dX2_withdraw_0 : decode cX2_withdraw 0 = .ok (.aload_n 0, 1) := by decide +kernel
theorem dX2_withdraw_1 : decode cX2_withdraw 1 = .ok (.iload_n 1, 1) := by decide +kernel
theorem dX2_withdraw_2 : decode cX2_withdraw 2 = .ok (.invokevirtual 43, 3) := by decide +kernel
theorem dX2_withdraw_5 : decode cX2_withdraw 5 = .ok (.astore_n 3, 1) := by decide +kernel
theorem dX2_withdraw_6 : decode cX2_withdraw 6 = .ok (.aload_n 3, 1) := by decide +kernel
theorem dX2_withdraw_7 : decode cX2_withdraw 7 = .ok (.ifnonnull 13, 3) := by decide +kernel
theorem dX2_withdraw_10 : decode cX2_withdraw 10 = .ok (.new 47, 3) := by decide +kernel
theorem dX2_withdraw_13 : decode cX2_withdraw 13 = .ok (.dup, 1) := by decide +kernel
theorem dX2_withdraw_14 : decode cX2_withdraw 14 = .ok (.ldc 49, 2) := by decide +kernel
theorem dX2_withdraw_16 : decode cX2_withdraw 16 = .ok (.invokespecial 51, 3) := by decide +kernel
theorem dX2_withdraw_19 : decode cX2_withdraw 19 = .ok (.athrow, 1) := by decide +kernel
theorem dX2_withdraw_20 : decode cX2_withdraw 20 = .ok (.iload_n 2, 1) := by decide +kernel
theorem dX2_withdraw_21 : decode cX2_withdraw 21 = .ok (.invokestatic 52, 3) := by decide +kernel
theorem dX2_withdraw_24 : decode cX2_withdraw 24 = .ok (.ifCond .ne 13, 3) := by decide +kernel
theorem dX2_withdraw_27 : decode cX2_withdraw 27 = .ok (.new 59, 3) := by decide +kernel
theorem dX2_withdraw_30 : decode cX2_withdraw 30 = .ok (.dup, 1) := by decide +kernel
theorem dX2_withdraw_31 : decode cX2_withdraw 31 = .ok (.ldc 81, 2) := by decide +kernel
theorem dX2_withdraw_33 : decode cX2_withdraw 33 = .ok (.invokespecial 63, 3) := by decide +kernel
theorem dX2_withdraw_36 : decode cX2_withdraw 36 = .ok (.athrow, 1) := by decide +kernel
theorem dX2_withdraw_37 : decode cX2_withdraw 37 = .ok (.aload_n 3, 1) := by decide +kernel
theorem dX2_withdraw_38 : decode cX2_withdraw 38 = .ok (.invokevirtual 64, 3) := by decide +kernel
theorem dX2_withdraw_41 : decode cX2_withdraw 41 = .ok (.ifCond .eq 11, 3) := by decide +kernel
theorem dX2_withdraw_44 : decode cX2_withdraw 44 = .ok (.aload_n 3, 1) := by decide +kernel
theorem dX2_withdraw_45 : decode cX2_withdraw 45 = .ok (.iload_n 2, 1) := by decide +kernel
theorem dX2_withdraw_46 : decode cX2_withdraw 46 = .ok (.invokevirtual 83, 3) := by decide +kernel
theorem dX2_withdraw_49 : decode cX2_withdraw 49 = .ok (.ifCond .ne 13, 3) := by decide +kernel
theorem dX2_withdraw_52 : decode cX2_withdraw 52 = .ok (.new 35, 3) := by decide +kernel
theorem dX2_withdraw_55 : decode cX2_withdraw 55 = .ok (.dup, 1) := by decide +kernel
theorem dX2_withdraw_56 : decode cX2_withdraw 56 = .ok (.ldc 86, 2) := by decide +kernel
theorem dX2_withdraw_58 : decode cX2_withdraw 58 = .ok (.invokespecial 39, 3) := by decide +kernel
theorem dX2_withdraw_61 : decode cX2_withdraw 61 = .ok (.athrow, 1) := by decide +kernel
theorem dX2_withdraw_62 : decode cX2_withdraw 62 = .ok (.aload_n 3, 1) := by decide +kernel
theorem dX2_withdraw_63 : decode cX2_withdraw 63 = .ok (.iload_n 2, 1) := by decide +kernel
theorem dX2_withdraw_64 : decode cX2_withdraw 64 = .ok (.invokevirtual 88, 3) := by decide +kernel
theorem dX2_withdraw_67 : decode cX2_withdraw 67 = .ok (.aload_n 3, 1) := by decide +kernel
theorem dX2_withdraw_68 : decode cX2_withdraw 68 = .ok (.iload_n 2, 1) := by decide +kernel
theorem dX2_withdraw_69 : decode cX2_withdraw 69 = .ok (.invokevirtual 92, 3) := by decide +kernel
theorem dX2_withdraw_72 : decode cX2_withdraw 72 = .ok (.ireturn, 1) := by decide +kernel
set_option maxRecDepth 20000 in
theorem ggX2_award_X2_tenderAt : GoodIn wsX2_award wsX2_tenderAt := goodIn_r _ [9, 10, 38, 39, 40, 41, 42, 43] (by decide +kernel) (by decide +kernel)
set_option maxRecDepth 20000 in
theorem gX2_award_X2_tenderAt : GoodIn wsX2_award (wsV RX2 43 RX2 yX2_tenderAt wsX2_tenderAt) := goodIn_app (goodIn_of _ (by decide +kernel)) ggX2_award_X2_tenderAt
set_option maxRecDepth 20000 in
theorem ggX2_award_X1_isOpen : GoodIn wsX2_award wsX1_isOpen := goodIn_r _ [15, 16, 44, 45, 46, 47, 48, 49] (by decide +kernel) (by decide +kernel)
set_option maxRecDepth 20000 in
theorem gX2_award_X1_isOpen : GoodIn wsX2_award (wsV RX2 64 RX1 yX1_isOpen wsX1_isOpen) := goodIn_app (goodIn_of _ (by decide +kernel)) ggX2_award_X1_isOpen
set_option maxRecDepth 20000 in
theorem ggX2_award_X1_decide : GoodIn wsX2_award wsX1_decide := goodIn_r _ [20, 21, 16, 22, 23, 24, 14, 25, 26, 27, 28, 8, 29, 30, 31, 32, 33, 44, 45, 46, 47, 48, 49] (by decide +kernel) (by decide +kernel)
set_option maxRecDepth 20000 in
theorem gX2_award_X1_decide : GoodIn wsX2_award (wsV RX2 98 RX1 yX1_decide wsX1_decide) := goodIn_app (goodIn_of _ (by decide +kernel)) ggX2_award_X1_decide
set_option maxRecDepth 20000 in
theorem ggX2_award_X1_winner : GoodIn wsX2_award wsX1_winner := goodIn_r _ [37, 21, 44, 45, 46, 47, 48, 49] (by decide +kernel) (by decide +kernel)
set_option maxRecDepth 20000 in
theorem gX2_award_X1_winner : GoodIn wsX2_award (wsV RX2 101 RX1 yX1_winner wsX1_winner) := goodIn_app (goodIn_of _ (by decide +kernel)) ggX2_award_X1_winner
theorem dX2_award_0 : decode cX2_award 0 = .ok (.aload_n 0, 1) := by decide +kernel
theorem dX2_award_1 : decode cX2_award 1 = .ok (.iload_n 1, 1) := by decide +kernel
theorem dX2_award_2 : decode cX2_award 2 = .ok (.invokevirtual 43, 3) := by decide +kernel
theorem dX2_award_5 : decode cX2_award 5 = .ok (.astore_n 2, 1) := by decide +kernel
theorem dX2_award_6 : decode cX2_award 6 = .ok (.aload_n 2, 1) := by decide +kernel
theorem dX2_award_7 : decode cX2_award 7 = .ok (.ifnonnull 13, 3) := by decide +kernel
theorem dX2_award_10 : decode cX2_award 10 = .ok (.new 47, 3) := by decide +kernel
theorem dX2_award_13 : decode cX2_award 13 = .ok (.dup, 1) := by decide +kernel
theorem dX2_award_14 : decode cX2_award 14 = .ok (.ldc 49, 2) := by decide +kernel
theorem dX2_award_16 : decode cX2_award 16 = .ok (.invokespecial 51, 3) := by decide +kernel
theorem dX2_award_19 : decode cX2_award 19 = .ok (.athrow, 1) := by decide +kernel
theorem dX2_award_20 : decode cX2_award 20 = .ok (.aload_n 2, 1) := by decide +kernel
theorem dX2_award_21 : decode cX2_award 21 = .ok (.invokevirtual 64, 3) := by decide +kernel
theorem dX2_award_24 : decode cX2_award 24 = .ok (.ifCond .ne 13, 3) := by decide +kernel
theorem dX2_award_27 : decode cX2_award 27 = .ok (.new 35, 3) := by decide +kernel
theorem dX2_award_30 : decode cX2_award 30 = .ok (.dup, 1) := by decide +kernel
theorem dX2_award_31 : decode cX2_award 31 = .ok (.ldc 96, 2) := by decide +kernel
theorem dX2_award_33 : decode cX2_award 33 = .ok (.invokespecial 39, 3) := by decide +kernel
theorem dX2_award_36 : decode cX2_award 36 = .ok (.athrow, 1) := by decide +kernel
theorem dX2_award_37 : decode cX2_award 37 = .ok (.aload_n 2, 1) := by decide +kernel
theorem dX2_award_38 : decode cX2_award 38 = .ok (.invokevirtual 98, 3) := by decide +kernel
theorem dX2_award_41 : decode cX2_award 41 = .ok (.aload_n 2, 1) := by decide +kernel
theorem dX2_award_42 : decode cX2_award 42 = .ok (.invokevirtual 101, 3) := by decide +kernel
theorem dX2_award_45 : decode cX2_award 45 = .ok (.ireturn, 1) := by decide +kernel
set_option maxRecDepth 20000 in
theorem ggX2_passOn_X2_tenderAt : GoodIn wsX2_passOn wsX2_tenderAt := goodIn_r _ [11, 12, 41, 42, 43, 44, 45, 46] (by decide +kernel) (by decide +kernel)
set_option maxRecDepth 20000 in
theorem gX2_passOn_X2_tenderAt : GoodIn wsX2_passOn (wsV RX2 43 RX2 yX2_tenderAt wsX2_tenderAt) := goodIn_app (goodIn_of _ (by decide +kernel)) ggX2_passOn_X2_tenderAt
set_option maxRecDepth 20000 in
theorem ggX2_passOn_X1_isAwarded : GoodIn wsX2_passOn wsX1_isAwarded := goodIn_r _ [17, 18, 47, 48, 49, 50, 51, 52] (by decide +kernel) (by decide +kernel)
set_option maxRecDepth 20000 in
theorem gX2_passOn_X1_isAwarded : GoodIn wsX2_passOn (wsV RX2 104 RX1 yX1_isAwarded wsX1_isAwarded) := goodIn_app (goodIn_of _ (by decide +kernel)) ggX2_passOn_X1_isAwarded
set_option maxRecDepth 20000 in
theorem ggX2_passOn_X1_isPassedOn : GoodIn wsX2_passOn wsX1_isPassedOn := goodIn_r _ [22, 23, 47, 48, 49, 50, 51, 52] (by decide +kernel) (by decide +kernel)
set_option maxRecDepth 20000 in
theorem gX2_passOn_X1_isPassedOn : GoodIn wsX2_passOn (wsV RX2 107 RX1 yX1_isPassedOn wsX1_isPassedOn) := goodIn_app (goodIn_of _ (by decide +kernel)) ggX2_passOn_X1_isPassedOn
set_option maxRecDepth 20000 in
theorem ggX2_passOn_X1_winner : GoodIn wsX2_passOn wsX1_winner := goodIn_r _ [27, 18, 47, 48, 49, 50, 51, 52] (by decide +kernel) (by decide +kernel)
set_option maxRecDepth 20000 in
theorem gX2_passOn_X1_winner : GoodIn wsX2_passOn (wsV RX2 101 RX1 yX1_winner wsX1_winner) := goodIn_app (goodIn_of _ (by decide +kernel)) ggX2_passOn_X1_winner
end
section
set_option maxRecDepth 20000 in
theorem ggX2_passOn_X2_isBidder : GoodIn wsX2_passOn wsX2_isBidder := goodIn_r _ [30] (by decide +kernel) (by decide +kernel)
set_option maxRecDepth 20000 in
theorem gX2_passOn_X2_isBidder : GoodIn wsX2_passOn (va_wsS RX2 52 yX2_isBidder wsX2_isBidder) := goodIn_app (goodIn_of _ (by decide +kernel)) ggX2_passOn_X2_isBidder
set_option maxRecDepth 20000 in
theorem ggX2_passOn_X1_sumOf : GoodIn wsX2_passOn wsX1_sumOf := goodIn_r _ [34, 35, 29, 10, 30, 47, 48, 49, 50, 51, 52] (by decide +kernel) (by decide +kernel)
set_option maxRecDepth 20000 in
theorem gX2_passOn_X1_sumOf : GoodIn wsX2_passOn (wsV RX2 92 RX1 yX1_sumOf wsX1_sumOf) := goodIn_app (goodIn_of _ (by decide +kernel)) ggX2_passOn_X1_sumOf
set_option maxRecDepth 20000 in
theorem ggX2_passOn_X1_giveOver : GoodIn wsX2_passOn wsX1_giveOver := goodIn_r _ [39, 23, 40, 47, 48, 49, 50, 51, 52] (by decide +kernel) (by decide +kernel)
set_option maxRecDepth 20000 in
theorem gX2_passOn_X1_giveOver : GoodIn wsX2_passOn (wsV RX2 114 RX1 yX1_giveOver wsX1_giveOver) := goodIn_app (goodIn_of _ (by decide +kernel)) ggX2_passOn_X1_giveOver
theorem dX2_passOn_0 : decode cX2_passOn 0 = .ok (.aload_n 0, 1) := by decide +kernel
theorem dX2_passOn_1 : decode cX2_passOn 1 = .ok (.iload_n 1, 1) := by decide +kernel
theorem dX2_passOn_2 : decode cX2_passOn 2 = .ok (.invokevirtual 43, 3) := by decide +kernel
theorem dX2_passOn_5 : decode cX2_passOn 5 = .ok (.astore 4, 2) := by decide +kernel
theorem dX2_passOn_7 : decode cX2_passOn 7 = .ok (.aload 4, 2) := by decide +kernel
theorem dX2_passOn_9 : decode cX2_passOn 9 = .ok (.ifnonnull 13, 3) := by decide +kernel
theorem dX2_passOn_12 : decode cX2_passOn 12 = .ok (.new 47, 3) := by decide +kernel
theorem dX2_passOn_15 : decode cX2_passOn 15 = .ok (.dup, 1) := by decide +kernel
theorem dX2_passOn_16 : decode cX2_passOn 16 = .ok (.ldc 49, 2) := by decide +kernel
theorem dX2_passOn_18 : decode cX2_passOn 18 = .ok (.invokespecial 51, 3) := by decide +kernel
theorem dX2_passOn_21 : decode cX2_passOn 21 = .ok (.athrow, 1) := by decide +kernel
theorem dX2_passOn_22 : decode cX2_passOn 22 = .ok (.aload 4, 2) := by decide +kernel
theorem dX2_passOn_24 : decode cX2_passOn 24 = .ok (.invokevirtual 104, 3) := by decide +kernel
theorem dX2_passOn_27 : decode cX2_passOn 27 = .ok (.ifCond .eq 11, 3) := by decide +kernel
theorem dX2_passOn_30 : decode cX2_passOn 30 = .ok (.aload 4, 2) := by decide +kernel
theorem dX2_passOn_32 : decode cX2_passOn 32 = .ok (.invokevirtual 107, 3) := by decide +kernel
theorem dX2_passOn_35 : decode cX2_passOn 35 = .ok (.ifCond .eq 13, 3) := by decide +kernel
theorem dX2_passOn_38 : decode cX2_passOn 38 = .ok (.new 35, 3) := by decide +kernel
theorem dX2_passOn_41 : decode cX2_passOn 41 = .ok (.dup, 1) := by decide +kernel
theorem dX2_passOn_42 : decode cX2_passOn 42 = .ok (.ldc 110, 2) := by decide +kernel
theorem dX2_passOn_44 : decode cX2_passOn 44 = .ok (.invokespecial 39, 3) := by decide +kernel
theorem dX2_passOn_47 : decode cX2_passOn 47 = .ok (.athrow, 1) := by decide +kernel
theorem dX2_passOn_48 : decode cX2_passOn 48 = .ok (.aload 4, 2) := by decide +kernel
theorem dX2_passOn_50 : decode cX2_passOn 50 = .ok (.invokevirtual 101, 3) := by decide +kernel
theorem dX2_passOn_53 : decode cX2_passOn 53 = .ok (.istore 5, 2) := by decide +kernel
theorem dX2_passOn_55 : decode cX2_passOn 55 = .ok (.iload_n 2, 1) := by decide +kernel
theorem dX2_passOn_56 : decode cX2_passOn 56 = .ok (.invokestatic 52, 3) := by decide +kernel
theorem dX2_passOn_59 : decode cX2_passOn 59 = .ok (.ifCond .eq 25, 3) := by decide +kernel
theorem dX2_passOn_62 : decode cX2_passOn 62 = .ok (.iload_n 2, 1) := by decide +kernel
theorem dX2_passOn_63 : decode cX2_passOn 63 = .ok (.iload 5, 2) := by decide +kernel
theorem dX2_passOn_65 : decode cX2_passOn 65 = .ok (.if_icmp .eq 19, 3) := by decide +kernel
theorem dX2_passOn_68 : decode cX2_passOn 68 = .ok (.iload_n 3, 1) := by decide +kernel
theorem dX2_passOn_69 : decode cX2_passOn 69 = .ok (.iconst 1, 1) := by decide +kernel
theorem dX2_passOn_70 : decode cX2_passOn 70 = .ok (.if_icmp .lt 14, 3) := by decide +kernel
theorem dX2_passOn_73 : decode cX2_passOn 73 = .ok (.iload_n 3, 1) := by decide +kernel
theorem dX2_passOn_74 : decode cX2_passOn 74 = .ok (.aload 4, 2) := by decide +kernel
theorem dX2_passOn_76 : decode cX2_passOn 76 = .ok (.iload 5, 2) := by decide +kernel
theorem dX2_passOn_78 : decode cX2_passOn 78 = .ok (.invokevirtual 92, 3) := by decide +kernel
theorem dX2_passOn_81 : decode cX2_passOn 81 = .ok (.if_icmp .le 13, 3) := by decide +kernel
theorem dX2_passOn_84 : decode cX2_passOn 84 = .ok (.new 59, 3) := by decide +kernel
theorem dX2_passOn_87 : decode cX2_passOn 87 = .ok (.dup, 1) := by decide +kernel
theorem dX2_passOn_88 : decode cX2_passOn 88 = .ok (.ldc 112, 2) := by decide +kernel
theorem dX2_passOn_90 : decode cX2_passOn 90 = .ok (.invokespecial 63, 3) := by decide +kernel
theorem dX2_passOn_93 : decode cX2_passOn 93 = .ok (.athrow, 1) := by decide +kernel
theorem dX2_passOn_94 : decode cX2_passOn 94 = .ok (.aload 4, 2) := by decide +kernel
theorem dX2_passOn_96 : decode cX2_passOn 96 = .ok (.iload_n 2, 1) := by decide +kernel
theorem dX2_passOn_97 : decode cX2_passOn 97 = .ok (.iload_n 3, 1) := by decide +kernel
theorem dX2_passOn_98 : decode cX2_passOn 98 = .ok (.invokevirtual 114, 3) := by decide +kernel
theorem dX2_passOn_101 : decode cX2_passOn 101 = .ok (.iload 5, 2) := by decide +kernel
theorem dX2_passOn_103 : decode cX2_passOn 103 = .ok (.ireturn, 1) := by decide +kernel
set_option maxRecDepth 20000 in
theorem ggX2_turnover_X2_isBidder : GoodIn wsX2_turnover wsX2_isBidder := goodIn_r _ [6] (by decide +kernel) (by decide +kernel)
set_option maxRecDepth 20000 in
theorem gX2_turnover_X2_isBidder : GoodIn wsX2_turnover (va_wsS RX2 52 yX2_isBidder wsX2_isBidder) := goodIn_app (goodIn_of _ (by decide +kernel)) ggX2_turnover_X2_isBidder
set_option maxRecDepth 20000 in
theorem ggX2_turnover_X2_turnoverOf : GoodIn wsX2_turnover wsX2_turnoverOf := goodIn_r _ [10, 11, 12, 13, 14, 15, 16, 17, 18, 19, 20, 21, 22, 23, 24, 4, 5, 6, 25, 26, 27, 28, 29, 30, 31, 32, 33, 34, 35, 36] (by decide +kernel) (by decide +kernel)
set_option maxRecDepth 20000 in
theorem gX2_turnover_X2_turnoverOf : GoodIn wsX2_turnover (wsV RX2 117 RX2 yX2_turnoverOf wsX2_turnoverOf) := goodIn_app (goodIn_of _ (by decide +kernel)) ggX2_turnover_X2_turnoverOf
theorem dX2_turnover_0 : decode cX2_turnover 0 = .ok (.iload_n 1, 1) := by decide +kernel
theorem dX2_turnover_1 : decode cX2_turnover 1 = .ok (.invokestatic 52, 3) := by decide +kernel
theorem dX2_turnover_4 : decode cX2_turnover 4 = .ok (.ifCond .ne 13, 3) := by decide +kernel
theorem dX2_turnover_7 : decode cX2_turnover 7 = .ok (.new 59, 3) := by decide +kernel
theorem dX2_turnover_10 : decode cX2_turnover 10 = .ok (.dup, 1) := by decide +kernel
theorem dX2_turnover_11 : decode cX2_turnover 11 = .ok (.ldc 81, 2) := by decide +kernel
theorem dX2_turnover_13 : decode cX2_turnover 13 = .ok (.invokespecial 63, 3) := by decide +kernel
theorem dX2_turnover_16 : decode cX2_turnover 16 = .ok (.athrow, 1) := by decide +kernel
theorem dX2_turnover_17 : decode cX2_turnover 17 = .ok (.aload_n 0, 1) := by decide +kernel
theorem dX2_turnover_18 : decode cX2_turnover 18 = .ok (.iload_n 1, 1) := by decide +kernel
theorem dX2_turnover_19 : decode cX2_turnover 19 = .ok (.invokevirtual 117, 3) := by decide +kernel
theorem dX2_turnover_22 : decode cX2_turnover 22 = .ok (.ireturn, 1) := by decide +kernel
set_option maxRecDepth 20000 in
theorem ggX2_won_X2_isBidder : GoodIn wsX2_won wsX2_isBidder := goodIn_r _ [7] (by decide +kernel) (by decide +kernel)
set_option maxRecDepth 20000 in
theorem gX2_won_X2_isBidder : GoodIn wsX2_won (va_wsS RX2 52 yX2_isBidder wsX2_isBidder) := goodIn_app (goodIn_of _ (by decide +kernel)) ggX2_won_X2_isBidder
set_option maxRecDepth 20000 in
theorem ggX2_won_X1_winner : GoodIn wsX2_won wsX1_winner := goodIn_r _ [12, 13, 20, 21, 22, 23, 24, 25] (by decide +kernel) (by decide +kernel)
set_option maxRecDepth 20000 in
theorem gX2_won_X1_winner : GoodIn wsX2_won (wsV RX2 101 RX1 yX1_winner wsX1_winner) := goodIn_app (goodIn_of _ (by decide +kernel)) ggX2_won_X1_winner
theorem dX2_won_0 : decode cX2_won 0 = .ok (.iload_n 1, 1) := by decide +kernel
theorem dX2_won_1 : decode cX2_won 1 = .ok (.invokestatic 52, 3) := by decide +kernel
theorem dX2_won_4 : decode cX2_won 4 = .ok (.ifCond .ne 13, 3) := by decide +kernel
theorem dX2_won_7 : decode cX2_won 7 = .ok (.new 59, 3) := by decide +kernel
theorem dX2_won_10 : decode cX2_won 10 = .ok (.dup, 1) := by decide +kernel
theorem dX2_won_11 : decode cX2_won 11 = .ok (.ldc 81, 2) := by decide +kernel
theorem dX2_won_13 : decode cX2_won 13 = .ok (.invokespecial 63, 3) := by decide +kernel
theorem dX2_won_16 : decode cX2_won 16 = .ok (.athrow, 1) := by decide +kernel
theorem dX2_won_17 : decode cX2_won 17 = .ok (.iconst 0, 1) := by decide +kernel
theorem dX2_won_18 : decode cX2_won 18 = .ok (.istore_n 2, 1) := by decide +kernel
theorem dX2_won_19 : decode cX2_won 19 = .ok (.aload_n 0, 1) := by decide +kernel
theorem dX2_won_20 : decode cX2_won 20 = .ok (.getfield 11, 3) := by decide +kernel
theorem dX2_won_23 : decode cX2_won 23 = .ok (.astore_n 3, 1) := by decide +kernel
theorem dX2_won_24 : decode cX2_won 24 = .ok (.aload_n 3, 1) := by decide +kernel
theorem dX2_won_25 : decode cX2_won 25 = .ok (.arraylength, 1) := by decide +kernel
theorem dX2_won_26 : decode cX2_won 26 = .ok (.istore 4, 2) := by decide +kernel
theorem dX2_won_28 : decode cX2_won 28 = .ok (.iconst 0, 1) := by decide +kernel
theorem dX2_won_29 : decode cX2_won 29 = .ok (.istore 5, 2) := by decide +kernel
theorem dX2_won_31 : decode cX2_won 31 = .ok (.iload 5, 2) := by decide +kernel
theorem dX2_won_33 : decode cX2_won 33 = .ok (.iload 4, 2) := by decide +kernel
theorem dX2_won_35 : decode cX2_won 35 = .ok (.if_icmp .ge 32, 3) := by decide +kernel
theorem dX2_won_38 : decode cX2_won 38 = .ok (.aload_n 3, 1) := by decide +kernel
theorem dX2_won_39 : decode cX2_won 39 = .ok (.iload 5, 2) := by decide +kernel
theorem dX2_won_41 : decode cX2_won 41 = .ok (.aaload, 1) := by decide +kernel
theorem dX2_won_42 : decode cX2_won 42 = .ok (.astore 6, 2) := by decide +kernel
theorem dX2_won_44 : decode cX2_won 44 = .ok (.aload 6, 2) := by decide +kernel
theorem dX2_won_46 : decode cX2_won 46 = .ok (.ifnull 15, 3) := by decide +kernel
theorem dX2_won_49 : decode cX2_won 49 = .ok (.aload 6, 2) := by decide +kernel
theorem dX2_won_51 : decode cX2_won 51 = .ok (.invokevirtual 101, 3) := by decide +kernel
theorem dX2_won_54 : decode cX2_won 54 = .ok (.iload_n 1, 1) := by decide +kernel
theorem dX2_won_55 : decode cX2_won 55 = .ok (.if_icmp .ne 6, 3) := by decide +kernel
theorem dX2_won_58 : decode cX2_won 58 = .ok (.iinc 2 1, 3) := by decide +kernel
theorem dX2_won_61 : decode cX2_won 61 = .ok (.iinc 5 1, 3) := by decide +kernel
theorem dX2_won_64 : decode cX2_won 64 = .ok (.goto (-33), 3) := by decide +kernel
theorem dX2_won_67 : decode cX2_won 67 = .ok (.iload_n 2, 1) := by decide +kernel
theorem dX2_won_68 : decode cX2_won 68 = .ok (.ireturn, 1) := by decide +kernel
set_option maxRecDepth 20000 in
theorem ggX2_suspicion_X2_isPair : GoodIn wsX2_suspicion wsX2_isPair := goodIn_r _ [6, 7, 8, 5, 9] (by decide +kernel) (by decide +kernel)
set_option maxRecDepth 20000 in
theorem gX2_suspicion_X2_isPair : GoodIn wsX2_suspicion (va_wsS RX2 120 yX2_isPair wsX2_isPair) := goodIn_app (goodIn_of _ (by decide +kernel)) ggX2_suspicion_X2_isPair
set_option maxRecDepth 20000 in
theorem ggX2_suspicion_X2_suspicionOf : GoodIn wsX2_suspicion wsX2_suspicionOf := goodIn_r _ [13, 14, 15, 16, 17, 5, 18, 19, 20, 21, 22, 23, 24, 25, 26, 27, 28, 29, 30, 31, 32, 33, 34, 35, 36, 37, 38, 39, 8, 9, 40, 41, 42, 43, 44, 45, 46, 47, 48, 49, 50, 51, 52, 53, 54, 55, 56, 57, 58, 59, 60, 61, 62, 63, 64, 65, 66, 67, 68, 69, 70, 71, 72, 73, 74, 75, 76] (by decide +kernel) (by decide +kernel)
set_option maxRecDepth 20000 in
theorem gX2_suspicion_X2_suspicionOf : GoodIn wsX2_suspicion (wsV RX2 126 RX2 yX2_suspicionOf wsX2_suspicionOf) := goodIn_app (goodIn_of _ (by decide +kernel)) ggX2_suspicion_X2_suspicionOf
theorem dX2_suspicion_0 : decode cX2_suspicion 0 = .ok (.iload_n 1, 1) := by decide +kernel
theorem dX2_suspicion_1 : decode cX2_suspicion 1 = .ok (.iload_n 2, 1) := by decide +kernel
theorem dX2_suspicion_2 : decode cX2_suspicion 2 = .ok (.invokestatic 120, 3) := by decide +kernel
theorem dX2_suspicion_5 : decode cX2_suspicion 5 = .ok (.ifCond .ne 13, 3) := by decide +kernel
theorem dX2_suspicion_8 : decode cX2_suspicion 8 = .ok (.new 59, 3) := by decide +kernel
theorem dX2_suspicion_11 : decode cX2_suspicion 11 = .ok (.dup, 1) := by decide +kernel
theorem dX2_suspicion_12 : decode cX2_suspicion 12 = .ok (.ldc 124, 2) := by decide +kernel
theorem dX2_suspicion_14 : decode cX2_suspicion 14 = .ok (.invokespecial 63, 3) := by decide +kernel
theorem dX2_suspicion_17 : decode cX2_suspicion 17 = .ok (.athrow, 1) := by decide +kernel
theorem dX2_suspicion_18 : decode cX2_suspicion 18 = .ok (.aload_n 0, 1) := by decide +kernel
theorem dX2_suspicion_19 : decode cX2_suspicion 19 = .ok (.iload_n 1, 1) := by decide +kernel
theorem dX2_suspicion_20 : decode cX2_suspicion 20 = .ok (.iload_n 2, 1) := by decide +kernel
theorem dX2_suspicion_21 : decode cX2_suspicion 21 = .ok (.invokevirtual 126, 3) := by decide +kernel
theorem dX2_suspicion_24 : decode cX2_suspicion 24 = .ok (.ireturn, 1) := by decide +kernel
set_option maxRecDepth 20000 in
theorem ggX2_sign_X2_tenderAt : GoodIn wsX2_sign wsX2_tenderAt := goodIn_r _ [9, 10, 63, 64, 65, 66, 67, 68] (by decide +kernel) (by decide +kernel)
set_option maxRecDepth 20000 in
theorem gX2_sign_X2_tenderAt : GoodIn wsX2_sign (wsV RX2 43 RX2 yX2_tenderAt wsX2_tenderAt) := goodIn_app (goodIn_of _ (by decide +kernel)) ggX2_sign_X2_tenderAt
set_option maxRecDepth 20000 in
theorem ggX2_sign_X2_isPair : GoodIn wsX2_sign wsX2_isPair := goodIn_r _ [13, 14, 15, 8, 16] (by decide +kernel) (by decide +kernel)
set_option maxRecDepth 20000 in
theorem gX2_sign_X2_isPair : GoodIn wsX2_sign (va_wsS RX2 120 yX2_isPair wsX2_isPair) := goodIn_app (goodIn_of _ (by decide +kernel)) ggX2_sign_X2_isPair
set_option maxRecDepth 20000 in
theorem ggX2_sign_X2_countOf : GoodIn wsX2_sign wsX2_countOf := goodIn_r _ [20, 5, 6, 7, 8, 9, 10, 21, 22, 23, 24, 25, 26, 27, 28, 29, 30, 31, 32, 33, 34, 35, 36, 37, 15, 16, 38, 39, 40, 41, 42, 43, 44, 45, 46, 47, 48, 49, 50, 51, 52, 53, 54, 55, 56, 57, 58, 59, 60, 61, 62, 63, 64, 65, 66, 67, 68, 69, 70, 71, 72, 73, 74] (by decide +kernel) (by decide +kernel)
set_option maxRecDepth 20000 in
theorem gX2_sign_X2_countOf : GoodIn wsX2_sign (wsV RX2 130 RX2 yX2_countOf wsX2_countOf) := goodIn_app (goodIn_of _ (by decide +kernel)) ggX2_sign_X2_countOf
theorem dX2_sign_0 : decode cX2_sign 0 = .ok (.aload_n 0, 1) := by decide +kernel
theorem dX2_sign_1 : decode cX2_sign 1 = .ok (.iload_n 1, 1) := by decide +kernel
theorem dX2_sign_2 : decode cX2_sign 2 = .ok (.invokevirtual 43, 3) := by decide +kernel
theorem dX2_sign_5 : decode cX2_sign 5 = .ok (.ifnonnull 13, 3) := by decide +kernel
theorem dX2_sign_8 : decode cX2_sign 8 = .ok (.new 47, 3) := by decide +kernel
theorem dX2_sign_11 : decode cX2_sign 11 = .ok (.dup, 1) := by decide +kernel
theorem dX2_sign_12 : decode cX2_sign 12 = .ok (.ldc 49, 2) := by decide +kernel
theorem dX2_sign_14 : decode cX2_sign 14 = .ok (.invokespecial 51, 3) := by decide +kernel
theorem dX2_sign_17 : decode cX2_sign 17 = .ok (.athrow, 1) := by decide +kernel
theorem dX2_sign_18 : decode cX2_sign 18 = .ok (.iload_n 2, 1) := by decide +kernel
theorem dX2_sign_19 : decode cX2_sign 19 = .ok (.iload_n 3, 1) := by decide +kernel
theorem dX2_sign_20 : decode cX2_sign 20 = .ok (.invokestatic 120, 3) := by decide +kernel
theorem dX2_sign_23 : decode cX2_sign 23 = .ok (.ifCond .ne 13, 3) := by decide +kernel
theorem dX2_sign_26 : decode cX2_sign 26 = .ok (.new 59, 3) := by decide +kernel
theorem dX2_sign_29 : decode cX2_sign 29 = .ok (.dup, 1) := by decide +kernel
theorem dX2_sign_30 : decode cX2_sign 30 = .ok (.ldc 124, 2) := by decide +kernel
theorem dX2_sign_32 : decode cX2_sign 32 = .ok (.invokespecial 63, 3) := by decide +kernel
theorem dX2_sign_35 : decode cX2_sign 35 = .ok (.athrow, 1) := by decide +kernel
theorem dX2_sign_36 : decode cX2_sign 36 = .ok (.aload_n 0, 1) := by decide +kernel
theorem dX2_sign_37 : decode cX2_sign 37 = .ok (.iload_n 1, 1) := by decide +kernel
theorem dX2_sign_38 : decode cX2_sign 38 = .ok (.iload_n 2, 1) := by decide +kernel
theorem dX2_sign_39 : decode cX2_sign 39 = .ok (.iload_n 3, 1) := by decide +kernel
theorem dX2_sign_40 : decode cX2_sign 40 = .ok (.invokevirtual 130, 3) := by decide +kernel
theorem dX2_sign_43 : decode cX2_sign 43 = .ok (.ireturn, 1) := by decide +kernel
theorem dX2_setMark_0 : decode cX2_setMark 0 = .ok (.iload_n 1, 1) := by decide +kernel
theorem dX2_setMark_1 : decode cX2_setMark 1 = .ok (.iconst 1, 1) := by decide +kernel
theorem dX2_setMark_2 : decode cX2_setMark 2 = .ok (.if_icmp .lt 10, 3) := by decide +kernel
theorem dX2_setMark_5 : decode cX2_setMark 5 = .ok (.iload_n 1, 1) := by decide +kernel
theorem dX2_setMark_6 : decode cX2_setMark 6 = .ok (.sipush 1000, 3) := by decide +kernel
theorem dX2_setMark_9 : decode cX2_setMark 9 = .ok (.if_icmp .le 13, 3) := by decide +kernel
theorem dX2_setMark_12 : decode cX2_setMark 12 = .ok (.new 59, 3) := by decide +kernel
theorem dX2_setMark_15 : decode cX2_setMark 15 = .ok (.dup, 1) := by decide +kernel
theorem dX2_setMark_16 : decode cX2_setMark 16 = .ok (.ldc 134, 2) := by decide +kernel
theorem dX2_setMark_18 : decode cX2_setMark 18 = .ok (.invokespecial 63, 3) := by decide +kernel
theorem dX2_setMark_21 : decode cX2_setMark 21 = .ok (.athrow, 1) := by decide +kernel
theorem dX2_setMark_22 : decode cX2_setMark 22 = .ok (.aload_n 0, 1) := by decide +kernel
theorem dX2_setMark_23 : decode cX2_setMark 23 = .ok (.getfield 32, 3) := by decide +kernel
theorem dX2_setMark_26 : decode cX2_setMark 26 = .ok (.istore_n 2, 1) := by decide +kernel
theorem dX2_setMark_27 : decode cX2_setMark 27 = .ok (.aload_n 0, 1) := by decide +kernel
theorem dX2_setMark_28 : decode cX2_setMark 28 = .ok (.iload_n 1, 1) := by decide +kernel
theorem dX2_setMark_29 : decode cX2_setMark 29 = .ok (.putfield 32, 3) := by decide +kernel
theorem dX2_setMark_32 : decode cX2_setMark 32 = .ok (.iload_n 2, 1) := by decide +kernel
theorem dX2_setMark_33 : decode cX2_setMark 33 = .ok (.ireturn, 1) := by decide +kernel
set_option maxRecDepth 20000 in
theorem ggX2_worst_X2_suspicionOf : GoodIn wsX2_worst wsX2_suspicionOf := goodIn_r _ [5, 6, 7, 8, 9, 4, 10, 11, 12, 13, 14, 15, 16, 17, 18, 19, 20, 21, 22, 23, 24, 25, 26, 27, 28, 29, 30, 31, 32, 33, 34, 35, 36, 37, 38, 39, 40, 41, 42, 43, 44, 45, 46, 47, 48, 49, 50, 51, 52, 53, 54, 55, 56, 57, 58, 59, 60, 61, 62, 63, 64, 65, 66, 67, 68, 69, 70] (by decide +kernel) (by decide +kernel)
set_option maxRecDepth 20000 in
theorem gX2_worst_X2_suspicionOf : GoodIn wsX2_worst (wsV RX2 126 RX2 yX2_suspicionOf wsX2_suspicionOf) := goodIn_app (goodIn_of _ (by decide +kernel)) ggX2_worst_X2_suspicionOf
theorem dX2_worst_0 : decode cX2_worst 0 = .ok (.iconst (-1), 1) := by decide +kernel
theorem dX2_worst_1 : decode cX2_worst 1 = .ok (.istore_n 1, 1) := by decide +kernel
theorem dX2_worst_2 : decode cX2_worst 2 = .ok (.iconst 0, 1) := by decide +kernel
theorem dX2_worst_3 : decode cX2_worst 3 = .ok (.istore_n 2, 1) := by decide +kernel
theorem dX2_worst_4 : decode cX2_worst 4 = .ok (.iconst 0, 1) := by decide +kernel
theorem dX2_worst_5 : decode cX2_worst 5 = .ok (.istore_n 3, 1) := by decide +kernel
theorem dX2_worst_6 : decode cX2_worst 6 = .ok (.iload_n 3, 1) := by decide +kernel
theorem dX2_worst_7 : decode cX2_worst 7 = .ok (.bipush 7, 2) := by decide +kernel
theorem dX2_worst_9 : decode cX2_worst 9 = .ok (.if_icmp .ge 53, 3) := by decide +kernel
theorem dX2_worst_12 : decode cX2_worst 12 = .ok (.iload_n 3, 1) := by decide +kernel
theorem dX2_worst_13 : decode cX2_worst 13 = .ok (.iconst 1, 1) := by decide +kernel
theorem dX2_worst_14 : decode cX2_worst 14 = .ok (.iadd, 1) := by decide +kernel
theorem dX2_worst_15 : decode cX2_worst 15 = .ok (.istore 4, 2) := by decide +kernel
theorem dX2_worst_17 : decode cX2_worst 17 = .ok (.iload 4, 2) := by decide +kernel
theorem dX2_worst_19 : decode cX2_worst 19 = .ok (.bipush 7, 2) := by decide +kernel
theorem dX2_worst_21 : decode cX2_worst 21 = .ok (.if_icmp .ge 35, 3) := by decide +kernel
theorem dX2_worst_24 : decode cX2_worst 24 = .ok (.aload_n 0, 1) := by decide +kernel
theorem dX2_worst_25 : decode cX2_worst 25 = .ok (.iload_n 3, 1) := by decide +kernel
theorem dX2_worst_26 : decode cX2_worst 26 = .ok (.iload 4, 2) := by decide +kernel
theorem dX2_worst_28 : decode cX2_worst 28 = .ok (.invokevirtual 126, 3) := by decide +kernel
theorem dX2_worst_31 : decode cX2_worst 31 = .ok (.istore 5, 2) := by decide +kernel
theorem dX2_worst_33 : decode cX2_worst 33 = .ok (.iload 5, 2) := by decide +kernel
theorem dX2_worst_35 : decode cX2_worst 35 = .ok (.iload_n 2, 1) := by decide +kernel
theorem dX2_worst_36 : decode cX2_worst 36 = .ok (.if_icmp .le 14, 3) := by decide +kernel
theorem dX2_worst_39 : decode cX2_worst 39 = .ok (.iload 5, 2) := by decide +kernel
theorem dX2_worst_41 : decode cX2_worst 41 = .ok (.istore_n 2, 1) := by decide +kernel
theorem dX2_worst_42 : decode cX2_worst 42 = .ok (.bipush 10, 2) := by decide +kernel
theorem dX2_worst_44 : decode cX2_worst 44 = .ok (.iload_n 3, 1) := by decide +kernel
theorem dX2_worst_45 : decode cX2_worst 45 = .ok (.imul, 1) := by decide +kernel
theorem dX2_worst_46 : decode cX2_worst 46 = .ok (.iload 4, 2) := by decide +kernel
theorem dX2_worst_48 : decode cX2_worst 48 = .ok (.iadd, 1) := by decide +kernel
theorem dX2_worst_49 : decode cX2_worst 49 = .ok (.istore_n 1, 1) := by decide +kernel
theorem dX2_worst_50 : decode cX2_worst 50 = .ok (.iinc 4 1, 3) := by decide +kernel
theorem dX2_worst_53 : decode cX2_worst 53 = .ok (.goto (-36), 3) := by decide +kernel
theorem dX2_worst_56 : decode cX2_worst 56 = .ok (.iinc 3 1, 3) := by decide +kernel
theorem dX2_worst_59 : decode cX2_worst 59 = .ok (.goto (-53), 3) := by decide +kernel
theorem dX2_worst_62 : decode cX2_worst 62 = .ok (.iload_n 1, 1) := by decide +kernel
theorem dX2_worst_63 : decode cX2_worst 63 = .ok (.ireturn, 1) := by decide +kernel
set_option maxRecDepth 20000 in
theorem ggX2_file_X2_isPair : GoodIn wsX2_file wsX2_isPair := goodIn_r _ [15, 16, 17, 14, 18] (by decide +kernel) (by decide +kernel)
set_option maxRecDepth 20000 in
theorem gX2_file_X2_isPair : GoodIn wsX2_file (va_wsS RX2 120 yX2_isPair wsX2_isPair) := goodIn_app (goodIn_of _ (by decide +kernel)) ggX2_file_X2_isPair
set_option maxRecDepth 20000 in
theorem ggX2_file_X2_hasDossier : GoodIn wsX2_file wsX2_hasDossier := goodIn_r _ [22, 6, 23, 24, 25, 10, 26, 27, 28, 101, 102, 103, 104, 105, 106, 107, 108, 109, 110, 111, 112, 113, 114] (by decide +kernel) (by decide +kernel)
set_option maxRecDepth 20000 in
theorem gX2_file_X2_hasDossier : GoodIn wsX2_file (wsV RX2 136 RX2 yX2_hasDossier wsX2_hasDossier) := goodIn_app (goodIn_of _ (by decide +kernel)) ggX2_file_X2_hasDossier
set_option maxRecDepth 20000 in
theorem ggX2_file_X2_suspicionOf : GoodIn wsX2_file wsX2_suspicionOf := goodIn_r _ [32, 11, 33, 34, 35, 14, 36, 37, 38, 39, 40, 41, 42, 43, 44, 45, 46, 47, 48, 49, 50, 51, 52, 53, 54, 55, 56, 57, 17, 18, 58, 59, 60, 61, 62, 63, 64, 65, 66, 67, 68, 69, 70, 71, 72, 73, 74, 75, 76, 77, 78, 79, 80, 81, 82, 101, 102, 103, 104, 105, 106, 115, 116, 117, 118, 119, 120] (by decide +kernel) (by decide +kernel)
set_option maxRecDepth 20000 in
theorem gX2_file_X2_suspicionOf : GoodIn wsX2_file (wsV RX2 126 RX2 yX2_suspicionOf wsX2_suspicionOf) := goodIn_app (goodIn_of _ (by decide +kernel)) ggX2_file_X2_suspicionOf
set_option maxRecDepth 20000 in
theorem ggX2_file_X0_init : GoodIn wsX2_file wsX0_init := goodIn_r _ [85, 86, 87, 88, 89, 90, 91, 92, 93, 94, 95, 96, 27, 28, 107, 108, 109, 110, 111, 112, 113, 114] (by decide +kernel) (by decide +kernel)
set_option maxRecDepth 20000 in
theorem gX2_file_X0_init : GoodIn wsX2_file (wsX0_init) := ggX2_file_X0_init
set_option maxRecDepth 20000 in
theorem ggX2_file_X2_countOf : GoodIn wsX2_file wsX2_countOf := goodIn_r _ [36, 37, 38, 39, 14, 40, 11, 41, 42, 43, 44, 45, 46, 47, 48, 49, 50, 51, 52, 53, 54, 55, 56, 57, 17, 18, 58, 59, 60, 61, 62, 63, 64, 65, 66, 67, 68, 69, 70, 71, 72, 73, 74, 75, 76, 77, 78, 79, 80, 81, 82, 101, 102, 103, 104, 105, 106, 115, 116, 117, 118, 119, 120] (by decide +kernel) (by decide +kernel)
set_option maxRecDepth 20000 in
theorem gX2_file_X2_countOf : GoodIn wsX2_file (wsV RX2 130 RX2 yX2_countOf wsX2_countOf) := goodIn_app (goodIn_of _ (by decide +kernel)) ggX2_file_X2_countOf
set_option maxRecDepth 20000 in
theorem ggX2_file_X0_addMatter : GoodIn wsX2_file wsX0_addMatter := goodIn_r _ [100, 90, 94, 107, 108, 109, 110, 111, 112, 113, 114] (by decide +kernel) (by decide +kernel)
set_option maxRecDepth 20000 in
theorem gX2_file_X0_addMatter : GoodIn wsX2_file (wsV RX2 143 RX0 yX0_addMatter wsX0_addMatter) := goodIn_app (goodIn_of _ (by decide +kernel)) ggX2_file_X0_addMatter
theorem dX2_file_0 : decode cX2_file 0 = .ok (.iload_n 1, 1) := by decide +kernel
theorem dX2_file_1 : decode cX2_file 1 = .ok (.iload_n 2, 1) := by decide +kernel
theorem dX2_file_2 : decode cX2_file 2 = .ok (.invokestatic 120, 3) := by decide +kernel
theorem dX2_file_5 : decode cX2_file 5 = .ok (.ifCond .ne 13, 3) := by decide +kernel
theorem dX2_file_8 : decode cX2_file 8 = .ok (.new 59, 3) := by decide +kernel
theorem dX2_file_11 : decode cX2_file 11 = .ok (.dup, 1) := by decide +kernel
theorem dX2_file_12 : decode cX2_file 12 = .ok (.ldc 124, 2) := by decide +kernel
theorem dX2_file_14 : decode cX2_file 14 = .ok (.invokespecial 63, 3) := by decide +kernel
theorem dX2_file_17 : decode cX2_file 17 = .ok (.athrow, 1) := by decide +kernel
theorem dX2_file_18 : decode cX2_file 18 = .ok (.aload_n 0, 1) := by decide +kernel
theorem dX2_file_19 : decode cX2_file 19 = .ok (.getfield 25, 3) := by decide +kernel
theorem dX2_file_22 : decode cX2_file 22 = .ok (.istore_n 3, 1) := by decide +kernel
theorem dX2_file_23 : decode cX2_file 23 = .ok (.iload_n 3, 1) := by decide +kernel
theorem dX2_file_24 : decode cX2_file 24 = .ok (.ifCond .lt 34, 3) := by decide +kernel
theorem dX2_file_27 : decode cX2_file 27 = .ok (.iload_n 3, 1) := by decide +kernel
theorem dX2_file_28 : decode cX2_file 28 = .ok (.aload_n 0, 1) := by decide +kernel
theorem dX2_file_29 : decode cX2_file 29 = .ok (.getfield 21, 3) := by decide +kernel
theorem dX2_file_32 : decode cX2_file 32 = .ok (.arraylength, 1) := by decide +kernel
theorem dX2_file_33 : decode cX2_file 33 = .ok (.if_icmp .ge 25, 3) := by decide +kernel
theorem dX2_file_36 : decode cX2_file 36 = .ok (.aload_n 0, 1) := by decide +kernel
theorem dX2_file_37 : decode cX2_file 37 = .ok (.iload_n 1, 1) := by decide +kernel
theorem dX2_file_38 : decode cX2_file 38 = .ok (.iload_n 2, 1) := by decide +kernel
theorem dX2_file_39 : decode cX2_file 39 = .ok (.invokevirtual 136, 3) := by decide +kernel
theorem dX2_file_42 : decode cX2_file 42 = .ok (.ifCond .ne 16, 3) := by decide +kernel
theorem dX2_file_45 : decode cX2_file 45 = .ok (.aload_n 0, 1) := by decide +kernel
theorem dX2_file_46 : decode cX2_file 46 = .ok (.iload_n 1, 1) := by decide +kernel
theorem dX2_file_47 : decode cX2_file 47 = .ok (.iload_n 2, 1) := by decide +kernel
theorem dX2_file_48 : decode cX2_file 48 = .ok (.invokevirtual 126, 3) := by decide +kernel
theorem dX2_file_51 : decode cX2_file 51 = .ok (.aload_n 0, 1) := by decide +kernel
theorem dX2_file_52 : decode cX2_file 52 = .ok (.getfield 32, 3) := by decide +kernel
theorem dX2_file_55 : decode cX2_file 55 = .ok (.if_icmp .ge 13, 3) := by decide +kernel
theorem dX2_file_58 : decode cX2_file 58 = .ok (.new 35, 3) := by decide +kernel
theorem dX2_file_61 : decode cX2_file 61 = .ok (.dup, 1) := by decide +kernel
theorem dX2_file_62 : decode cX2_file 62 = .ok (.ldc 139, 2) := by decide +kernel
theorem dX2_file_64 : decode cX2_file 64 = .ok (.invokespecial 39, 3) := by decide +kernel
theorem dX2_file_67 : decode cX2_file 67 = .ok (.athrow, 1) := by decide +kernel
theorem dX2_file_68 : decode cX2_file 68 = .ok (.new 19, 3) := by decide +kernel
theorem dX2_file_71 : decode cX2_file 71 = .ok (.dup, 1) := by decide +kernel
theorem dX2_file_72 : decode cX2_file 72 = .ok (.iload_n 1, 1) := by decide +kernel
theorem dX2_file_73 : decode cX2_file 73 = .ok (.iload_n 2, 1) := by decide +kernel
theorem dX2_file_74 : decode cX2_file 74 = .ok (.invokespecial 141, 3) := by decide +kernel
theorem dX2_file_77 : decode cX2_file 77 = .ok (.astore 4, 2) := by decide +kernel
theorem dX2_file_79 : decode cX2_file 79 = .ok (.iconst 0, 1) := by decide +kernel
theorem dX2_file_80 : decode cX2_file 80 = .ok (.istore 5, 2) := by decide +kernel
theorem dX2_file_82 : decode cX2_file 82 = .ok (.iload 5, 2) := by decide +kernel
theorem dX2_file_84 : decode cX2_file 84 = .ok (.aload_n 0, 1) := by decide +kernel
theorem dX2_file_85 : decode cX2_file 85 = .ok (.getfield 11, 3) := by decide +kernel
theorem dX2_file_88 : decode cX2_file 88 = .ok (.arraylength, 1) := by decide +kernel
theorem dX2_file_89 : decode cX2_file 89 = .ok (.if_icmp .ge 27, 3) := by decide +kernel
theorem dX2_file_92 : decode cX2_file 92 = .ok (.aload_n 0, 1) := by decide +kernel
theorem dX2_file_93 : decode cX2_file 93 = .ok (.iload 5, 2) := by decide +kernel
theorem dX2_file_95 : decode cX2_file 95 = .ok (.iload_n 1, 1) := by decide +kernel
theorem dX2_file_96 : decode cX2_file 96 = .ok (.iload_n 2, 1) := by decide +kernel
theorem dX2_file_97 : decode cX2_file 97 = .ok (.invokevirtual 130, 3) := by decide +kernel
theorem dX2_file_100 : decode cX2_file 100 = .ok (.ifCond .le 10, 3) := by decide +kernel
theorem dX2_file_103 : decode cX2_file 103 = .ok (.aload 4, 2) := by decide +kernel
theorem dX2_file_105 : decode cX2_file 105 = .ok (.iload 5, 2) := by decide +kernel
theorem dX2_file_107 : decode cX2_file 107 = .ok (.invokevirtual 143, 3) := by decide +kernel
theorem dX2_file_110 : decode cX2_file 110 = .ok (.iinc 5 1, 3) := by decide +kernel
theorem dX2_file_113 : decode cX2_file 113 = .ok (.goto (-31), 3) := by decide +kernel
theorem dX2_file_116 : decode cX2_file 116 = .ok (.aload_n 0, 1) := by decide +kernel
theorem dX2_file_117 : decode cX2_file 117 = .ok (.getfield 21, 3) := by decide +kernel
theorem dX2_file_120 : decode cX2_file 120 = .ok (.iload_n 3, 1) := by decide +kernel
theorem dX2_file_121 : decode cX2_file 121 = .ok (.aload 4, 2) := by decide +kernel
theorem dX2_file_123 : decode cX2_file 123 = .ok (.aastore, 1) := by decide +kernel
theorem dX2_file_124 : decode cX2_file 124 = .ok (.aload_n 0, 1) := by decide +kernel
theorem dX2_file_125 : decode cX2_file 125 = .ok (.iload_n 3, 1) := by decide +kernel
theorem dX2_file_126 : decode cX2_file 126 = .ok (.iconst 1, 1) := by decide +kernel
theorem dX2_file_127 : decode cX2_file 127 = .ok (.iadd, 1) := by decide +kernel
theorem dX2_file_128 : decode cX2_file 128 = .ok (.putfield 25, 3) := by decide +kernel
theorem dX2_file_131 : decode cX2_file 131 = .ok (.iload_n 3, 1) := by decide +kernel
theorem dX2_file_132 : decode cX2_file 132 = .ok (.ireturn, 1) := by decide +kernel
set_option maxRecDepth 20000 in
theorem ggX2_matters_X2_dossierAt : GoodIn wsX2_matters wsX2_dossierAt := goodIn_r _ [7, 8, 15, 16, 17, 18, 19, 20] (by decide +kernel) (by decide +kernel)
set_option maxRecDepth 20000 in
theorem gX2_matters_X2_dossierAt : GoodIn wsX2_matters (wsV RX2 146 RX2 yX2_dossierAt wsX2_dossierAt) := goodIn_app (goodIn_of _ (by decide +kernel)) ggX2_matters_X2_dossierAt
set_option maxRecDepth 20000 in
theorem ggX2_matters_X0_matterCount : GoodIn wsX2_matters wsX0_matterCount := goodIn_r _ [13, 14, 21, 22, 23, 24, 25, 26, 27, 28] (by decide +kernel) (by decide +kernel)
set_option maxRecDepth 20000 in
theorem gX2_matters_X0_matterCount : GoodIn wsX2_matters (wsV RX2 152 RX0 yX0_matterCount wsX0_matterCount) := goodIn_app (goodIn_of _ (by decide +kernel)) ggX2_matters_X0_matterCount
theorem dX2_matters_0 : decode cX2_matters 0 = .ok (.aload_n 0, 1) := by decide +kernel
theorem dX2_matters_1 : decode cX2_matters 1 = .ok (.iload_n 1, 1) := by decide +kernel
theorem dX2_matters_2 : decode cX2_matters 2 = .ok (.invokevirtual 146, 3) := by decide +kernel
theorem dX2_matters_5 : decode cX2_matters 5 = .ok (.astore_n 2, 1) := by decide +kernel
theorem dX2_matters_6 : decode cX2_matters 6 = .ok (.aload_n 2, 1) := by decide +kernel
theorem dX2_matters_7 : decode cX2_matters 7 = .ok (.ifnonnull 13, 3) := by decide +kernel
theorem dX2_matters_10 : decode cX2_matters 10 = .ok (.new 47, 3) := by decide +kernel
theorem dX2_matters_13 : decode cX2_matters 13 = .ok (.dup, 1) := by decide +kernel
theorem dX2_matters_14 : decode cX2_matters 14 = .ok (.ldc 150, 2) := by decide +kernel
theorem dX2_matters_16 : decode cX2_matters 16 = .ok (.invokespecial 51, 3) := by decide +kernel
theorem dX2_matters_19 : decode cX2_matters 19 = .ok (.athrow, 1) := by decide +kernel
theorem dX2_matters_20 : decode cX2_matters 20 = .ok (.aload_n 2, 1) := by decide +kernel
theorem dX2_matters_21 : decode cX2_matters 21 = .ok (.invokevirtual 152, 3) := by decide +kernel
theorem dX2_matters_24 : decode cX2_matters 24 = .ok (.ireturn, 1) := by decide +kernel
set_option maxRecDepth 20000 in
theorem ggX2_tell_X2_dossierAt : GoodIn wsX2_tell wsX2_dossierAt := goodIn_r _ [11, 12, 39, 40, 41, 42, 43, 44] (by decide +kernel) (by decide +kernel)
set_option maxRecDepth 20000 in
theorem gX2_tell_X2_dossierAt : GoodIn wsX2_tell (wsV RX2 146 RX2 yX2_dossierAt wsX2_dossierAt) := goodIn_app (goodIn_of _ (by decide +kernel)) ggX2_tell_X2_dossierAt
set_option maxRecDepth 20000 in
theorem ggX2_tell_X2_tenderAt : GoodIn wsX2_tell wsX2_tenderAt := goodIn_r _ [16, 17, 39, 40, 41, 42, 43, 44] (by decide +kernel) (by decide +kernel)
set_option maxRecDepth 20000 in
theorem gX2_tell_X2_tenderAt : GoodIn wsX2_tell (wsV RX2 43 RX2 yX2_tenderAt wsX2_tenderAt) := goodIn_app (goodIn_of _ (by decide +kernel)) ggX2_tell_X2_tenderAt
set_option maxRecDepth 20000 in
theorem ggX2_tell_X0_isOf : GoodIn wsX2_tell wsX0_isOf := goodIn_r _ [22, 23, 24, 45, 46, 47, 48, 49, 50, 51, 52] (by decide +kernel) (by decide +kernel)
set_option maxRecDepth 20000 in
theorem gX2_tell_X0_isOf : GoodIn wsX2_tell (wsV RX2 157 RX0 yX0_isOf wsX0_isOf) := goodIn_app (goodIn_of _ (by decide +kernel)) ggX2_tell_X0_isOf
set_option maxRecDepth 20000 in
theorem ggX2_tell_X0_isClosed : GoodIn wsX2_tell wsX0_isClosed := goodIn_r _ [28, 29, 45, 46, 47, 48, 49, 50, 51, 52] (by decide +kernel) (by decide +kernel)
set_option maxRecDepth 20000 in
theorem gX2_tell_X0_isClosed : GoodIn wsX2_tell (wsV RX2 162 RX0 yX0_isClosed wsX0_isClosed) := goodIn_app (goodIn_of _ (by decide +kernel)) ggX2_tell_X0_isClosed
set_option maxRecDepth 20000 in
theorem ggX2_tell_X0_hear : GoodIn wsX2_tell wsX0_hear := goodIn_r _ [33, 34, 35, 36, 37, 10, 38, 45, 46, 47, 48, 49, 50, 51, 52] (by decide +kernel) (by decide +kernel)
set_option maxRecDepth 20000 in
theorem gX2_tell_X0_hear : GoodIn wsX2_tell (wsV RX2 167 RX0 yX0_hear wsX0_hear) := goodIn_app (goodIn_of _ (by decide +kernel)) ggX2_tell_X0_hear
theorem dX2_tell_0 : decode cX2_tell 0 = .ok (.aload_n 0, 1) := by decide +kernel
theorem dX2_tell_1 : decode cX2_tell 1 = .ok (.iload_n 1, 1) := by decide +kernel
theorem dX2_tell_2 : decode cX2_tell 2 = .ok (.invokevirtual 146, 3) := by decide +kernel
theorem dX2_tell_5 : decode cX2_tell 5 = .ok (.astore 4, 2) := by decide +kernel
theorem dX2_tell_7 : decode cX2_tell 7 = .ok (.aload 4, 2) := by decide +kernel
theorem dX2_tell_9 : decode cX2_tell 9 = .ok (.ifnull 11, 3) := by decide +kernel
theorem dX2_tell_12 : decode cX2_tell 12 = .ok (.aload_n 0, 1) := by decide +kernel
theorem dX2_tell_13 : decode cX2_tell 13 = .ok (.iload_n 3, 1) := by decide +kernel
theorem dX2_tell_14 : decode cX2_tell 14 = .ok (.invokevirtual 43, 3) := by decide +kernel
theorem dX2_tell_17 : decode cX2_tell 17 = .ok (.ifnonnull 13, 3) := by decide +kernel
theorem dX2_tell_20 : decode cX2_tell 20 = .ok (.new 47, 3) := by decide +kernel
theorem dX2_tell_23 : decode cX2_tell 23 = .ok (.dup, 1) := by decide +kernel
theorem dX2_tell_24 : decode cX2_tell 24 = .ok (.ldc 155, 2) := by decide +kernel
theorem dX2_tell_26 : decode cX2_tell 26 = .ok (.invokespecial 51, 3) := by decide +kernel
theorem dX2_tell_29 : decode cX2_tell 29 = .ok (.athrow, 1) := by decide +kernel
theorem dX2_tell_30 : decode cX2_tell 30 = .ok (.aload 4, 2) := by decide +kernel
theorem dX2_tell_32 : decode cX2_tell 32 = .ok (.iload_n 2, 1) := by decide +kernel
theorem dX2_tell_33 : decode cX2_tell 33 = .ok (.invokevirtual 157, 3) := by decide +kernel
theorem dX2_tell_36 : decode cX2_tell 36 = .ok (.ifCond .ne 13, 3) := by decide +kernel
theorem dX2_tell_39 : decode cX2_tell 39 = .ok (.new 59, 3) := by decide +kernel
theorem dX2_tell_42 : decode cX2_tell 42 = .ok (.dup, 1) := by decide +kernel
theorem dX2_tell_43 : decode cX2_tell 43 = .ok (.ldc 160, 2) := by decide +kernel
theorem dX2_tell_45 : decode cX2_tell 45 = .ok (.invokespecial 63, 3) := by decide +kernel
theorem dX2_tell_48 : decode cX2_tell 48 = .ok (.athrow, 1) := by decide +kernel
theorem dX2_tell_49 : decode cX2_tell 49 = .ok (.aload 4, 2) := by decide +kernel
theorem dX2_tell_51 : decode cX2_tell 51 = .ok (.invokevirtual 162, 3) := by decide +kernel
theorem dX2_tell_54 : decode cX2_tell 54 = .ok (.ifCond .eq 13, 3) := by decide +kernel
theorem dX2_tell_57 : decode cX2_tell 57 = .ok (.new 35, 3) := by decide +kernel
theorem dX2_tell_60 : decode cX2_tell 60 = .ok (.dup, 1) := by decide +kernel
theorem dX2_tell_61 : decode cX2_tell 61 = .ok (.ldc 165, 2) := by decide +kernel
theorem dX2_tell_63 : decode cX2_tell 63 = .ok (.invokespecial 39, 3) := by decide +kernel
theorem dX2_tell_66 : decode cX2_tell 66 = .ok (.athrow, 1) := by decide +kernel
theorem dX2_tell_67 : decode cX2_tell 67 = .ok (.aload 4, 2) := by decide +kernel
theorem dX2_tell_69 : decode cX2_tell 69 = .ok (.iload_n 2, 1) := by decide +kernel
theorem dX2_tell_70 : decode cX2_tell 70 = .ok (.iload_n 3, 1) := by decide +kernel
theorem dX2_tell_71 : decode cX2_tell 71 = .ok (.invokevirtual 167, 3) := by decide +kernel
theorem dX2_tell_74 : decode cX2_tell 74 = .ok (.ireturn, 1) := by decide +kernel
set_option maxRecDepth 20000 in
theorem ggX2_compensate_X2_isBidder : GoodIn wsX2_compensate wsX2_isBidder := goodIn_r _ [7] (by decide +kernel) (by decide +kernel)
set_option maxRecDepth 20000 in
theorem gX2_compensate_X2_isBidder : GoodIn wsX2_compensate (va_wsS RX2 52 yX2_isBidder wsX2_isBidder) := goodIn_app (goodIn_of _ (by decide +kernel)) ggX2_compensate_X2_isBidder
set_option maxRecDepth 20000 in
theorem ggX2_compensate_X2_isMoney : GoodIn wsX2_compensate wsX2_isMoney := goodIn_r _ [10, 11] (by decide +kernel) (by decide +kernel)
set_option maxRecDepth 20000 in
theorem gX2_compensate_X2_isMoney : GoodIn wsX2_compensate (va_wsS RX2 56 yX2_isMoney wsX2_isMoney) := goodIn_app (goodIn_of _ (by decide +kernel)) ggX2_compensate_X2_isMoney
theorem dX2_compensate_0 : decode cX2_compensate 0 = .ok (.iload_n 1, 1) := by decide +kernel
theorem dX2_compensate_1 : decode cX2_compensate 1 = .ok (.invokestatic 52, 3) := by decide +kernel
theorem dX2_compensate_4 : decode cX2_compensate 4 = .ok (.ifCond .eq 10, 3) := by decide +kernel
theorem dX2_compensate_7 : decode cX2_compensate 7 = .ok (.iload_n 2, 1) := by decide +kernel
theorem dX2_compensate_8 : decode cX2_compensate 8 = .ok (.invokestatic 56, 3) := by decide +kernel
theorem dX2_compensate_11 : decode cX2_compensate 11 = .ok (.ifCond .ne 13, 3) := by decide +kernel
theorem dX2_compensate_14 : decode cX2_compensate 14 = .ok (.new 59, 3) := by decide +kernel
theorem dX2_compensate_17 : decode cX2_compensate 17 = .ok (.dup, 1) := by decide +kernel
theorem dX2_compensate_18 : decode cX2_compensate 18 = .ok (.ldc 170, 2) := by decide +kernel
theorem dX2_compensate_20 : decode cX2_compensate 20 = .ok (.invokespecial 63, 3) := by decide +kernel
theorem dX2_compensate_23 : decode cX2_compensate 23 = .ok (.athrow, 1) := by decide +kernel
theorem dX2_compensate_24 : decode cX2_compensate 24 = .ok (.aload_n 0, 1) := by decide +kernel
theorem dX2_compensate_25 : decode cX2_compensate 25 = .ok (.getfield 28, 3) := by decide +kernel
theorem dX2_compensate_28 : decode cX2_compensate 28 = .ok (.iload_n 1, 1) := by decide +kernel
theorem dX2_compensate_29 : decode cX2_compensate 29 = .ok (.dup2, 1) := by decide +kernel
theorem dX2_compensate_30 : decode cX2_compensate 30 = .ok (.iaload, 1) := by decide +kernel
theorem dX2_compensate_31 : decode cX2_compensate 31 = .ok (.iload_n 2, 1) := by decide +kernel
theorem dX2_compensate_32 : decode cX2_compensate 32 = .ok (.iadd, 1) := by decide +kernel
theorem dX2_compensate_33 : decode cX2_compensate 33 = .ok (.iastore, 1) := by decide +kernel
theorem dX2_compensate_34 : decode cX2_compensate 34 = .ok (.aload_n 0, 1) := by decide +kernel
theorem dX2_compensate_35 : decode cX2_compensate 35 = .ok (.getfield 28, 3) := by decide +kernel
theorem dX2_compensate_38 : decode cX2_compensate 38 = .ok (.iload_n 1, 1) := by decide +kernel
theorem dX2_compensate_39 : decode cX2_compensate 39 = .ok (.iaload, 1) := by decide +kernel
theorem dX2_compensate_40 : decode cX2_compensate 40 = .ok (.ireturn, 1) := by decide +kernel
set_option maxRecDepth 20000 in
theorem ggX2_close_X2_dossierAt : GoodIn wsX2_close wsX2_dossierAt := goodIn_r _ [9, 10, 73, 74, 75, 76, 77, 78] (by decide +kernel) (by decide +kernel)
set_option maxRecDepth 20000 in
theorem gX2_close_X2_dossierAt : GoodIn wsX2_close (wsV RX2 146 RX2 yX2_dossierAt wsX2_dossierAt) := goodIn_app (goodIn_of _ (by decide +kernel)) ggX2_close_X2_dossierAt
set_option maxRecDepth 20000 in
theorem ggX2_close_X0_isClosed : GoodIn wsX2_close wsX0_isClosed := goodIn_r _ [15, 16, 79, 80, 81, 82, 83, 84, 85, 86] (by decide +kernel) (by decide +kernel)
set_option maxRecDepth 20000 in
theorem gX2_close_X0_isClosed : GoodIn wsX2_close (wsV RX2 162 RX0 yX0_isClosed wsX0_isClosed) := goodIn_app (goodIn_of _ (by decide +kernel)) ggX2_close_X0_isClosed
set_option maxRecDepth 20000 in
theorem ggX2_close_X0_shut : GoodIn wsX2_close wsX0_shut := goodIn_r _ [20, 16, 79, 80, 81, 82, 83, 84, 85, 86] (by decide +kernel) (by decide +kernel)
set_option maxRecDepth 20000 in
theorem gX2_close_X0_shut : GoodIn wsX2_close (wsV RX2 172 RX0 yX0_shut wsX0_shut) := goodIn_app (goodIn_of _ (by decide +kernel)) ggX2_close_X0_shut
set_option maxRecDepth 20000 in
theorem ggX2_close_X0_one : GoodIn wsX2_close wsX0_one := goodIn_r _ [24, 25, 79, 80, 81, 82, 83, 84, 85, 86] (by decide +kernel) (by decide +kernel)
set_option maxRecDepth 20000 in
theorem gX2_close_X0_one : GoodIn wsX2_close (wsV RX2 175 RX0 yX0_one wsX0_one) := goodIn_app (goodIn_of _ (by decide +kernel)) ggX2_close_X0_one
set_option maxRecDepth 20000 in
theorem ggX2_close_X2_settle : GoodIn wsX2_close wsX2_settle := goodIn_r _ [29, 30, 31, 32, 33, 34, 35, 36, 8, 37, 38, 39, 40, 41, 42, 43, 44, 45, 46, 47, 48, 49, 50, 51, 52, 53, 54, 55, 56, 57, 58, 14, 59, 60, 61, 62, 63, 64, 65, 66, 67, 73, 74, 75, 76, 77, 78, 87, 88, 89, 90, 91, 92, 79, 80, 81, 82, 83, 84, 85, 86] (by decide +kernel) (by decide +kernel)
set_option maxRecDepth 20000 in
theorem gX2_close_X2_settle : GoodIn wsX2_close (wsV RX2 178 RX2 yX2_settle wsX2_settle) := goodIn_app (goodIn_of _ (by decide +kernel)) ggX2_close_X2_settle
set_option maxRecDepth 20000 in
theorem ggX2_close_X0_other : GoodIn wsX2_close wsX0_other := goodIn_r _ [71, 72, 79, 80, 81, 82, 83, 84, 85, 86] (by decide +kernel) (by decide +kernel)
set_option maxRecDepth 20000 in
theorem gX2_close_X0_other : GoodIn wsX2_close (wsV RX2 182 RX0 yX0_other wsX0_other) := goodIn_app (goodIn_of _ (by decide +kernel)) ggX2_close_X0_other
theorem dX2_close_0 : decode cX2_close 0 = .ok (.aload_n 0, 1) := by decide +kernel
theorem dX2_close_1 : decode cX2_close 1 = .ok (.iload_n 1, 1) := by decide +kernel
theorem dX2_close_2 : decode cX2_close 2 = .ok (.invokevirtual 146, 3) := by decide +kernel
theorem dX2_close_5 : decode cX2_close 5 = .ok (.astore_n 2, 1) := by decide +kernel
theorem dX2_close_6 : decode cX2_close 6 = .ok (.aload_n 2, 1) := by decide +kernel
theorem dX2_close_7 : decode cX2_close 7 = .ok (.ifnonnull 13, 3) := by decide +kernel
theorem dX2_close_10 : decode cX2_close 10 = .ok (.new 47, 3) := by decide +kernel
theorem dX2_close_13 : decode cX2_close 13 = .ok (.dup, 1) := by decide +kernel
theorem dX2_close_14 : decode cX2_close 14 = .ok (.ldc 150, 2) := by decide +kernel
theorem dX2_close_16 : decode cX2_close 16 = .ok (.invokespecial 51, 3) := by decide +kernel
theorem dX2_close_19 : decode cX2_close 19 = .ok (.athrow, 1) := by decide +kernel
theorem dX2_close_20 : decode cX2_close 20 = .ok (.aload_n 2, 1) := by decide +kernel
theorem dX2_close_21 : decode cX2_close 21 = .ok (.invokevirtual 162, 3) := by decide +kernel
theorem dX2_close_24 : decode cX2_close 24 = .ok (.ifCond .eq 13, 3) := by decide +kernel
theorem dX2_close_27 : decode cX2_close 27 = .ok (.new 35, 3) := by decide +kernel
theorem dX2_close_30 : decode cX2_close 30 = .ok (.dup, 1) := by decide +kernel
theorem dX2_close_31 : decode cX2_close 31 = .ok (.ldc 165, 2) := by decide +kernel
theorem dX2_close_33 : decode cX2_close 33 = .ok (.invokespecial 39, 3) := by decide +kernel
theorem dX2_close_36 : decode cX2_close 36 = .ok (.athrow, 1) := by decide +kernel
theorem dX2_close_37 : decode cX2_close 37 = .ok (.aload_n 2, 1) := by decide +kernel
theorem dX2_close_38 : decode cX2_close 38 = .ok (.invokevirtual 172, 3) := by decide +kernel
theorem dX2_close_41 : decode cX2_close 41 = .ok (.aload_n 0, 1) := by decide +kernel
theorem dX2_close_42 : decode cX2_close 42 = .ok (.aload_n 2, 1) := by decide +kernel
theorem dX2_close_43 : decode cX2_close 43 = .ok (.aload_n 2, 1) := by decide +kernel
theorem dX2_close_44 : decode cX2_close 44 = .ok (.invokevirtual 175, 3) := by decide +kernel
theorem dX2_close_47 : decode cX2_close 47 = .ok (.invokevirtual 178, 3) := by decide +kernel
theorem dX2_close_50 : decode cX2_close 50 = .ok (.aload_n 0, 1) := by decide +kernel
theorem dX2_close_51 : decode cX2_close 51 = .ok (.aload_n 2, 1) := by decide +kernel
theorem dX2_close_52 : decode cX2_close 52 = .ok (.aload_n 2, 1) := by decide +kernel
theorem dX2_close_53 : decode cX2_close 53 = .ok (.invokevirtual 182, 3) := by decide +kernel
theorem dX2_close_56 : decode cX2_close 56 = .ok (.invokevirtual 178, 3) := by decide +kernel
theorem dX2_close_59 : decode cX2_close 59 = .ok (.iadd, 1) := by decide +kernel
theorem dX2_close_60 : decode cX2_close 60 = .ok (.ireturn, 1) := by decide +kernel
set_option maxRecDepth 20000 in
theorem ggX2_fine_X2_dossierAt : GoodIn wsX2_fine wsX2_dossierAt := goodIn_r _ [9, 10, 25, 26, 27, 28, 29, 30] (by decide +kernel) (by decide +kernel)
set_option maxRecDepth 20000 in
theorem gX2_fine_X2_dossierAt : GoodIn wsX2_fine (wsV RX2 146 RX2 yX2_dossierAt wsX2_dossierAt) := goodIn_app (goodIn_of _ (by decide +kernel)) ggX2_fine_X2_dossierAt
set_option maxRecDepth 20000 in
theorem ggX2_fine_X0_isOf : GoodIn wsX2_fine wsX0_isOf := goodIn_r _ [15, 16, 17, 31, 32, 33, 34, 35, 36, 37, 38] (by decide +kernel) (by decide +kernel)
set_option maxRecDepth 20000 in
theorem gX2_fine_X0_isOf : GoodIn wsX2_fine (wsV RX2 157 RX0 yX0_isOf wsX0_isOf) := goodIn_app (goodIn_of _ (by decide +kernel)) ggX2_fine_X0_isOf
set_option maxRecDepth 20000 in
theorem ggX2_fine_X0_fineOf : GoodIn wsX2_fine wsX0_fineOf := goodIn_r _ [21, 22, 23, 8, 24, 31, 32, 33, 34, 35, 36, 37, 38] (by decide +kernel) (by decide +kernel)
set_option maxRecDepth 20000 in
theorem gX2_fine_X0_fineOf : GoodIn wsX2_fine (wsV RX2 185 RX0 yX0_fineOf wsX0_fineOf) := goodIn_app (goodIn_of _ (by decide +kernel)) ggX2_fine_X0_fineOf
theorem dX2_fine_0 : decode cX2_fine 0 = .ok (.aload_n 0, 1) := by decide +kernel
theorem dX2_fine_1 : decode cX2_fine 1 = .ok (.iload_n 1, 1) := by decide +kernel
theorem dX2_fine_2 : decode cX2_fine 2 = .ok (.invokevirtual 146, 3) := by decide +kernel
theorem dX2_fine_5 : decode cX2_fine 5 = .ok (.astore_n 3, 1) := by decide +kernel
theorem dX2_fine_6 : decode cX2_fine 6 = .ok (.aload_n 3, 1) := by decide +kernel
theorem dX2_fine_7 : decode cX2_fine 7 = .ok (.ifnonnull 13, 3) := by decide +kernel
theorem dX2_fine_10 : decode cX2_fine 10 = .ok (.new 47, 3) := by decide +kernel
theorem dX2_fine_13 : decode cX2_fine 13 = .ok (.dup, 1) := by decide +kernel
theorem dX2_fine_14 : decode cX2_fine 14 = .ok (.ldc 150, 2) := by decide +kernel
theorem dX2_fine_16 : decode cX2_fine 16 = .ok (.invokespecial 51, 3) := by decide +kernel
theorem dX2_fine_19 : decode cX2_fine 19 = .ok (.athrow, 1) := by decide +kernel
theorem dX2_fine_20 : decode cX2_fine 20 = .ok (.aload_n 3, 1) := by decide +kernel
theorem dX2_fine_21 : decode cX2_fine 21 = .ok (.iload_n 2, 1) := by decide +kernel
theorem dX2_fine_22 : decode cX2_fine 22 = .ok (.invokevirtual 157, 3) := by decide +kernel
theorem dX2_fine_25 : decode cX2_fine 25 = .ok (.ifCond .ne 13, 3) := by decide +kernel
theorem dX2_fine_28 : decode cX2_fine 28 = .ok (.new 59, 3) := by decide +kernel
theorem dX2_fine_31 : decode cX2_fine 31 = .ok (.dup, 1) := by decide +kernel
theorem dX2_fine_32 : decode cX2_fine 32 = .ok (.ldc 160, 2) := by decide +kernel
theorem dX2_fine_34 : decode cX2_fine 34 = .ok (.invokespecial 63, 3) := by decide +kernel
theorem dX2_fine_37 : decode cX2_fine 37 = .ok (.athrow, 1) := by decide +kernel
theorem dX2_fine_38 : decode cX2_fine 38 = .ok (.aload_n 3, 1) := by decide +kernel
theorem dX2_fine_39 : decode cX2_fine 39 = .ok (.iload_n 2, 1) := by decide +kernel
theorem dX2_fine_40 : decode cX2_fine 40 = .ok (.invokevirtual 185, 3) := by decide +kernel
theorem dX2_fine_43 : decode cX2_fine 43 = .ok (.ireturn, 1) := by decide +kernel
set_option maxRecDepth 20000 in
theorem ggX2_firstTeller_X2_dossierAt : GoodIn wsX2_firstTeller wsX2_dossierAt := goodIn_r _ [7, 8, 15, 16, 17, 18, 19, 20] (by decide +kernel) (by decide +kernel)
set_option maxRecDepth 20000 in
theorem gX2_firstTeller_X2_dossierAt : GoodIn wsX2_firstTeller (wsV RX2 146 RX2 yX2_dossierAt wsX2_dossierAt) := goodIn_app (goodIn_of _ (by decide +kernel)) ggX2_firstTeller_X2_dossierAt
set_option maxRecDepth 20000 in
theorem ggX2_firstTeller_X0_first : GoodIn wsX2_firstTeller wsX0_first := goodIn_r _ [13, 14, 21, 22, 23, 24, 25, 26, 27, 28] (by decide +kernel) (by decide +kernel)
set_option maxRecDepth 20000 in
theorem gX2_firstTeller_X0_first : GoodIn wsX2_firstTeller (wsV RX2 188 RX0 yX0_first wsX0_first) := goodIn_app (goodIn_of _ (by decide +kernel)) ggX2_firstTeller_X0_first
theorem dX2_firstTeller_0 : decode cX2_firstTeller 0 = .ok (.aload_n 0, 1) := by decide +kernel
theorem dX2_firstTeller_1 : decode cX2_firstTeller 1 = .ok (.iload_n 1, 1) := by decide +kernel
theorem dX2_firstTeller_2 : decode cX2_firstTeller 2 = .ok (.invokevirtual 146, 3) := by decide +kernel
theorem dX2_firstTeller_5 : decode cX2_firstTeller 5 = .ok (.astore_n 2, 1) := by decide +kernel
theorem dX2_firstTeller_6 : decode cX2_firstTeller 6 = .ok (.aload_n 2, 1) := by decide +kernel
theorem dX2_firstTeller_7 : decode cX2_firstTeller 7 = .ok (.ifnonnull 13, 3) := by decide +kernel
theorem dX2_firstTeller_10 : decode cX2_firstTeller 10 = .ok (.new 47, 3) := by decide +kernel
theorem dX2_firstTeller_13 : decode cX2_firstTeller 13 = .ok (.dup, 1) := by decide +kernel
theorem dX2_firstTeller_14 : decode cX2_firstTeller 14 = .ok (.ldc 150, 2) := by decide +kernel
theorem dX2_firstTeller_16 : decode cX2_firstTeller 16 = .ok (.invokespecial 51, 3) := by decide +kernel
theorem dX2_firstTeller_19 : decode cX2_firstTeller 19 = .ok (.athrow, 1) := by decide +kernel
theorem dX2_firstTeller_20 : decode cX2_firstTeller 20 = .ok (.aload_n 2, 1) := by decide +kernel
theorem dX2_firstTeller_21 : decode cX2_firstTeller 21 = .ok (.invokevirtual 188, 3) := by decide +kernel
theorem dX2_firstTeller_24 : decode cX2_firstTeller 24 = .ok (.ireturn, 1) := by decide +kernel
theorem dX2_isBidder_0 : decode cX2_isBidder 0 = .ok (.iload_n 0, 1) := by decide +kernel
theorem dX2_isBidder_1 : decode cX2_isBidder 1 = .ok (.ifCond .lt 13, 3) := by decide +kernel
theorem dX2_isBidder_4 : decode cX2_isBidder 4 = .ok (.iload_n 0, 1) := by decide +kernel
theorem dX2_isBidder_5 : decode cX2_isBidder 5 = .ok (.bipush 7, 2) := by decide +kernel
theorem dX2_isBidder_7 : decode cX2_isBidder 7 = .ok (.if_icmp .ge 7, 3) := by decide +kernel
theorem dX2_isBidder_10 : decode cX2_isBidder 10 = .ok (.iconst 1, 1) := by decide +kernel
theorem dX2_isBidder_11 : decode cX2_isBidder 11 = .ok (.goto 4, 3) := by decide +kernel
theorem dX2_isBidder_14 : decode cX2_isBidder 14 = .ok (.iconst 0, 1) := by decide +kernel
theorem dX2_isBidder_15 : decode cX2_isBidder 15 = .ok (.ireturn, 1) := by decide +kernel
set_option maxRecDepth 20000 in
theorem ggX2_isPair_X2_isBidder : GoodIn wsX2_isPair wsX2_isBidder := goodIn_r _ [4] (by decide +kernel) (by decide +kernel)
set_option maxRecDepth 20000 in
theorem gX2_isPair_X2_isBidder : GoodIn wsX2_isPair (va_wsS RX2 52 yX2_isBidder wsX2_isBidder) := goodIn_app (goodIn_of _ (by decide +kernel)) ggX2_isPair_X2_isBidder
theorem dX2_isPair_0 : decode cX2_isPair 0 = .ok (.iload_n 0, 1) := by decide +kernel
theorem dX2_isPair_1 : decode cX2_isPair 1 = .ok (.invokestatic 52, 3) := by decide +kernel
theorem dX2_isPair_4 : decode cX2_isPair 4 = .ok (.ifCond .eq 19, 3) := by decide +kernel
theorem dX2_isPair_7 : decode cX2_isPair 7 = .ok (.iload_n 1, 1) := by decide +kernel
theorem dX2_isPair_8 : decode cX2_isPair 8 = .ok (.invokestatic 52, 3) := by decide +kernel
theorem dX2_isPair_11 : decode cX2_isPair 11 = .ok (.ifCond .eq 12, 3) := by decide +kernel
theorem dX2_isPair_14 : decode cX2_isPair 14 = .ok (.iload_n 0, 1) := by decide +kernel
theorem dX2_isPair_15 : decode cX2_isPair 15 = .ok (.iload_n 1, 1) := by decide +kernel
theorem dX2_isPair_16 : decode cX2_isPair 16 = .ok (.if_icmp .eq 7, 3) := by decide +kernel
theorem dX2_isPair_19 : decode cX2_isPair 19 = .ok (.iconst 1, 1) := by decide +kernel
theorem dX2_isPair_20 : decode cX2_isPair 20 = .ok (.goto 4, 3) := by decide +kernel
theorem dX2_isPair_23 : decode cX2_isPair 23 = .ok (.iconst 0, 1) := by decide +kernel
theorem dX2_isPair_24 : decode cX2_isPair 24 = .ok (.ireturn, 1) := by decide +kernel
theorem dX2_isMoney_0 : decode cX2_isMoney 0 = .ok (.iload_n 0, 1) := by decide +kernel
theorem dX2_isMoney_1 : decode cX2_isMoney 1 = .ok (.iconst 1, 1) := by decide +kernel
theorem dX2_isMoney_2 : decode cX2_isMoney 2 = .ok (.if_icmp .lt 13, 3) := by decide +kernel
theorem dX2_isMoney_5 : decode cX2_isMoney 5 = .ok (.iload_n 0, 1) := by decide +kernel
theorem dX2_isMoney_6 : decode cX2_isMoney 6 = .ok (.ldc 191, 2) := by decide +kernel
theorem dX2_isMoney_8 : decode cX2_isMoney 8 = .ok (.if_icmp .gt 7, 3) := by decide +kernel
theorem dX2_isMoney_11 : decode cX2_isMoney 11 = .ok (.iconst 1, 1) := by decide +kernel
theorem dX2_isMoney_12 : decode cX2_isMoney 12 = .ok (.goto 4, 3) := by decide +kernel
theorem dX2_isMoney_15 : decode cX2_isMoney 15 = .ok (.iconst 0, 1) := by decide +kernel
theorem dX2_isMoney_16 : decode cX2_isMoney 16 = .ok (.ireturn, 1) := by decide +kernel
theorem dX2_tenderAt_0 : decode cX2_tenderAt 0 = .ok (.iload_n 1, 1) := by decide +kernel
theorem dX2_tenderAt_1 : decode cX2_tenderAt 1 = .ok (.ifCond .lt 21, 3) := by decide +kernel
theorem dX2_tenderAt_4 : decode cX2_tenderAt 4 = .ok (.iload_n 1, 1) := by decide +kernel
theorem dX2_tenderAt_5 : decode cX2_tenderAt 5 = .ok (.aload_n 0, 1) := by decide +kernel
theorem dX2_tenderAt_6 : decode cX2_tenderAt 6 = .ok (.getfield 11, 3) := by decide +kernel
theorem dX2_tenderAt_9 : decode cX2_tenderAt 9 = .ok (.arraylength, 1) := by decide +kernel
theorem dX2_tenderAt_10 : decode cX2_tenderAt 10 = .ok (.if_icmp .ge 12, 3) := by decide +kernel
theorem dX2_tenderAt_13 : decode cX2_tenderAt 13 = .ok (.aload_n 0, 1) := by decide +kernel
theorem dX2_tenderAt_14 : decode cX2_tenderAt 14 = .ok (.getfield 11, 3) := by decide +kernel
theorem dX2_tenderAt_17 : decode cX2_tenderAt 17 = .ok (.iload_n 1, 1) := by decide +kernel
theorem dX2_tenderAt_18 : decode cX2_tenderAt 18 = .ok (.aaload, 1) := by decide +kernel
theorem dX2_tenderAt_19 : decode cX2_tenderAt 19 = .ok (.goto 4, 3) := by decide +kernel
theorem dX2_tenderAt_22 : decode cX2_tenderAt 22 = .ok (.aconst_null, 1) := by decide +kernel
theorem dX2_tenderAt_23 : decode cX2_tenderAt 23 = .ok (.areturn, 1) := by decide +kernel
theorem dX2_dossierAt_0 : decode cX2_dossierAt 0 = .ok (.iload_n 1, 1) := by decide +kernel
theorem dX2_dossierAt_1 : decode cX2_dossierAt 1 = .ok (.ifCond .lt 21, 3) := by decide +kernel
theorem dX2_dossierAt_4 : decode cX2_dossierAt 4 = .ok (.iload_n 1, 1) := by decide +kernel
theorem dX2_dossierAt_5 : decode cX2_dossierAt 5 = .ok (.aload_n 0, 1) := by decide +kernel
theorem dX2_dossierAt_6 : decode cX2_dossierAt 6 = .ok (.getfield 21, 3) := by decide +kernel
theorem dX2_dossierAt_9 : decode cX2_dossierAt 9 = .ok (.arraylength, 1) := by decide +kernel
theorem dX2_dossierAt_10 : decode cX2_dossierAt 10 = .ok (.if_icmp .ge 12, 3) := by decide +kernel
theorem dX2_dossierAt_13 : decode cX2_dossierAt 13 = .ok (.aload_n 0, 1) := by decide +kernel
theorem dX2_dossierAt_14 : decode cX2_dossierAt 14 = .ok (.getfield 21, 3) := by decide +kernel
theorem dX2_dossierAt_17 : decode cX2_dossierAt 17 = .ok (.iload_n 1, 1) := by decide +kernel
theorem dX2_dossierAt_18 : decode cX2_dossierAt 18 = .ok (.aaload, 1) := by decide +kernel
theorem dX2_dossierAt_19 : decode cX2_dossierAt 19 = .ok (.goto 4, 3) := by decide +kernel
theorem dX2_dossierAt_22 : decode cX2_dossierAt 22 = .ok (.aconst_null, 1) := by decide +kernel
theorem dX2_dossierAt_23 : decode cX2_dossierAt 23 = .ok (.areturn, 1) := by decide +kernel
set_option maxRecDepth 20000 in
theorem ggX2_hasDossier_X0_isOf : GoodIn wsX2_hasDossier wsX0_isOf := goodIn_r _ [6, 7, 8, 15, 16, 17, 18, 19, 20, 21, 22] (by decide +kernel) (by decide +kernel)
set_option maxRecDepth 20000 in
theorem gX2_hasDossier_X0_isOf : GoodIn wsX2_hasDossier (wsV RX2 157 RX0 yX0_isOf wsX0_isOf) := goodIn_app (goodIn_of _ (by decide +kernel)) ggX2_hasDossier_X0_isOf
theorem dX2_hasDossier_0 : decode cX2_hasDossier 0 = .ok (.aload_n 0, 1) := by decide +kernel
theorem dX2_hasDossier_1 : decode cX2_hasDossier 1 = .ok (.getfield 21, 3) := by decide +kernel
theorem dX2_hasDossier_4 : decode cX2_hasDossier 4 = .ok (.astore_n 3, 1) := by decide +kernel
theorem dX2_hasDossier_5 : decode cX2_hasDossier 5 = .ok (.aload_n 3, 1) := by decide +kernel
theorem dX2_hasDossier_6 : decode cX2_hasDossier 6 = .ok (.arraylength, 1) := by decide +kernel
theorem dX2_hasDossier_7 : decode cX2_hasDossier 7 = .ok (.istore 4, 2) := by decide +kernel
theorem dX2_hasDossier_9 : decode cX2_hasDossier 9 = .ok (.iconst 0, 1) := by decide +kernel
theorem dX2_hasDossier_10 : decode cX2_hasDossier 10 = .ok (.istore 5, 2) := by decide +kernel
theorem dX2_hasDossier_12 : decode cX2_hasDossier 12 = .ok (.iload 5, 2) := by decide +kernel
theorem dX2_hasDossier_14 : decode cX2_hasDossier 14 = .ok (.iload 4, 2) := by decide +kernel
theorem dX2_hasDossier_16 : decode cX2_hasDossier 16 = .ok (.if_icmp .ge 40, 3) := by decide +kernel
theorem dX2_hasDossier_19 : decode cX2_hasDossier 19 = .ok (.aload_n 3, 1) := by decide +kernel
theorem dX2_hasDossier_20 : decode cX2_hasDossier 20 = .ok (.iload 5, 2) := by decide +kernel
theorem dX2_hasDossier_22 : decode cX2_hasDossier 22 = .ok (.aaload, 1) := by decide +kernel
theorem dX2_hasDossier_23 : decode cX2_hasDossier 23 = .ok (.astore 6, 2) := by decide +kernel
theorem dX2_hasDossier_25 : decode cX2_hasDossier 25 = .ok (.aload 6, 2) := by decide +kernel
theorem dX2_hasDossier_27 : decode cX2_hasDossier 27 = .ok (.ifnull 23, 3) := by decide +kernel
theorem dX2_hasDossier_30 : decode cX2_hasDossier 30 = .ok (.aload 6, 2) := by decide +kernel
theorem dX2_hasDossier_32 : decode cX2_hasDossier 32 = .ok (.iload_n 1, 1) := by decide +kernel
theorem dX2_hasDossier_33 : decode cX2_hasDossier 33 = .ok (.invokevirtual 157, 3) := by decide +kernel
theorem dX2_hasDossier_36 : decode cX2_hasDossier 36 = .ok (.ifCond .eq 14, 3) := by decide +kernel
theorem dX2_hasDossier_39 : decode cX2_hasDossier 39 = .ok (.aload 6, 2) := by decide +kernel
theorem dX2_hasDossier_41 : decode cX2_hasDossier 41 = .ok (.iload_n 2, 1) := by decide +kernel
theorem dX2_hasDossier_42 : decode cX2_hasDossier 42 = .ok (.invokevirtual 157, 3) := by decide +kernel
theorem dX2_hasDossier_45 : decode cX2_hasDossier 45 = .ok (.ifCond .eq 5, 3) := by decide +kernel
theorem dX2_hasDossier_48 : decode cX2_hasDossier 48 = .ok (.iconst 1, 1) := by decide +kernel
theorem dX2_hasDossier_49 : decode cX2_hasDossier 49 = .ok (.ireturn, 1) := by decide +kernel
theorem dX2_hasDossier_50 : decode cX2_hasDossier 50 = .ok (.iinc 5 1, 3) := by decide +kernel
theorem dX2_hasDossier_53 : decode cX2_hasDossier 53 = .ok (.goto (-41), 3) := by decide +kernel
theorem dX2_hasDossier_56 : decode cX2_hasDossier 56 = .ok (.iconst 0, 1) := by decide +kernel
theorem dX2_hasDossier_57 : decode cX2_hasDossier 57 = .ok (.ireturn, 1) := by decide +kernel
set_option maxRecDepth 20000 in
theorem ggX2_turnoverOf_X1_incomeOf : GoodIn wsX2_turnoverOf wsX1_incomeOf := goodIn_r _ [6, 7, 8, 9, 10, 11, 12, 5, 13, 14, 15, 16, 17, 24, 25, 26, 27, 28, 29] (by decide +kernel) (by decide +kernel)
set_option maxRecDepth 20000 in
theorem gX2_turnoverOf_X1_incomeOf : GoodIn wsX2_turnoverOf (wsV RX2 192 RX1 yX1_incomeOf wsX1_incomeOf) := goodIn_app (goodIn_of _ (by decide +kernel)) ggX2_turnoverOf_X1_incomeOf
theorem dX2_turnoverOf_0 : decode cX2_turnoverOf 0 = .ok (.iconst 0, 1) := by decide +kernel
theorem dX2_turnoverOf_1 : decode cX2_turnoverOf 1 = .ok (.istore_n 2, 1) := by decide +kernel
theorem dX2_turnoverOf_2 : decode cX2_turnoverOf 2 = .ok (.aload_n 0, 1) := by decide +kernel
theorem dX2_turnoverOf_3 : decode cX2_turnoverOf 3 = .ok (.getfield 11, 3) := by decide +kernel
theorem dX2_turnoverOf_6 : decode cX2_turnoverOf 6 = .ok (.astore_n 3, 1) := by decide +kernel
theorem dX2_turnoverOf_7 : decode cX2_turnoverOf 7 = .ok (.aload_n 3, 1) := by decide +kernel
theorem dX2_turnoverOf_8 : decode cX2_turnoverOf 8 = .ok (.arraylength, 1) := by decide +kernel
theorem dX2_turnoverOf_9 : decode cX2_turnoverOf 9 = .ok (.istore 4, 2) := by decide +kernel
theorem dX2_turnoverOf_11 : decode cX2_turnoverOf 11 = .ok (.iconst 0, 1) := by decide +kernel
theorem dX2_turnoverOf_12 : decode cX2_turnoverOf 12 = .ok (.istore 5, 2) := by decide +kernel
theorem dX2_turnoverOf_14 : decode cX2_turnoverOf 14 = .ok (.iload 5, 2) := by decide +kernel
theorem dX2_turnoverOf_16 : decode cX2_turnoverOf 16 = .ok (.iload 4, 2) := by decide +kernel
theorem dX2_turnoverOf_18 : decode cX2_turnoverOf 18 = .ok (.if_icmp .ge 29, 3) := by decide +kernel
theorem dX2_turnoverOf_21 : decode cX2_turnoverOf 21 = .ok (.aload_n 3, 1) := by decide +kernel
theorem dX2_turnoverOf_22 : decode cX2_turnoverOf 22 = .ok (.iload 5, 2) := by decide +kernel
theorem dX2_turnoverOf_24 : decode cX2_turnoverOf 24 = .ok (.aaload, 1) := by decide +kernel
theorem dX2_turnoverOf_25 : decode cX2_turnoverOf 25 = .ok (.astore 6, 2) := by decide +kernel
theorem dX2_turnoverOf_27 : decode cX2_turnoverOf 27 = .ok (.aload 6, 2) := by decide +kernel
theorem dX2_turnoverOf_29 : decode cX2_turnoverOf 29 = .ok (.ifnull 12, 3) := by decide +kernel
theorem dX2_turnoverOf_32 : decode cX2_turnoverOf 32 = .ok (.iload_n 2, 1) := by decide +kernel
theorem dX2_turnoverOf_33 : decode cX2_turnoverOf 33 = .ok (.aload 6, 2) := by decide +kernel
theorem dX2_turnoverOf_35 : decode cX2_turnoverOf 35 = .ok (.iload_n 1, 1) := by decide +kernel
theorem dX2_turnoverOf_36 : decode cX2_turnoverOf 36 = .ok (.invokevirtual 192, 3) := by decide +kernel
theorem dX2_turnoverOf_39 : decode cX2_turnoverOf 39 = .ok (.iadd, 1) := by decide +kernel
theorem dX2_turnoverOf_40 : decode cX2_turnoverOf 40 = .ok (.istore_n 2, 1) := by decide +kernel
theorem dX2_turnoverOf_41 : decode cX2_turnoverOf 41 = .ok (.iinc 5 1, 3) := by decide +kernel
theorem dX2_turnoverOf_44 : decode cX2_turnoverOf 44 = .ok (.goto (-30), 3) := by decide +kernel
theorem dX2_turnoverOf_47 : decode cX2_turnoverOf 47 = .ok (.iload_n 2, 1) := by decide +kernel
theorem dX2_turnoverOf_48 : decode cX2_turnoverOf 48 = .ok (.ireturn, 1) := by decide +kernel
set_option maxRecDepth 20000 in
theorem ggX2_suspicionOf_X2_countOf : GoodIn wsX2_suspicionOf wsX2_countOf := goodIn_r _ [6, 7, 8, 9, 5, 10, 1, 11, 12, 13, 14, 15, 16, 17, 18, 19, 20, 21, 22, 23, 24, 25, 26, 27, 28, 29, 30, 31, 32, 33, 34, 35, 36, 37, 38, 39, 40, 41, 42, 43, 44, 45, 46, 47, 48, 49, 50, 51, 52, 53, 54, 55, 56, 57, 58, 59, 60, 61, 62, 63, 64, 65, 66] (by decide +kernel) (by decide +kernel)
set_option maxRecDepth 20000 in
theorem gX2_suspicionOf_X2_countOf : GoodIn wsX2_suspicionOf (wsV RX2 130 RX2 yX2_countOf wsX2_countOf) := goodIn_app (goodIn_of _ (by decide +kernel)) ggX2_suspicionOf_X2_countOf
theorem dX2_suspicionOf_0 : decode cX2_suspicionOf 0 = .ok (.iconst 0, 1) := by decide +kernel
theorem dX2_suspicionOf_1 : decode cX2_suspicionOf 1 = .ok (.istore_n 3, 1) := by decide +kernel
theorem dX2_suspicionOf_2 : decode cX2_suspicionOf 2 = .ok (.iconst 0, 1) := by decide +kernel
theorem dX2_suspicionOf_3 : decode cX2_suspicionOf 3 = .ok (.istore 4, 2) := by decide +kernel
theorem dX2_suspicionOf_5 : decode cX2_suspicionOf 5 = .ok (.iload 4, 2) := by decide +kernel
theorem dX2_suspicionOf_7 : decode cX2_suspicionOf 7 = .ok (.aload_n 0, 1) := by decide +kernel
theorem dX2_suspicionOf_8 : decode cX2_suspicionOf 8 = .ok (.getfield 11, 3) := by decide +kernel
theorem dX2_suspicionOf_11 : decode cX2_suspicionOf 11 = .ok (.arraylength, 1) := by decide +kernel
theorem dX2_suspicionOf_12 : decode cX2_suspicionOf 12 = .ok (.if_icmp .ge 20, 3) := by decide +kernel
theorem dX2_suspicionOf_15 : decode cX2_suspicionOf 15 = .ok (.iload_n 3, 1) := by decide +kernel
theorem dX2_suspicionOf_16 : decode cX2_suspicionOf 16 = .ok (.aload_n 0, 1) := by decide +kernel
theorem dX2_suspicionOf_17 : decode cX2_suspicionOf 17 = .ok (.iload 4, 2) := by decide +kernel
theorem dX2_suspicionOf_19 : decode cX2_suspicionOf 19 = .ok (.iload_n 1, 1) := by decide +kernel
theorem dX2_suspicionOf_20 : decode cX2_suspicionOf 20 = .ok (.iload_n 2, 1) := by decide +kernel
theorem dX2_suspicionOf_21 : decode cX2_suspicionOf 21 = .ok (.invokevirtual 130, 3) := by decide +kernel
theorem dX2_suspicionOf_24 : decode cX2_suspicionOf 24 = .ok (.iadd, 1) := by decide +kernel
theorem dX2_suspicionOf_25 : decode cX2_suspicionOf 25 = .ok (.istore_n 3, 1) := by decide +kernel
theorem dX2_suspicionOf_26 : decode cX2_suspicionOf 26 = .ok (.iinc 4 1, 3) := by decide +kernel
theorem dX2_suspicionOf_29 : decode cX2_suspicionOf 29 = .ok (.goto (-24), 3) := by decide +kernel
theorem dX2_suspicionOf_32 : decode cX2_suspicionOf 32 = .ok (.iload_n 3, 1) := by decide +kernel
theorem dX2_suspicionOf_33 : decode cX2_suspicionOf 33 = .ok (.ireturn, 1) := by decide +kernel
set_option maxRecDepth 20000 in
theorem ggX2_countOf_X2_tenderAt : GoodIn wsX2_countOf wsX2_tenderAt := goodIn_r _ [5, 6, 51, 52, 53, 54, 55, 56] (by decide +kernel) (by decide +kernel)
set_option maxRecDepth 20000 in
theorem gX2_countOf_X2_tenderAt : GoodIn wsX2_countOf (wsV RX2 43 RX2 yX2_tenderAt wsX2_tenderAt) := goodIn_app (goodIn_of _ (by decide +kernel)) ggX2_countOf_X2_tenderAt
set_option maxRecDepth 20000 in
theorem ggX2_countOf_X1_winner : GoodIn wsX2_countOf wsX1_winner := goodIn_r _ [11, 12, 57, 58, 59, 60, 61, 62] (by decide +kernel) (by decide +kernel)
set_option maxRecDepth 20000 in
theorem gX2_countOf_X1_winner : GoodIn wsX2_countOf (wsV RX2 101 RX1 yX1_winner wsX1_winner) := goodIn_app (goodIn_of _ (by decide +kernel)) ggX2_countOf_X1_winner
set_option maxRecDepth 20000 in
theorem ggX2_countOf_X1_signsOfLoser : GoodIn wsX2_countOf wsX1_signsOfLoser := goodIn_r _ [16, 17, 18, 19, 20, 10, 21, 22, 23, 24, 4, 25, 26, 27, 28, 29, 30, 31, 32, 33, 12, 34, 35, 36, 37, 38, 39, 40, 41, 57, 58, 59, 60, 61, 62] (by decide +kernel) (by decide +kernel)
set_option maxRecDepth 20000 in
theorem gX2_countOf_X1_signsOfLoser : GoodIn wsX2_countOf (wsV RX2 195 RX1 yX1_signsOfLoser wsX1_signsOfLoser) := goodIn_app (goodIn_of _ (by decide +kernel)) ggX2_countOf_X1_signsOfLoser
set_option maxRecDepth 20000 in
theorem ggX2_countOf_X1_isStanding : GoodIn wsX2_countOf wsX1_isStanding := goodIn_r _ [21, 22, 23, 24, 4, 25, 57, 58, 59, 60, 61, 62] (by decide +kernel) (by decide +kernel)
set_option maxRecDepth 20000 in
theorem gX2_countOf_X1_isStanding : GoodIn wsX2_countOf (wsV RX2 83 RX1 yX1_isStanding wsX1_isStanding) := goodIn_app (goodIn_of _ (by decide +kernel)) ggX2_countOf_X1_isStanding
set_option maxRecDepth 20000 in
theorem ggX2_countOf_X2_lastWinnerBefore : GoodIn wsX2_countOf wsX2_lastWinnerBefore := goodIn_r _ [46, 1, 2, 3, 4, 5, 6, 47, 48, 49, 10, 50, 12, 42, 19, 20, 21, 22, 23, 24, 25, 7, 8, 9, 11, 51, 52, 53, 54, 55, 56, 57, 58, 59, 60, 61, 62] (by decide +kernel) (by decide +kernel)
set_option maxRecDepth 20000 in
theorem gX2_countOf_X2_lastWinnerBefore : GoodIn wsX2_countOf (wsV RX2 198 RX2 yX2_lastWinnerBefore wsX2_lastWinnerBefore) := goodIn_app (goodIn_of _ (by decide +kernel)) ggX2_countOf_X2_lastWinnerBefore
theorem dX2_countOf_0 : decode cX2_countOf 0 = .ok (.aload_n 0, 1) := by decide +kernel
theorem dX2_countOf_1 : decode cX2_countOf 1 = .ok (.iload_n 1, 1) := by decide +kernel
theorem dX2_countOf_2 : decode cX2_countOf 2 = .ok (.invokevirtual 43, 3) := by decide +kernel
theorem dX2_countOf_5 : decode cX2_countOf 5 = .ok (.astore 4, 2) := by decide +kernel
theorem dX2_countOf_7 : decode cX2_countOf 7 = .ok (.aload 4, 2) := by decide +kernel
theorem dX2_countOf_9 : decode cX2_countOf 9 = .ok (.ifnonnull 5, 3) := by decide +kernel
end
section
theorem dX2_countOf_12 : decode cX2_countOf 12 = .ok (.iconst 0, 1) := by decide +kernel
theorem dX2_countOf_13 : decode cX2_countOf 13 = .ok (.ireturn, 1) := by decide +kernel
theorem dX2_countOf_14 : decode cX2_countOf 14 = .ok (.aload 4, 2) := by decide +kernel
theorem dX2_countOf_16 : decode cX2_countOf 16 = .ok (.invokevirtual 101, 3) := by decide +kernel
theorem dX2_countOf_19 : decode cX2_countOf 19 = .ok (.istore 5, 2) := by decide +kernel
theorem dX2_countOf_21 : decode cX2_countOf 21 = .ok (.iload 5, 2) := by decide +kernel
theorem dX2_countOf_23 : decode cX2_countOf 23 = .ok (.iload_n 2, 1) := by decide +kernel
theorem dX2_countOf_24 : decode cX2_countOf 24 = .ok (.if_icmp .eq 11, 3) := by decide +kernel
theorem dX2_countOf_27 : decode cX2_countOf 27 = .ok (.iload 5, 2) := by decide +kernel
theorem dX2_countOf_29 : decode cX2_countOf 29 = .ok (.iload_n 3, 1) := by decide +kernel
theorem dX2_countOf_30 : decode cX2_countOf 30 = .ok (.if_icmp .eq 5, 3) := by decide +kernel
theorem dX2_countOf_33 : decode cX2_countOf 33 = .ok (.iconst 0, 1) := by decide +kernel
theorem dX2_countOf_34 : decode cX2_countOf 34 = .ok (.ireturn, 1) := by decide +kernel
theorem dX2_countOf_35 : decode cX2_countOf 35 = .ok (.iload 5, 2) := by decide +kernel
theorem dX2_countOf_37 : decode cX2_countOf 37 = .ok (.iload_n 2, 1) := by decide +kernel
theorem dX2_countOf_38 : decode cX2_countOf 38 = .ok (.if_icmp .ne 7, 3) := by decide +kernel
theorem dX2_countOf_41 : decode cX2_countOf 41 = .ok (.iload_n 3, 1) := by decide +kernel
theorem dX2_countOf_42 : decode cX2_countOf 42 = .ok (.goto 4, 3) := by decide +kernel
theorem dX2_countOf_45 : decode cX2_countOf 45 = .ok (.iload_n 2, 1) := by decide +kernel
theorem dX2_countOf_46 : decode cX2_countOf 46 = .ok (.istore 6, 2) := by decide +kernel
theorem dX2_countOf_48 : decode cX2_countOf 48 = .ok (.aload 4, 2) := by decide +kernel
theorem dX2_countOf_50 : decode cX2_countOf 50 = .ok (.iload 6, 2) := by decide +kernel
theorem dX2_countOf_52 : decode cX2_countOf 52 = .ok (.invokevirtual 195, 3) := by decide +kernel
theorem dX2_countOf_55 : decode cX2_countOf 55 = .ok (.istore 7, 2) := by decide +kernel
theorem dX2_countOf_57 : decode cX2_countOf 57 = .ok (.aload 4, 2) := by decide +kernel
theorem dX2_countOf_59 : decode cX2_countOf 59 = .ok (.iload 6, 2) := by decide +kernel
theorem dX2_countOf_61 : decode cX2_countOf 61 = .ok (.invokevirtual 83, 3) := by decide +kernel
theorem dX2_countOf_64 : decode cX2_countOf 64 = .ok (.ifCond .eq 20, 3) := by decide +kernel
theorem dX2_countOf_67 : decode cX2_countOf 67 = .ok (.aload_n 0, 1) := by decide +kernel
theorem dX2_countOf_68 : decode cX2_countOf 68 = .ok (.iload_n 1, 1) := by decide +kernel
theorem dX2_countOf_69 : decode cX2_countOf 69 = .ok (.iload 5, 2) := by decide +kernel
theorem dX2_countOf_71 : decode cX2_countOf 71 = .ok (.iload 6, 2) := by decide +kernel
theorem dX2_countOf_73 : decode cX2_countOf 73 = .ok (.invokevirtual 198, 3) := by decide +kernel
theorem dX2_countOf_76 : decode cX2_countOf 76 = .ok (.iload 6, 2) := by decide +kernel
theorem dX2_countOf_78 : decode cX2_countOf 78 = .ok (.if_icmp .ne 6, 3) := by decide +kernel
theorem dX2_countOf_81 : decode cX2_countOf 81 = .ok (.iinc 7 4, 3) := by decide +kernel
theorem dX2_countOf_84 : decode cX2_countOf 84 = .ok (.iload 7, 2) := by decide +kernel
theorem dX2_countOf_86 : decode cX2_countOf 86 = .ok (.ireturn, 1) := by decide +kernel
set_option maxRecDepth 20000 in
theorem ggX2_lastWinnerBefore_X2_tenderAt : GoodIn wsX2_lastWinnerBefore wsX2_tenderAt := goodIn_r _ [5, 6, 25, 26, 27, 28, 29, 30] (by decide +kernel) (by decide +kernel)
set_option maxRecDepth 20000 in
theorem gX2_lastWinnerBefore_X2_tenderAt : GoodIn wsX2_lastWinnerBefore (wsV RX2 43 RX2 yX2_tenderAt wsX2_tenderAt) := goodIn_app (goodIn_of _ (by decide +kernel)) ggX2_lastWinnerBefore_X2_tenderAt
set_option maxRecDepth 20000 in
theorem ggX2_lastWinnerBefore_X1_isAwarded : GoodIn wsX2_lastWinnerBefore wsX1_isAwarded := goodIn_r _ [11, 12, 31, 32, 33, 34, 35, 36] (by decide +kernel) (by decide +kernel)
set_option maxRecDepth 20000 in
theorem gX2_lastWinnerBefore_X1_isAwarded : GoodIn wsX2_lastWinnerBefore (wsV RX2 104 RX1 yX1_isAwarded wsX1_isAwarded) := goodIn_app (goodIn_of _ (by decide +kernel)) ggX2_lastWinnerBefore_X1_isAwarded
set_option maxRecDepth 20000 in
theorem ggX2_lastWinnerBefore_X1_isStanding : GoodIn wsX2_lastWinnerBefore wsX1_isStanding := goodIn_r _ [16, 17, 18, 19, 4, 20, 31, 32, 33, 34, 35, 36] (by decide +kernel) (by decide +kernel)
set_option maxRecDepth 20000 in
theorem gX2_lastWinnerBefore_X1_isStanding : GoodIn wsX2_lastWinnerBefore (wsV RX2 83 RX1 yX1_isStanding wsX1_isStanding) := goodIn_app (goodIn_of _ (by decide +kernel)) ggX2_lastWinnerBefore_X1_isStanding
set_option maxRecDepth 20000 in
theorem ggX2_lastWinnerBefore_X1_winner : GoodIn wsX2_lastWinnerBefore wsX1_winner := goodIn_r _ [24, 12, 31, 32, 33, 34, 35, 36] (by decide +kernel) (by decide +kernel)
set_option maxRecDepth 20000 in
theorem gX2_lastWinnerBefore_X1_winner : GoodIn wsX2_lastWinnerBefore (wsV RX2 101 RX1 yX1_winner wsX1_winner) := goodIn_app (goodIn_of _ (by decide +kernel)) ggX2_lastWinnerBefore_X1_winner
theorem dX2_lastWinnerBefore_0 : decode cX2_lastWinnerBefore 0 = .ok (.iload_n 1, 1) := by decide +kernel
theorem dX2_lastWinnerBefore_1 : decode cX2_lastWinnerBefore 1 = .ok (.iconst 1, 1) := by decide +kernel
theorem dX2_lastWinnerBefore_2 : decode cX2_lastWinnerBefore 2 = .ok (.isub, 1) := by decide +kernel
theorem dX2_lastWinnerBefore_3 : decode cX2_lastWinnerBefore 3 = .ok (.istore 4, 2) := by decide +kernel
theorem dX2_lastWinnerBefore_5 : decode cX2_lastWinnerBefore 5 = .ok (.iload 4, 2) := by decide +kernel
theorem dX2_lastWinnerBefore_7 : decode cX2_lastWinnerBefore 7 = .ok (.ifCond .lt 54, 3) := by decide +kernel
theorem dX2_lastWinnerBefore_10 : decode cX2_lastWinnerBefore 10 = .ok (.aload_n 0, 1) := by decide +kernel
theorem dX2_lastWinnerBefore_11 : decode cX2_lastWinnerBefore 11 = .ok (.iload 4, 2) := by decide +kernel
theorem dX2_lastWinnerBefore_13 : decode cX2_lastWinnerBefore 13 = .ok (.invokevirtual 43, 3) := by decide +kernel
theorem dX2_lastWinnerBefore_16 : decode cX2_lastWinnerBefore 16 = .ok (.astore 5, 2) := by decide +kernel
theorem dX2_lastWinnerBefore_18 : decode cX2_lastWinnerBefore 18 = .ok (.aload 5, 2) := by decide +kernel
theorem dX2_lastWinnerBefore_20 : decode cX2_lastWinnerBefore 20 = .ok (.ifnull 35, 3) := by decide +kernel
theorem dX2_lastWinnerBefore_23 : decode cX2_lastWinnerBefore 23 = .ok (.aload 5, 2) := by decide +kernel
theorem dX2_lastWinnerBefore_25 : decode cX2_lastWinnerBefore 25 = .ok (.invokevirtual 104, 3) := by decide +kernel
theorem dX2_lastWinnerBefore_28 : decode cX2_lastWinnerBefore 28 = .ok (.ifCond .eq 27, 3) := by decide +kernel
theorem dX2_lastWinnerBefore_31 : decode cX2_lastWinnerBefore 31 = .ok (.aload 5, 2) := by decide +kernel
theorem dX2_lastWinnerBefore_33 : decode cX2_lastWinnerBefore 33 = .ok (.iload_n 2, 1) := by decide +kernel
theorem dX2_lastWinnerBefore_34 : decode cX2_lastWinnerBefore 34 = .ok (.invokevirtual 83, 3) := by decide +kernel
theorem dX2_lastWinnerBefore_37 : decode cX2_lastWinnerBefore 37 = .ok (.ifCond .eq 18, 3) := by decide +kernel
theorem dX2_lastWinnerBefore_40 : decode cX2_lastWinnerBefore 40 = .ok (.aload 5, 2) := by decide +kernel
theorem dX2_lastWinnerBefore_42 : decode cX2_lastWinnerBefore 42 = .ok (.iload_n 3, 1) := by decide +kernel
theorem dX2_lastWinnerBefore_43 : decode cX2_lastWinnerBefore 43 = .ok (.invokevirtual 83, 3) := by decide +kernel
theorem dX2_lastWinnerBefore_46 : decode cX2_lastWinnerBefore 46 = .ok (.ifCond .eq 9, 3) := by decide +kernel
theorem dX2_lastWinnerBefore_49 : decode cX2_lastWinnerBefore 49 = .ok (.aload 5, 2) := by decide +kernel
theorem dX2_lastWinnerBefore_51 : decode cX2_lastWinnerBefore 51 = .ok (.invokevirtual 101, 3) := by decide +kernel
theorem dX2_lastWinnerBefore_54 : decode cX2_lastWinnerBefore 54 = .ok (.ireturn, 1) := by decide +kernel
theorem dX2_lastWinnerBefore_55 : decode cX2_lastWinnerBefore 55 = .ok (.iinc 4 (-1), 3) := by decide +kernel
theorem dX2_lastWinnerBefore_58 : decode cX2_lastWinnerBefore 58 = .ok (.goto (-53), 3) := by decide +kernel
theorem dX2_lastWinnerBefore_61 : decode cX2_lastWinnerBefore 61 = .ok (.iconst (-1), 1) := by decide +kernel
theorem dX2_lastWinnerBefore_62 : decode cX2_lastWinnerBefore 62 = .ok (.ireturn, 1) := by decide +kernel
set_option maxRecDepth 20000 in
theorem ggX2_settle_X2_isBidder : GoodIn wsX2_settle wsX2_isBidder := goodIn_r _ [9] (by decide +kernel) (by decide +kernel)
set_option maxRecDepth 20000 in
theorem gX2_settle_X2_isBidder : GoodIn wsX2_settle (va_wsS RX2 52 yX2_isBidder wsX2_isBidder) := goodIn_app (goodIn_of _ (by decide +kernel)) ggX2_settle_X2_isBidder
set_option maxRecDepth 20000 in
theorem ggX2_settle_X2_turnoverOf : GoodIn wsX2_settle wsX2_turnoverOf := goodIn_r _ [13, 14, 15, 16, 17, 18, 19, 20, 21, 22, 23, 24, 25, 26, 27, 7, 8, 9, 41, 42, 43, 44, 45, 46, 47, 48, 49, 50, 51, 52] (by decide +kernel) (by decide +kernel)
set_option maxRecDepth 20000 in
theorem gX2_settle_X2_turnoverOf : GoodIn wsX2_settle (wsV RX2 117 RX2 yX2_turnoverOf wsX2_turnoverOf) := goodIn_app (goodIn_of _ (by decide +kernel)) ggX2_settle_X2_turnoverOf
set_option maxRecDepth 20000 in
theorem ggX2_settle_X0_lenientFine : GoodIn wsX2_settle wsX0_lenientFine := goodIn_r _ [32, 33, 34, 35, 7, 8, 9, 53, 54, 55, 56, 57, 58, 59, 60] (by decide +kernel) (by decide +kernel)
set_option maxRecDepth 20000 in
theorem gX2_settle_X0_lenientFine : GoodIn wsX2_settle (wsV RX2 201 RX0 yX0_lenientFine wsX0_lenientFine) := goodIn_app (goodIn_of _ (by decide +kernel)) ggX2_settle_X0_lenientFine
set_option maxRecDepth 20000 in
theorem ggX2_settle_X0_impose : GoodIn wsX2_settle wsX0_impose := goodIn_r _ [39, 40, 7, 8, 9, 53, 54, 55, 56, 57, 58, 59, 60] (by decide +kernel) (by decide +kernel)
set_option maxRecDepth 20000 in
theorem gX2_settle_X0_impose : GoodIn wsX2_settle (wsV RX2 209 RX0 yX0_impose wsX0_impose) := goodIn_app (goodIn_of _ (by decide +kernel)) ggX2_settle_X0_impose
theorem dX2_settle_0 : decode cX2_settle 0 = .ok (.iload_n 2, 1) := by decide +kernel
theorem dX2_settle_1 : decode cX2_settle 1 = .ok (.invokestatic 52, 3) := by decide +kernel
theorem dX2_settle_4 : decode cX2_settle 4 = .ok (.ifCond .ne 5, 3) := by decide +kernel
theorem dX2_settle_7 : decode cX2_settle 7 = .ok (.iconst 0, 1) := by decide +kernel
theorem dX2_settle_8 : decode cX2_settle 8 = .ok (.ireturn, 1) := by decide +kernel
theorem dX2_settle_9 : decode cX2_settle 9 = .ok (.aload_n 1, 1) := by decide +kernel
theorem dX2_settle_10 : decode cX2_settle 10 = .ok (.iload_n 2, 1) := by decide +kernel
theorem dX2_settle_11 : decode cX2_settle 11 = .ok (.aload_n 0, 1) := by decide +kernel
theorem dX2_settle_12 : decode cX2_settle 12 = .ok (.iload_n 2, 1) := by decide +kernel
theorem dX2_settle_13 : decode cX2_settle 13 = .ok (.invokevirtual 117, 3) := by decide +kernel
theorem dX2_settle_16 : decode cX2_settle 16 = .ok (.bipush 10, 2) := by decide +kernel
theorem dX2_settle_18 : decode cX2_settle 18 = .ok (.idiv, 1) := by decide +kernel
theorem dX2_settle_19 : decode cX2_settle 19 = .ok (.invokevirtual 201, 3) := by decide +kernel
theorem dX2_settle_22 : decode cX2_settle 22 = .ok (.istore_n 3, 1) := by decide +kernel
theorem dX2_settle_23 : decode cX2_settle 23 = .ok (.iload_n 3, 1) := by decide +kernel
theorem dX2_settle_24 : decode cX2_settle 24 = .ok (.aload_n 0, 1) := by decide +kernel
theorem dX2_settle_25 : decode cX2_settle 25 = .ok (.getfield 28, 3) := by decide +kernel
theorem dX2_settle_28 : decode cX2_settle 28 = .ok (.iload_n 2, 1) := by decide +kernel
theorem dX2_settle_29 : decode cX2_settle 29 = .ok (.iaload, 1) := by decide +kernel
theorem dX2_settle_30 : decode cX2_settle 30 = .ok (.invokestatic 204, 3) := by decide +kernel
theorem dX2_settle_33 : decode cX2_settle 33 = .ok (.istore 4, 2) := by decide +kernel
theorem dX2_settle_35 : decode cX2_settle 35 = .ok (.aload_n 0, 1) := by decide +kernel
theorem dX2_settle_36 : decode cX2_settle 36 = .ok (.getfield 28, 3) := by decide +kernel
theorem dX2_settle_39 : decode cX2_settle 39 = .ok (.iload_n 2, 1) := by decide +kernel
theorem dX2_settle_40 : decode cX2_settle 40 = .ok (.dup2, 1) := by decide +kernel
theorem dX2_settle_41 : decode cX2_settle 41 = .ok (.iaload, 1) := by decide +kernel
theorem dX2_settle_42 : decode cX2_settle 42 = .ok (.iload 4, 2) := by decide +kernel
theorem dX2_settle_44 : decode cX2_settle 44 = .ok (.isub, 1) := by decide +kernel
theorem dX2_settle_45 : decode cX2_settle 45 = .ok (.iastore, 1) := by decide +kernel
theorem dX2_settle_46 : decode cX2_settle 46 = .ok (.aload_n 1, 1) := by decide +kernel
theorem dX2_settle_47 : decode cX2_settle 47 = .ok (.iload_n 2, 1) := by decide +kernel
theorem dX2_settle_48 : decode cX2_settle 48 = .ok (.iload_n 3, 1) := by decide +kernel
theorem dX2_settle_49 : decode cX2_settle 49 = .ok (.iload 4, 2) := by decide +kernel
theorem dX2_settle_51 : decode cX2_settle 51 = .ok (.isub, 1) := by decide +kernel
theorem dX2_settle_52 : decode cX2_settle 52 = .ok (.invokevirtual 209, 3) := by decide +kernel
theorem dX2_settle_55 : decode cX2_settle 55 = .ok (.iload_n 3, 1) := by decide +kernel
theorem dX2_settle_56 : decode cX2_settle 56 = .ok (.iload 4, 2) := by decide +kernel
theorem dX2_settle_58 : decode cX2_settle 58 = .ok (.isub, 1) := by decide +kernel
theorem dX2_settle_59 : decode cX2_settle 59 = .ok (.ireturn, 1) := by decide +kernel
theorem dX3_init_0 : decode cX3_init 0 = .ok (.aload_n 0, 1) := by decide +kernel
theorem dX3_init_1 : decode cX3_init 1 = .ok (.invokespecial 1, 3) := by decide +kernel
theorem dX3_init_4 : decode cX3_init 4 = .ok (.aload_n 0, 1) := by decide +kernel
theorem dX3_init_5 : decode cX3_init 5 = .ok (.bipush 30, 2) := by decide +kernel
theorem dX3_init_7 : decode cX3_init 7 = .ok (.newarray .int, 2) := by decide +kernel
theorem dX3_init_9 : decode cX3_init 9 = .ok (.putfield 7, 3) := by decide +kernel
theorem dX3_init_12 : decode cX3_init 12 = .ok (.aload_n 0, 1) := by decide +kernel
theorem dX3_init_13 : decode cX3_init 13 = .ok (.bipush 30, 2) := by decide +kernel
theorem dX3_init_15 : decode cX3_init 15 = .ok (.newarray .int, 2) := by decide +kernel
theorem dX3_init_17 : decode cX3_init 17 = .ok (.putfield 13, 3) := by decide +kernel
theorem dX3_init_20 : decode cX3_init 20 = .ok (.aload_n 0, 1) := by decide +kernel
theorem dX3_init_21 : decode cX3_init 21 = .ok (.bipush 30, 2) := by decide +kernel
theorem dX3_init_23 : decode cX3_init 23 = .ok (.newarray .int, 2) := by decide +kernel
theorem dX3_init_25 : decode cX3_init 25 = .ok (.putfield 16, 3) := by decide +kernel
theorem dX3_init_28 : decode cX3_init 28 = .ok (.aload_n 0, 1) := by decide +kernel
theorem dX3_init_29 : decode cX3_init 29 = .ok (.bipush 30, 2) := by decide +kernel
theorem dX3_init_31 : decode cX3_init 31 = .ok (.newarray .int, 2) := by decide +kernel
theorem dX3_init_33 : decode cX3_init 33 = .ok (.putfield 19, 3) := by decide +kernel
theorem dX3_init_36 : decode cX3_init 36 = .ok (.aload_n 0, 1) := by decide +kernel
theorem dX3_init_37 : decode cX3_init 37 = .ok (.sipush 210, 3) := by decide +kernel
theorem dX3_init_40 : decode cX3_init 40 = .ok (.newarray .int, 2) := by decide +kernel
theorem dX3_init_42 : decode cX3_init 42 = .ok (.putfield 22, 3) := by decide +kernel
theorem dX3_init_45 : decode cX3_init 45 = .ok (.aload_n 0, 1) := by decide +kernel
theorem dX3_init_46 : decode cX3_init 46 = .ok (.sipush 210, 3) := by decide +kernel
theorem dX3_init_49 : decode cX3_init 49 = .ok (.newarray .boolean, 2) := by decide +kernel
theorem dX3_init_51 : decode cX3_init 51 = .ok (.putfield 25, 3) := by decide +kernel
theorem dX3_init_54 : decode cX3_init 54 = .ok (.aload_n 0, 1) := by decide +kernel
theorem dX3_init_55 : decode cX3_init 55 = .ok (.bipush 10, 2) := by decide +kernel
theorem dX3_init_57 : decode cX3_init 57 = .ok (.putfield 29, 3) := by decide +kernel
theorem dX3_init_60 : decode cX3_init 60 = .ok (.aload_n 0, 1) := by decide +kernel
theorem dX3_init_61 : decode cX3_init 61 = .ok (.bipush 20, 2) := by decide +kernel
theorem dX3_init_63 : decode cX3_init 63 = .ok (.newarray .int, 2) := by decide +kernel
theorem dX3_init_65 : decode cX3_init 65 = .ok (.putfield 33, 3) := by decide +kernel
theorem dX3_init_68 : decode cX3_init 68 = .ok (.aload_n 0, 1) := by decide +kernel
theorem dX3_init_69 : decode cX3_init 69 = .ok (.bipush 20, 2) := by decide +kernel
theorem dX3_init_71 : decode cX3_init 71 = .ok (.newarray .int, 2) := by decide +kernel
theorem dX3_init_73 : decode cX3_init 73 = .ok (.putfield 36, 3) := by decide +kernel
theorem dX3_init_76 : decode cX3_init 76 = .ok (.aload_n 0, 1) := by decide +kernel
theorem dX3_init_77 : decode cX3_init 77 = .ok (.bipush 20, 2) := by decide +kernel
theorem dX3_init_79 : decode cX3_init 79 = .ok (.newarray .int, 2) := by decide +kernel
theorem dX3_init_81 : decode cX3_init 81 = .ok (.putfield 39, 3) := by decide +kernel
theorem dX3_init_84 : decode cX3_init 84 = .ok (.aload_n 0, 1) := by decide +kernel
theorem dX3_init_85 : decode cX3_init 85 = .ok (.bipush 20, 2) := by decide +kernel
theorem dX3_init_87 : decode cX3_init 87 = .ok (.newarray .int, 2) := by decide +kernel
theorem dX3_init_89 : decode cX3_init 89 = .ok (.putfield 42, 3) := by decide +kernel
theorem dX3_init_92 : decode cX3_init 92 = .ok (.aload_n 0, 1) := by decide +kernel
theorem dX3_init_93 : decode cX3_init 93 = .ok (.bipush 20, 2) := by decide +kernel
theorem dX3_init_95 : decode cX3_init 95 = .ok (.newarray .int, 2) := by decide +kernel
theorem dX3_init_97 : decode cX3_init 97 = .ok (.putfield 45, 3) := by decide +kernel
theorem dX3_init_100 : decode cX3_init 100 = .ok (.aload_n 0, 1) := by decide +kernel
theorem dX3_init_101 : decode cX3_init 101 = .ok (.bipush 40, 2) := by decide +kernel
theorem dX3_init_103 : decode cX3_init 103 = .ok (.newarray .int, 2) := by decide +kernel
theorem dX3_init_105 : decode cX3_init 105 = .ok (.putfield 48, 3) := by decide +kernel
theorem dX3_init_108 : decode cX3_init 108 = .ok (.aload_n 0, 1) := by decide +kernel
theorem dX3_init_109 : decode cX3_init 109 = .ok (.bipush 40, 2) := by decide +kernel
theorem dX3_init_111 : decode cX3_init 111 = .ok (.newarray .int, 2) := by decide +kernel
theorem dX3_init_113 : decode cX3_init 113 = .ok (.putfield 51, 3) := by decide +kernel
theorem dX3_init_116 : decode cX3_init 116 = .ok (.aload_n 0, 1) := by decide +kernel
theorem dX3_init_117 : decode cX3_init 117 = .ok (.bipush 20, 2) := by decide +kernel
theorem dX3_init_119 : decode cX3_init 119 = .ok (.newarray .boolean, 2) := by decide +kernel
theorem dX3_init_121 : decode cX3_init 121 = .ok (.putfield 54, 3) := by decide +kernel
theorem dX3_init_124 : decode cX3_init 124 = .ok (.aload_n 0, 1) := by decide +kernel
theorem dX3_init_125 : decode cX3_init 125 = .ok (.bipush 7, 2) := by decide +kernel
theorem dX3_init_127 : decode cX3_init 127 = .ok (.newarray .int, 2) := by decide +kernel
theorem dX3_init_129 : decode cX3_init 129 = .ok (.putfield 57, 3) := by decide +kernel
theorem dX3_init_132 : decode cX3_init 132 = .ok (.return_, 1) := by decide +kernel
theorem dX3_thrown_0 : decode cX3_thrown 0 = .ok (.aload_n 0, 1) := by decide +kernel
theorem dX3_thrown_1 : decode cX3_thrown 1 = .ok (.getfield 60, 3) := by decide +kernel
theorem dX3_thrown_4 : decode cX3_thrown 4 = .ok (.ireturn, 1) := by decide +kernel
theorem dX3_fails_0 : decode cX3_fails 0 = .ok (.aload_n 0, 1) := by decide +kernel
theorem dX3_fails_1 : decode cX3_fails 1 = .ok (.iload_n 1, 1) := by decide +kernel
theorem dX3_fails_2 : decode cX3_fails 2 = .ok (.putfield 60, 3) := by decide +kernel
theorem dX3_fails_5 : decode cX3_fails 5 = .ok (.iconst 0, 1) := by decide +kernel
theorem dX3_fails_6 : decode cX3_fails 6 = .ok (.ireturn, 1) := by decide +kernel
theorem dX3_in_0 : decode cX3_in 0 = .ok (.iload_n 0, 1) := by decide +kernel
theorem dX3_in_1 : decode cX3_in 1 = .ok (.iload_n 1, 1) := by decide +kernel
theorem dX3_in_2 : decode cX3_in 2 = .ok (.if_icmp .lt 12, 3) := by decide +kernel
theorem dX3_in_5 : decode cX3_in 5 = .ok (.iload_n 0, 1) := by decide +kernel
theorem dX3_in_6 : decode cX3_in 6 = .ok (.iload_n 2, 1) := by decide +kernel
theorem dX3_in_7 : decode cX3_in 7 = .ok (.if_icmp .gt 7, 3) := by decide +kernel
theorem dX3_in_10 : decode cX3_in 10 = .ok (.iconst 1, 1) := by decide +kernel
theorem dX3_in_11 : decode cX3_in 11 = .ok (.goto 4, 3) := by decide +kernel
theorem dX3_in_14 : decode cX3_in 14 = .ok (.iconst 0, 1) := by decide +kernel
theorem dX3_in_15 : decode cX3_in 15 = .ok (.ireturn, 1) := by decide +kernel
set_option maxRecDepth 20000 in
theorem ggX3_isBidder_X3_in : GoodIn wsX3_isBidder wsX3_in := goodIn_r _ [4] (by decide +kernel) (by decide +kernel)
set_option maxRecDepth 20000 in
theorem gX3_isBidder_X3_in : GoodIn wsX3_isBidder (va_wsS RX3 63 yX3_in wsX3_in) := goodIn_app (goodIn_of _ (by decide +kernel)) ggX3_isBidder_X3_in
theorem dX3_isBidder_0 : decode cX3_isBidder 0 = .ok (.iload_n 0, 1) := by decide +kernel
theorem dX3_isBidder_1 : decode cX3_isBidder 1 = .ok (.iconst 0, 1) := by decide +kernel
theorem dX3_isBidder_2 : decode cX3_isBidder 2 = .ok (.bipush 6, 2) := by decide +kernel
theorem dX3_isBidder_4 : decode cX3_isBidder 4 = .ok (.invokestatic 63, 3) := by decide +kernel
theorem dX3_isBidder_7 : decode cX3_isBidder 7 = .ok (.ireturn, 1) := by decide +kernel
set_option maxRecDepth 20000 in
theorem ggX3_isTender_X3_in : GoodIn wsX3_isTender wsX3_in := goodIn_r _ [5] (by decide +kernel) (by decide +kernel)
set_option maxRecDepth 20000 in
theorem gX3_isTender_X3_in : GoodIn wsX3_isTender (va_wsS RX3 63 yX3_in wsX3_in) := goodIn_app (goodIn_of _ (by decide +kernel)) ggX3_isTender_X3_in
theorem dX3_isTender_0 : decode cX3_isTender 0 = .ok (.iload_n 1, 1) := by decide +kernel
theorem dX3_isTender_1 : decode cX3_isTender 1 = .ok (.iconst 0, 1) := by decide +kernel
theorem dX3_isTender_2 : decode cX3_isTender 2 = .ok (.aload_n 0, 1) := by decide +kernel
theorem dX3_isTender_3 : decode cX3_isTender 3 = .ok (.getfield 67, 3) := by decide +kernel
theorem dX3_isTender_6 : decode cX3_isTender 6 = .ok (.iconst 1, 1) := by decide +kernel
theorem dX3_isTender_7 : decode cX3_isTender 7 = .ok (.isub, 1) := by decide +kernel
theorem dX3_isTender_8 : decode cX3_isTender 8 = .ok (.invokestatic 63, 3) := by decide +kernel
theorem dX3_isTender_11 : decode cX3_isTender 11 = .ok (.ireturn, 1) := by decide +kernel
set_option maxRecDepth 20000 in
theorem ggX3_isFile_X3_in : GoodIn wsX3_isFile wsX3_in := goodIn_r _ [5] (by decide +kernel) (by decide +kernel)
set_option maxRecDepth 20000 in
theorem gX3_isFile_X3_in : GoodIn wsX3_isFile (va_wsS RX3 63 yX3_in wsX3_in) := goodIn_app (goodIn_of _ (by decide +kernel)) ggX3_isFile_X3_in
theorem dX3_isFile_0 : decode cX3_isFile 0 = .ok (.iload_n 1, 1) := by decide +kernel
theorem dX3_isFile_1 : decode cX3_isFile 1 = .ok (.iconst 0, 1) := by decide +kernel
theorem dX3_isFile_2 : decode cX3_isFile 2 = .ok (.aload_n 0, 1) := by decide +kernel
theorem dX3_isFile_3 : decode cX3_isFile 3 = .ok (.getfield 70, 3) := by decide +kernel
theorem dX3_isFile_6 : decode cX3_isFile 6 = .ok (.iconst 1, 1) := by decide +kernel
theorem dX3_isFile_7 : decode cX3_isFile 7 = .ok (.isub, 1) := by decide +kernel
theorem dX3_isFile_8 : decode cX3_isFile 8 = .ok (.invokestatic 63, 3) := by decide +kernel
theorem dX3_isFile_11 : decode cX3_isFile 11 = .ok (.ireturn, 1) := by decide +kernel
set_option maxRecDepth 20000 in
theorem ggX3_isPair_X3_isBidder : GoodIn wsX3_isPair wsX3_isBidder := goodIn_r _ [4, 5, 6, 3, 7] (by decide +kernel) (by decide +kernel)
set_option maxRecDepth 20000 in
theorem gX3_isPair_X3_isBidder : GoodIn wsX3_isPair (va_wsS RX3 73 yX3_isBidder wsX3_isBidder) := goodIn_app (goodIn_of _ (by decide +kernel)) ggX3_isPair_X3_isBidder
theorem dX3_isPair_0 : decode cX3_isPair 0 = .ok (.iload_n 0, 1) := by decide +kernel
theorem dX3_isPair_1 : decode cX3_isPair 1 = .ok (.invokestatic 73, 3) := by decide +kernel
theorem dX3_isPair_4 : decode cX3_isPair 4 = .ok (.ifCond .eq 19, 3) := by decide +kernel
theorem dX3_isPair_7 : decode cX3_isPair 7 = .ok (.iload_n 1, 1) := by decide +kernel
theorem dX3_isPair_8 : decode cX3_isPair 8 = .ok (.invokestatic 73, 3) := by decide +kernel
theorem dX3_isPair_11 : decode cX3_isPair 11 = .ok (.ifCond .eq 12, 3) := by decide +kernel
theorem dX3_isPair_14 : decode cX3_isPair 14 = .ok (.iload_n 0, 1) := by decide +kernel
theorem dX3_isPair_15 : decode cX3_isPair 15 = .ok (.iload_n 1, 1) := by decide +kernel
theorem dX3_isPair_16 : decode cX3_isPair 16 = .ok (.if_icmp .eq 7, 3) := by decide +kernel
theorem dX3_isPair_19 : decode cX3_isPair 19 = .ok (.iconst 1, 1) := by decide +kernel
theorem dX3_isPair_20 : decode cX3_isPair 20 = .ok (.goto 4, 3) := by decide +kernel
theorem dX3_isPair_23 : decode cX3_isPair 23 = .ok (.iconst 0, 1) := by decide +kernel
theorem dX3_isPair_24 : decode cX3_isPair 24 = .ok (.ireturn, 1) := by decide +kernel
set_option maxRecDepth 20000 in
theorem ggX3_open_X3_fails : GoodIn wsX3_open wsX3_fails := goodIn_r _ [8, 1, 9, 10, 11, 12, 13, 14, 15, 16, 17, 18, 19, 20, 21, 22, 23, 24, 25, 26, 27] (by decide +kernel) (by decide +kernel)
set_option maxRecDepth 20000 in
theorem gX3_open_X3_fails : GoodIn wsX3_open (wsV RX3 77 RX3 yX3_fails wsX3_fails) := goodIn_app (goodIn_of _ (by decide +kernel)) ggX3_open_X3_fails
theorem dX3_open_0 : decode cX3_open 0 = .ok (.aload_n 0, 1) := by decide +kernel
theorem dX3_open_1 : decode cX3_open 1 = .ok (.iconst 0, 1) := by decide +kernel
theorem dX3_open_2 : decode cX3_open 2 = .ok (.putfield 60, 3) := by decide +kernel
theorem dX3_open_5 : decode cX3_open 5 = .ok (.aload_n 0, 1) := by decide +kernel
theorem dX3_open_6 : decode cX3_open 6 = .ok (.getfield 67, 3) := by decide +kernel
theorem dX3_open_9 : decode cX3_open 9 = .ok (.bipush 30, 2) := by decide +kernel
theorem dX3_open_11 : decode cX3_open 11 = .ok (.if_icmp .ne 9, 3) := by decide +kernel
theorem dX3_open_14 : decode cX3_open 14 = .ok (.aload_n 0, 1) := by decide +kernel
theorem dX3_open_15 : decode cX3_open 15 = .ok (.iconst 1, 1) := by decide +kernel
theorem dX3_open_16 : decode cX3_open 16 = .ok (.invokevirtual 77, 3) := by decide +kernel
theorem dX3_open_19 : decode cX3_open 19 = .ok (.ireturn, 1) := by decide +kernel
theorem dX3_open_20 : decode cX3_open 20 = .ok (.aload_n 0, 1) := by decide +kernel
theorem dX3_open_21 : decode cX3_open 21 = .ok (.getfield 16, 3) := by decide +kernel
theorem dX3_open_24 : decode cX3_open 24 = .ok (.aload_n 0, 1) := by decide +kernel
theorem dX3_open_25 : decode cX3_open 25 = .ok (.getfield 67, 3) := by decide +kernel
theorem dX3_open_28 : decode cX3_open 28 = .ok (.iconst (-1), 1) := by decide +kernel
theorem dX3_open_29 : decode cX3_open 29 = .ok (.iastore, 1) := by decide +kernel
theorem dX3_open_30 : decode cX3_open 30 = .ok (.aload_n 0, 1) := by decide +kernel
theorem dX3_open_31 : decode cX3_open 31 = .ok (.dup, 1) := by decide +kernel
theorem dX3_open_32 : decode cX3_open 32 = .ok (.getfield 67, 3) := by decide +kernel
theorem dX3_open_35 : decode cX3_open 35 = .ok (.iconst 1, 1) := by decide +kernel
theorem dX3_open_36 : decode cX3_open 36 = .ok (.iadd, 1) := by decide +kernel
theorem dX3_open_37 : decode cX3_open 37 = .ok (.putfield 67, 3) := by decide +kernel
theorem dX3_open_40 : decode cX3_open 40 = .ok (.aload_n 0, 1) := by decide +kernel
theorem dX3_open_41 : decode cX3_open 41 = .ok (.getfield 67, 3) := by decide +kernel
theorem dX3_open_44 : decode cX3_open 44 = .ok (.iconst 1, 1) := by decide +kernel
theorem dX3_open_45 : decode cX3_open 45 = .ok (.isub, 1) := by decide +kernel
theorem dX3_open_46 : decode cX3_open 46 = .ok (.ireturn, 1) := by decide +kernel
theorem dX3_stands_0 : decode cX3_stands 0 = .ok (.aload_n 0, 1) := by decide +kernel
theorem dX3_stands_1 : decode cX3_stands 1 = .ok (.getfield 22, 3) := by decide +kernel
theorem dX3_stands_4 : decode cX3_stands 4 = .ok (.bipush 7, 2) := by decide +kernel
theorem dX3_stands_6 : decode cX3_stands 6 = .ok (.iload_n 1, 1) := by decide +kernel
theorem dX3_stands_7 : decode cX3_stands 7 = .ok (.imul, 1) := by decide +kernel
theorem dX3_stands_8 : decode cX3_stands 8 = .ok (.iload_n 2, 1) := by decide +kernel
theorem dX3_stands_9 : decode cX3_stands 9 = .ok (.iadd, 1) := by decide +kernel
theorem dX3_stands_10 : decode cX3_stands 10 = .ok (.iaload, 1) := by decide +kernel
theorem dX3_stands_11 : decode cX3_stands 11 = .ok (.ifCond .le 21, 3) := by decide +kernel
theorem dX3_stands_14 : decode cX3_stands 14 = .ok (.aload_n 0, 1) := by decide +kernel
theorem dX3_stands_15 : decode cX3_stands 15 = .ok (.getfield 25, 3) := by decide +kernel
theorem dX3_stands_18 : decode cX3_stands 18 = .ok (.bipush 7, 2) := by decide +kernel
theorem dX3_stands_20 : decode cX3_stands 20 = .ok (.iload_n 1, 1) := by decide +kernel
theorem dX3_stands_21 : decode cX3_stands 21 = .ok (.imul, 1) := by decide +kernel
theorem dX3_stands_22 : decode cX3_stands 22 = .ok (.iload_n 2, 1) := by decide +kernel
theorem dX3_stands_23 : decode cX3_stands 23 = .ok (.iadd, 1) := by decide +kernel
theorem dX3_stands_24 : decode cX3_stands 24 = .ok (.baload, 1) := by decide +kernel
theorem dX3_stands_25 : decode cX3_stands 25 = .ok (.ifCond .ne 7, 3) := by decide +kernel
theorem dX3_stands_28 : decode cX3_stands 28 = .ok (.iconst 1, 1) := by decide +kernel
theorem dX3_stands_29 : decode cX3_stands 29 = .ok (.goto 4, 3) := by decide +kernel
theorem dX3_stands_32 : decode cX3_stands 32 = .ok (.iconst 0, 1) := by decide +kernel
theorem dX3_stands_33 : decode cX3_stands 33 = .ok (.ireturn, 1) := by decide +kernel
set_option maxRecDepth 20000 in
theorem ggX3_countBids_X3_stands : GoodIn wsX3_countBids wsX3_stands := goodIn_r _ [5, 6, 7, 8, 9, 10, 11, 12, 13, 14, 15, 16, 17, 18, 19, 20, 21, 22, 23, 24, 25, 26] (by decide +kernel) (by decide +kernel)
set_option maxRecDepth 20000 in
theorem gX3_countBids_X3_stands : GoodIn wsX3_countBids (wsV RX3 81 RX3 yX3_stands wsX3_stands) := goodIn_app (goodIn_of _ (by decide +kernel)) ggX3_countBids_X3_stands
theorem dX3_countBids_0 : decode cX3_countBids 0 = .ok (.iconst 0, 1) := by decide +kernel
theorem dX3_countBids_1 : decode cX3_countBids 1 = .ok (.istore_n 2, 1) := by decide +kernel
theorem dX3_countBids_2 : decode cX3_countBids 2 = .ok (.iconst 0, 1) := by decide +kernel
theorem dX3_countBids_3 : decode cX3_countBids 3 = .ok (.istore_n 3, 1) := by decide +kernel
theorem dX3_countBids_4 : decode cX3_countBids 4 = .ok (.iload_n 3, 1) := by decide +kernel
theorem dX3_countBids_5 : decode cX3_countBids 5 = .ok (.bipush 7, 2) := by decide +kernel
theorem dX3_countBids_7 : decode cX3_countBids 7 = .ok (.if_icmp .ge 26, 3) := by decide +kernel
theorem dX3_countBids_10 : decode cX3_countBids 10 = .ok (.iload_n 2, 1) := by decide +kernel
theorem dX3_countBids_11 : decode cX3_countBids 11 = .ok (.aload_n 0, 1) := by decide +kernel
theorem dX3_countBids_12 : decode cX3_countBids 12 = .ok (.iload_n 1, 1) := by decide +kernel
theorem dX3_countBids_13 : decode cX3_countBids 13 = .ok (.iload_n 3, 1) := by decide +kernel
theorem dX3_countBids_14 : decode cX3_countBids 14 = .ok (.invokevirtual 81, 3) := by decide +kernel
theorem dX3_countBids_17 : decode cX3_countBids 17 = .ok (.ifCond .eq 7, 3) := by decide +kernel
theorem dX3_countBids_20 : decode cX3_countBids 20 = .ok (.iconst 1, 1) := by decide +kernel
theorem dX3_countBids_21 : decode cX3_countBids 21 = .ok (.goto 4, 3) := by decide +kernel
theorem dX3_countBids_24 : decode cX3_countBids 24 = .ok (.iconst 0, 1) := by decide +kernel
theorem dX3_countBids_25 : decode cX3_countBids 25 = .ok (.iadd, 1) := by decide +kernel
theorem dX3_countBids_26 : decode cX3_countBids 26 = .ok (.istore_n 2, 1) := by decide +kernel
theorem dX3_countBids_27 : decode cX3_countBids 27 = .ok (.iinc 3 1, 3) := by decide +kernel
theorem dX3_countBids_30 : decode cX3_countBids 30 = .ok (.goto (-26), 3) := by decide +kernel
theorem dX3_countBids_33 : decode cX3_countBids 33 = .ok (.iload_n 2, 1) := by decide +kernel
theorem dX3_countBids_34 : decode cX3_countBids 34 = .ok (.ireturn, 1) := by decide +kernel
set_option maxRecDepth 20000 in
theorem ggX3_bid_X3_isTender : GoodIn wsX3_bid wsX3_isTender := goodIn_r _ [9, 10, 11, 12, 8, 13, 30, 31, 32, 33, 34, 35, 36, 37, 38, 39, 40, 41, 42, 43, 44, 45, 46, 47, 48] (by decide +kernel) (by decide +kernel)
set_option maxRecDepth 20000 in
theorem gX3_bid_X3_isTender : GoodIn wsX3_bid (wsV RX3 85 RX3 yX3_isTender wsX3_isTender) := goodIn_app (goodIn_of _ (by decide +kernel)) ggX3_bid_X3_isTender
set_option maxRecDepth 20000 in
theorem ggX3_bid_X3_fails : GoodIn wsX3_bid wsX3_fails := goodIn_r _ [17, 1, 30, 31, 32, 33, 34, 35, 36, 37, 38, 39, 40, 41, 42, 43, 44, 45, 46, 47, 48] (by decide +kernel) (by decide +kernel)
set_option maxRecDepth 20000 in
theorem gX3_bid_X3_fails : GoodIn wsX3_bid (wsV RX3 77 RX3 yX3_fails wsX3_fails) := goodIn_app (goodIn_of _ (by decide +kernel)) ggX3_bid_X3_fails
set_option maxRecDepth 20000 in
theorem ggX3_bid_X3_isBidder : GoodIn wsX3_bid wsX3_isBidder := goodIn_r _ [20, 11, 12, 8, 13] (by decide +kernel) (by decide +kernel)
set_option maxRecDepth 20000 in
theorem gX3_bid_X3_isBidder : GoodIn wsX3_bid (va_wsS RX3 73 yX3_isBidder wsX3_isBidder) := goodIn_app (goodIn_of _ (by decide +kernel)) ggX3_bid_X3_isBidder
set_option maxRecDepth 20000 in
theorem ggX3_bid_X3_in : GoodIn wsX3_bid wsX3_in := goodIn_r _ [13] (by decide +kernel) (by decide +kernel)
set_option maxRecDepth 20000 in
theorem gX3_bid_X3_in : GoodIn wsX3_bid (va_wsS RX3 63 yX3_in wsX3_in) := goodIn_app (goodIn_of _ (by decide +kernel)) ggX3_bid_X3_in
set_option maxRecDepth 20000 in
theorem ggX3_bid_X3_countBids : GoodIn wsX3_bid wsX3_countBids := goodIn_r _ [24, 25, 26, 27, 8, 28, 4, 29, 30, 31, 32, 33, 34, 35, 36, 37, 38, 39, 40, 41, 42, 43, 44, 45, 46, 47, 48] (by decide +kernel) (by decide +kernel)
set_option maxRecDepth 20000 in
theorem gX3_bid_X3_countBids : GoodIn wsX3_bid (wsV RX3 89 RX3 yX3_countBids wsX3_countBids) := goodIn_app (goodIn_of _ (by decide +kernel)) ggX3_bid_X3_countBids
theorem dX3_bid_0 : decode cX3_bid 0 = .ok (.aload_n 0, 1) := by decide +kernel
theorem dX3_bid_1 : decode cX3_bid 1 = .ok (.iconst 0, 1) := by decide +kernel
theorem dX3_bid_2 : decode cX3_bid 2 = .ok (.putfield 60, 3) := by decide +kernel
theorem dX3_bid_5 : decode cX3_bid 5 = .ok (.aload_n 0, 1) := by decide +kernel
theorem dX3_bid_6 : decode cX3_bid 6 = .ok (.iload_n 1, 1) := by decide +kernel
theorem dX3_bid_7 : decode cX3_bid 7 = .ok (.invokevirtual 85, 3) := by decide +kernel
theorem dX3_bid_10 : decode cX3_bid 10 = .ok (.ifCond .ne 9, 3) := by decide +kernel
theorem dX3_bid_13 : decode cX3_bid 13 = .ok (.aload_n 0, 1) := by decide +kernel
theorem dX3_bid_14 : decode cX3_bid 14 = .ok (.iconst 1, 1) := by decide +kernel
theorem dX3_bid_15 : decode cX3_bid 15 = .ok (.invokevirtual 77, 3) := by decide +kernel
theorem dX3_bid_18 : decode cX3_bid 18 = .ok (.ireturn, 1) := by decide +kernel
theorem dX3_bid_19 : decode cX3_bid 19 = .ok (.iload_n 2, 1) := by decide +kernel
theorem dX3_bid_20 : decode cX3_bid 20 = .ok (.invokestatic 73, 3) := by decide +kernel
theorem dX3_bid_23 : decode cX3_bid 23 = .ok (.ifCond .eq 13, 3) := by decide +kernel
theorem dX3_bid_26 : decode cX3_bid 26 = .ok (.iload_n 3, 1) := by decide +kernel
theorem dX3_bid_27 : decode cX3_bid 27 = .ok (.iconst 1, 1) := by decide +kernel
theorem dX3_bid_28 : decode cX3_bid 28 = .ok (.ldc 88, 2) := by decide +kernel
theorem dX3_bid_30 : decode cX3_bid 30 = .ok (.invokestatic 63, 3) := by decide +kernel
theorem dX3_bid_33 : decode cX3_bid 33 = .ok (.ifCond .ne 9, 3) := by decide +kernel
theorem dX3_bid_36 : decode cX3_bid 36 = .ok (.aload_n 0, 1) := by decide +kernel
theorem dX3_bid_37 : decode cX3_bid 37 = .ok (.iconst 2, 1) := by decide +kernel
theorem dX3_bid_38 : decode cX3_bid 38 = .ok (.invokevirtual 77, 3) := by decide +kernel
theorem dX3_bid_41 : decode cX3_bid 41 = .ok (.ireturn, 1) := by decide +kernel
theorem dX3_bid_42 : decode cX3_bid 42 = .ok (.aload_n 0, 1) := by decide +kernel
theorem dX3_bid_43 : decode cX3_bid 43 = .ok (.getfield 7, 3) := by decide +kernel
theorem dX3_bid_46 : decode cX3_bid 46 = .ok (.iload_n 1, 1) := by decide +kernel
theorem dX3_bid_47 : decode cX3_bid 47 = .ok (.iaload, 1) := by decide +kernel
theorem dX3_bid_48 : decode cX3_bid 48 = .ok (.ifCond .ne 17, 3) := by decide +kernel
theorem dX3_bid_51 : decode cX3_bid 51 = .ok (.aload_n 0, 1) := by decide +kernel
theorem dX3_bid_52 : decode cX3_bid 52 = .ok (.getfield 22, 3) := by decide +kernel
theorem dX3_bid_55 : decode cX3_bid 55 = .ok (.bipush 7, 2) := by decide +kernel
theorem dX3_bid_57 : decode cX3_bid 57 = .ok (.iload_n 1, 1) := by decide +kernel
theorem dX3_bid_58 : decode cX3_bid 58 = .ok (.imul, 1) := by decide +kernel
theorem dX3_bid_59 : decode cX3_bid 59 = .ok (.iload_n 2, 1) := by decide +kernel
theorem dX3_bid_60 : decode cX3_bid 60 = .ok (.iadd, 1) := by decide +kernel
theorem dX3_bid_61 : decode cX3_bid 61 = .ok (.iaload, 1) := by decide +kernel
theorem dX3_bid_62 : decode cX3_bid 62 = .ok (.ifCond .le 9, 3) := by decide +kernel
theorem dX3_bid_65 : decode cX3_bid 65 = .ok (.aload_n 0, 1) := by decide +kernel
theorem dX3_bid_66 : decode cX3_bid 66 = .ok (.iconst 3, 1) := by decide +kernel
theorem dX3_bid_67 : decode cX3_bid 67 = .ok (.invokevirtual 77, 3) := by decide +kernel
theorem dX3_bid_70 : decode cX3_bid 70 = .ok (.ireturn, 1) := by decide +kernel
theorem dX3_bid_71 : decode cX3_bid 71 = .ok (.aload_n 0, 1) := by decide +kernel
theorem dX3_bid_72 : decode cX3_bid 72 = .ok (.getfield 22, 3) := by decide +kernel
theorem dX3_bid_75 : decode cX3_bid 75 = .ok (.bipush 7, 2) := by decide +kernel
theorem dX3_bid_77 : decode cX3_bid 77 = .ok (.iload_n 1, 1) := by decide +kernel
theorem dX3_bid_78 : decode cX3_bid 78 = .ok (.imul, 1) := by decide +kernel
theorem dX3_bid_79 : decode cX3_bid 79 = .ok (.iload_n 2, 1) := by decide +kernel
theorem dX3_bid_80 : decode cX3_bid 80 = .ok (.iadd, 1) := by decide +kernel
theorem dX3_bid_81 : decode cX3_bid 81 = .ok (.iload_n 3, 1) := by decide +kernel
theorem dX3_bid_82 : decode cX3_bid 82 = .ok (.iastore, 1) := by decide +kernel
theorem dX3_bid_83 : decode cX3_bid 83 = .ok (.aload_n 0, 1) := by decide +kernel
theorem dX3_bid_84 : decode cX3_bid 84 = .ok (.iload_n 1, 1) := by decide +kernel
theorem dX3_bid_85 : decode cX3_bid 85 = .ok (.invokevirtual 89, 3) := by decide +kernel
theorem dX3_bid_88 : decode cX3_bid 88 = .ok (.ireturn, 1) := by decide +kernel
set_option maxRecDepth 20000 in
theorem ggX3_withdraw_X3_isTender : GoodIn wsX3_withdraw wsX3_isTender := goodIn_r _ [9, 10, 11, 12, 8, 13, 25, 26, 27, 28, 29, 30, 31, 32, 33, 34, 35, 36, 37, 38, 39, 40, 41, 42, 43] (by decide +kernel) (by decide +kernel)
set_option maxRecDepth 20000 in
theorem gX3_withdraw_X3_isTender : GoodIn wsX3_withdraw (wsV RX3 85 RX3 yX3_isTender wsX3_isTender) := goodIn_app (goodIn_of _ (by decide +kernel)) ggX3_withdraw_X3_isTender
set_option maxRecDepth 20000 in
theorem ggX3_withdraw_X3_fails : GoodIn wsX3_withdraw wsX3_fails := goodIn_r _ [17, 1, 25, 26, 27, 28, 29, 30, 31, 32, 33, 34, 35, 36, 37, 38, 39, 40, 41, 42, 43] (by decide +kernel) (by decide +kernel)
set_option maxRecDepth 20000 in
theorem gX3_withdraw_X3_fails : GoodIn wsX3_withdraw (wsV RX3 77 RX3 yX3_fails wsX3_fails) := goodIn_app (goodIn_of _ (by decide +kernel)) ggX3_withdraw_X3_fails
set_option maxRecDepth 20000 in
theorem ggX3_withdraw_X3_isBidder : GoodIn wsX3_withdraw wsX3_isBidder := goodIn_r _ [20, 11, 12, 8, 13] (by decide +kernel) (by decide +kernel)
set_option maxRecDepth 20000 in
theorem gX3_withdraw_X3_isBidder : GoodIn wsX3_withdraw (va_wsS RX3 73 yX3_isBidder wsX3_isBidder) := goodIn_app (goodIn_of _ (by decide +kernel)) ggX3_withdraw_X3_isBidder
set_option maxRecDepth 20000 in
theorem ggX3_withdraw_X3_stands : GoodIn wsX3_withdraw wsX3_stands := goodIn_r _ [24, 4, 3, 25, 26, 27, 28, 29, 30, 31, 32, 33, 34, 35, 36, 37, 38, 39, 40, 41, 42, 43] (by decide +kernel) (by decide +kernel)
set_option maxRecDepth 20000 in
theorem gX3_withdraw_X3_stands : GoodIn wsX3_withdraw (wsV RX3 81 RX3 yX3_stands wsX3_stands) := goodIn_app (goodIn_of _ (by decide +kernel)) ggX3_withdraw_X3_stands
theorem dX3_withdraw_0 : decode cX3_withdraw 0 = .ok (.aload_n 0, 1) := by decide +kernel
theorem dX3_withdraw_1 : decode cX3_withdraw 1 = .ok (.iconst 0, 1) := by decide +kernel
theorem dX3_withdraw_2 : decode cX3_withdraw 2 = .ok (.putfield 60, 3) := by decide +kernel
theorem dX3_withdraw_5 : decode cX3_withdraw 5 = .ok (.aload_n 0, 1) := by decide +kernel
theorem dX3_withdraw_6 : decode cX3_withdraw 6 = .ok (.iload_n 1, 1) := by decide +kernel
theorem dX3_withdraw_7 : decode cX3_withdraw 7 = .ok (.invokevirtual 85, 3) := by decide +kernel
theorem dX3_withdraw_10 : decode cX3_withdraw 10 = .ok (.ifCond .ne 9, 3) := by decide +kernel
theorem dX3_withdraw_13 : decode cX3_withdraw 13 = .ok (.aload_n 0, 1) := by decide +kernel
theorem dX3_withdraw_14 : decode cX3_withdraw 14 = .ok (.iconst 1, 1) := by decide +kernel
theorem dX3_withdraw_15 : decode cX3_withdraw 15 = .ok (.invokevirtual 77, 3) := by decide +kernel
theorem dX3_withdraw_18 : decode cX3_withdraw 18 = .ok (.ireturn, 1) := by decide +kernel
theorem dX3_withdraw_19 : decode cX3_withdraw 19 = .ok (.iload_n 2, 1) := by decide +kernel
theorem dX3_withdraw_20 : decode cX3_withdraw 20 = .ok (.invokestatic 73, 3) := by decide +kernel
theorem dX3_withdraw_23 : decode cX3_withdraw 23 = .ok (.ifCond .ne 9, 3) := by decide +kernel
theorem dX3_withdraw_26 : decode cX3_withdraw 26 = .ok (.aload_n 0, 1) := by decide +kernel
theorem dX3_withdraw_27 : decode cX3_withdraw 27 = .ok (.iconst 2, 1) := by decide +kernel
theorem dX3_withdraw_28 : decode cX3_withdraw 28 = .ok (.invokevirtual 77, 3) := by decide +kernel
theorem dX3_withdraw_31 : decode cX3_withdraw 31 = .ok (.ireturn, 1) := by decide +kernel
theorem dX3_withdraw_32 : decode cX3_withdraw 32 = .ok (.aload_n 0, 1) := by decide +kernel
theorem dX3_withdraw_33 : decode cX3_withdraw 33 = .ok (.getfield 7, 3) := by decide +kernel
theorem dX3_withdraw_36 : decode cX3_withdraw 36 = .ok (.iload_n 1, 1) := by decide +kernel
theorem dX3_withdraw_37 : decode cX3_withdraw 37 = .ok (.iaload, 1) := by decide +kernel
theorem dX3_withdraw_38 : decode cX3_withdraw 38 = .ok (.ifCond .ne 12, 3) := by decide +kernel
theorem dX3_withdraw_41 : decode cX3_withdraw 41 = .ok (.aload_n 0, 1) := by decide +kernel
theorem dX3_withdraw_42 : decode cX3_withdraw 42 = .ok (.iload_n 1, 1) := by decide +kernel
theorem dX3_withdraw_43 : decode cX3_withdraw 43 = .ok (.iload_n 2, 1) := by decide +kernel
theorem dX3_withdraw_44 : decode cX3_withdraw 44 = .ok (.invokevirtual 81, 3) := by decide +kernel
theorem dX3_withdraw_47 : decode cX3_withdraw 47 = .ok (.ifCond .ne 9, 3) := by decide +kernel
theorem dX3_withdraw_50 : decode cX3_withdraw 50 = .ok (.aload_n 0, 1) := by decide +kernel
theorem dX3_withdraw_51 : decode cX3_withdraw 51 = .ok (.iconst 3, 1) := by decide +kernel
theorem dX3_withdraw_52 : decode cX3_withdraw 52 = .ok (.invokevirtual 77, 3) := by decide +kernel
theorem dX3_withdraw_55 : decode cX3_withdraw 55 = .ok (.ireturn, 1) := by decide +kernel
theorem dX3_withdraw_56 : decode cX3_withdraw 56 = .ok (.aload_n 0, 1) := by decide +kernel
theorem dX3_withdraw_57 : decode cX3_withdraw 57 = .ok (.getfield 25, 3) := by decide +kernel
theorem dX3_withdraw_60 : decode cX3_withdraw 60 = .ok (.bipush 7, 2) := by decide +kernel
theorem dX3_withdraw_62 : decode cX3_withdraw 62 = .ok (.iload_n 1, 1) := by decide +kernel
theorem dX3_withdraw_63 : decode cX3_withdraw 63 = .ok (.imul, 1) := by decide +kernel
theorem dX3_withdraw_64 : decode cX3_withdraw 64 = .ok (.iload_n 2, 1) := by decide +kernel
theorem dX3_withdraw_65 : decode cX3_withdraw 65 = .ok (.iadd, 1) := by decide +kernel
theorem dX3_withdraw_66 : decode cX3_withdraw 66 = .ok (.iconst 1, 1) := by decide +kernel
theorem dX3_withdraw_67 : decode cX3_withdraw 67 = .ok (.bastore, 1) := by decide +kernel
theorem dX3_withdraw_68 : decode cX3_withdraw 68 = .ok (.aload_n 0, 1) := by decide +kernel
theorem dX3_withdraw_69 : decode cX3_withdraw 69 = .ok (.getfield 22, 3) := by decide +kernel
theorem dX3_withdraw_72 : decode cX3_withdraw 72 = .ok (.bipush 7, 2) := by decide +kernel
theorem dX3_withdraw_74 : decode cX3_withdraw 74 = .ok (.iload_n 1, 1) := by decide +kernel
theorem dX3_withdraw_75 : decode cX3_withdraw 75 = .ok (.imul, 1) := by decide +kernel
theorem dX3_withdraw_76 : decode cX3_withdraw 76 = .ok (.iload_n 2, 1) := by decide +kernel
theorem dX3_withdraw_77 : decode cX3_withdraw 77 = .ok (.iadd, 1) := by decide +kernel
theorem dX3_withdraw_78 : decode cX3_withdraw 78 = .ok (.iaload, 1) := by decide +kernel
theorem dX3_withdraw_79 : decode cX3_withdraw 79 = .ok (.ireturn, 1) := by decide +kernel
set_option maxRecDepth 20000 in
theorem ggX3_award_X3_isTender : GoodIn wsX3_award wsX3_isTender := goodIn_r _ [9, 10, 11, 12, 8, 13, 23, 24, 25, 26, 27, 28, 29, 30, 31, 32, 33, 34, 35, 36, 37, 38, 39, 40, 41] (by decide +kernel) (by decide +kernel)
set_option maxRecDepth 20000 in
theorem gX3_award_X3_isTender : GoodIn wsX3_award (wsV RX3 85 RX3 yX3_isTender wsX3_isTender) := goodIn_app (goodIn_of _ (by decide +kernel)) ggX3_award_X3_isTender
set_option maxRecDepth 20000 in
theorem ggX3_award_X3_fails : GoodIn wsX3_award wsX3_fails := goodIn_r _ [17, 1, 23, 24, 25, 26, 27, 28, 29, 30, 31, 32, 33, 34, 35, 36, 37, 38, 39, 40, 41] (by decide +kernel) (by decide +kernel)
set_option maxRecDepth 20000 in
theorem gX3_award_X3_fails : GoodIn wsX3_award (wsV RX3 77 RX3 yX3_fails wsX3_fails) := goodIn_app (goodIn_of _ (by decide +kernel)) ggX3_award_X3_fails
set_option maxRecDepth 20000 in
theorem ggX3_award_X3_stands : GoodIn wsX3_award wsX3_stands := goodIn_r _ [21, 3, 22, 23, 24, 25, 26, 27, 28, 29, 30, 31, 32, 33, 34, 35, 36, 37, 38, 39, 40, 41] (by decide +kernel) (by decide +kernel)
set_option maxRecDepth 20000 in
theorem gX3_award_X3_stands : GoodIn wsX3_award (wsV RX3 81 RX3 yX3_stands wsX3_stands) := goodIn_app (goodIn_of _ (by decide +kernel)) ggX3_award_X3_stands
theorem dX3_award_0 : decode cX3_award 0 = .ok (.aload_n 0, 1) := by decide +kernel
theorem dX3_award_1 : decode cX3_award 1 = .ok (.iconst 0, 1) := by decide +kernel
theorem dX3_award_2 : decode cX3_award 2 = .ok (.putfield 60, 3) := by decide +kernel
theorem dX3_award_5 : decode cX3_award 5 = .ok (.aload_n 0, 1) := by decide +kernel
theorem dX3_award_6 : decode cX3_award 6 = .ok (.iload_n 1, 1) := by decide +kernel
theorem dX3_award_7 : decode cX3_award 7 = .ok (.invokevirtual 85, 3) := by decide +kernel
theorem dX3_award_10 : decode cX3_award 10 = .ok (.ifCond .ne 9, 3) := by decide +kernel
theorem dX3_award_13 : decode cX3_award 13 = .ok (.aload_n 0, 1) := by decide +kernel
theorem dX3_award_14 : decode cX3_award 14 = .ok (.iconst 1, 1) := by decide +kernel
theorem dX3_award_15 : decode cX3_award 15 = .ok (.invokevirtual 77, 3) := by decide +kernel
theorem dX3_award_18 : decode cX3_award 18 = .ok (.ireturn, 1) := by decide +kernel
theorem dX3_award_19 : decode cX3_award 19 = .ok (.aload_n 0, 1) := by decide +kernel
theorem dX3_award_20 : decode cX3_award 20 = .ok (.getfield 7, 3) := by decide +kernel
theorem dX3_award_23 : decode cX3_award 23 = .ok (.iload_n 1, 1) := by decide +kernel
theorem dX3_award_24 : decode cX3_award 24 = .ok (.iaload, 1) := by decide +kernel
theorem dX3_award_25 : decode cX3_award 25 = .ok (.ifCond .eq 9, 3) := by decide +kernel
theorem dX3_award_28 : decode cX3_award 28 = .ok (.aload_n 0, 1) := by decide +kernel
theorem dX3_award_29 : decode cX3_award 29 = .ok (.iconst 2, 1) := by decide +kernel
theorem dX3_award_30 : decode cX3_award 30 = .ok (.invokevirtual 77, 3) := by decide +kernel
theorem dX3_award_33 : decode cX3_award 33 = .ok (.ireturn, 1) := by decide +kernel
theorem dX3_award_34 : decode cX3_award 34 = .ok (.iconst (-1), 1) := by decide +kernel
theorem dX3_award_35 : decode cX3_award 35 = .ok (.istore_n 2, 1) := by decide +kernel
theorem dX3_award_36 : decode cX3_award 36 = .ok (.iconst 0, 1) := by decide +kernel
theorem dX3_award_37 : decode cX3_award 37 = .ok (.istore_n 3, 1) := by decide +kernel
theorem dX3_award_38 : decode cX3_award 38 = .ok (.iload_n 3, 1) := by decide +kernel
theorem dX3_award_39 : decode cX3_award 39 = .ok (.bipush 7, 2) := by decide +kernel
theorem dX3_award_41 : decode cX3_award 41 = .ok (.if_icmp .ge 66, 3) := by decide +kernel
theorem dX3_award_44 : decode cX3_award 44 = .ok (.iload_n 2, 1) := by decide +kernel
theorem dX3_award_45 : decode cX3_award 45 = .ok (.iconst (-1), 1) := by decide +kernel
theorem dX3_award_46 : decode cX3_award 46 = .ok (.if_icmp .eq 28, 3) := by decide +kernel
theorem dX3_award_49 : decode cX3_award 49 = .ok (.aload_n 0, 1) := by decide +kernel
theorem dX3_award_50 : decode cX3_award 50 = .ok (.getfield 22, 3) := by decide +kernel
theorem dX3_award_53 : decode cX3_award 53 = .ok (.bipush 7, 2) := by decide +kernel
theorem dX3_award_55 : decode cX3_award 55 = .ok (.iload_n 1, 1) := by decide +kernel
theorem dX3_award_56 : decode cX3_award 56 = .ok (.imul, 1) := by decide +kernel
theorem dX3_award_57 : decode cX3_award 57 = .ok (.iload_n 3, 1) := by decide +kernel
theorem dX3_award_58 : decode cX3_award 58 = .ok (.iadd, 1) := by decide +kernel
theorem dX3_award_59 : decode cX3_award 59 = .ok (.iaload, 1) := by decide +kernel
theorem dX3_award_60 : decode cX3_award 60 = .ok (.aload_n 0, 1) := by decide +kernel
theorem dX3_award_61 : decode cX3_award 61 = .ok (.getfield 22, 3) := by decide +kernel
theorem dX3_award_64 : decode cX3_award 64 = .ok (.bipush 7, 2) := by decide +kernel
theorem dX3_award_66 : decode cX3_award 66 = .ok (.iload_n 1, 1) := by decide +kernel
theorem dX3_award_67 : decode cX3_award 67 = .ok (.imul, 1) := by decide +kernel
theorem dX3_award_68 : decode cX3_award 68 = .ok (.iload_n 2, 1) := by decide +kernel
theorem dX3_award_69 : decode cX3_award 69 = .ok (.iadd, 1) := by decide +kernel
theorem dX3_award_70 : decode cX3_award 70 = .ok (.iaload, 1) := by decide +kernel
theorem dX3_award_71 : decode cX3_award 71 = .ok (.if_icmp .ge 7, 3) := by decide +kernel
theorem dX3_award_74 : decode cX3_award 74 = .ok (.iconst 1, 1) := by decide +kernel
theorem dX3_award_75 : decode cX3_award 75 = .ok (.goto 4, 3) := by decide +kernel
theorem dX3_award_78 : decode cX3_award 78 = .ok (.iconst 0, 1) := by decide +kernel
theorem dX3_award_79 : decode cX3_award 79 = .ok (.istore 4, 2) := by decide +kernel
theorem dX3_award_81 : decode cX3_award 81 = .ok (.aload_n 0, 1) := by decide +kernel
theorem dX3_award_82 : decode cX3_award 82 = .ok (.iload_n 1, 1) := by decide +kernel
theorem dX3_award_83 : decode cX3_award 83 = .ok (.iload_n 3, 1) := by decide +kernel
theorem dX3_award_84 : decode cX3_award 84 = .ok (.invokevirtual 81, 3) := by decide +kernel
theorem dX3_award_87 : decode cX3_award 87 = .ok (.ifCond .eq 12, 3) := by decide +kernel
theorem dX3_award_90 : decode cX3_award 90 = .ok (.iload 4, 2) := by decide +kernel
theorem dX3_award_92 : decode cX3_award 92 = .ok (.ifCond .eq 7, 3) := by decide +kernel
theorem dX3_award_95 : decode cX3_award 95 = .ok (.iload_n 3, 1) := by decide +kernel
theorem dX3_award_96 : decode cX3_award 96 = .ok (.goto 4, 3) := by decide +kernel
theorem dX3_award_99 : decode cX3_award 99 = .ok (.iload_n 2, 1) := by decide +kernel
theorem dX3_award_100 : decode cX3_award 100 = .ok (.istore_n 2, 1) := by decide +kernel
theorem dX3_award_101 : decode cX3_award 101 = .ok (.iinc 3 1, 3) := by decide +kernel
theorem dX3_award_104 : decode cX3_award 104 = .ok (.goto (-66), 3) := by decide +kernel
theorem dX3_award_107 : decode cX3_award 107 = .ok (.aload_n 0, 1) := by decide +kernel
theorem dX3_award_108 : decode cX3_award 108 = .ok (.getfield 7, 3) := by decide +kernel
theorem dX3_award_111 : decode cX3_award 111 = .ok (.iload_n 1, 1) := by decide +kernel
theorem dX3_award_112 : decode cX3_award 112 = .ok (.iload_n 2, 1) := by decide +kernel
theorem dX3_award_113 : decode cX3_award 113 = .ok (.iconst (-1), 1) := by decide +kernel
theorem dX3_award_114 : decode cX3_award 114 = .ok (.if_icmp .ne 7, 3) := by decide +kernel
theorem dX3_award_117 : decode cX3_award 117 = .ok (.iconst 2, 1) := by decide +kernel
theorem dX3_award_118 : decode cX3_award 118 = .ok (.goto 4, 3) := by decide +kernel
theorem dX3_award_121 : decode cX3_award 121 = .ok (.iconst 1, 1) := by decide +kernel
theorem dX3_award_122 : decode cX3_award 122 = .ok (.iastore, 1) := by decide +kernel
theorem dX3_award_123 : decode cX3_award 123 = .ok (.aload_n 0, 1) := by decide +kernel
theorem dX3_award_124 : decode cX3_award 124 = .ok (.getfield 13, 3) := by decide +kernel
theorem dX3_award_127 : decode cX3_award 127 = .ok (.iload_n 1, 1) := by decide +kernel
theorem dX3_award_128 : decode cX3_award 128 = .ok (.iload_n 2, 1) := by decide +kernel
theorem dX3_award_129 : decode cX3_award 129 = .ok (.iastore, 1) := by decide +kernel
theorem dX3_award_130 : decode cX3_award 130 = .ok (.iload_n 2, 1) := by decide +kernel
theorem dX3_award_131 : decode cX3_award 131 = .ok (.ireturn, 1) := by decide +kernel
theorem dX3_price_0 : decode cX3_price 0 = .ok (.aload_n 0, 1) := by decide +kernel
theorem dX3_price_1 : decode cX3_price 1 = .ok (.getfield 22, 3) := by decide +kernel
theorem dX3_price_4 : decode cX3_price 4 = .ok (.bipush 7, 2) := by decide +kernel
theorem dX3_price_6 : decode cX3_price 6 = .ok (.iload_n 1, 1) := by decide +kernel
theorem dX3_price_7 : decode cX3_price 7 = .ok (.imul, 1) := by decide +kernel
theorem dX3_price_8 : decode cX3_price 8 = .ok (.aload_n 0, 1) := by decide +kernel
theorem dX3_price_9 : decode cX3_price 9 = .ok (.getfield 13, 3) := by decide +kernel
theorem dX3_price_12 : decode cX3_price 12 = .ok (.iload_n 1, 1) := by decide +kernel
theorem dX3_price_13 : decode cX3_price 13 = .ok (.iaload, 1) := by decide +kernel
theorem dX3_price_14 : decode cX3_price 14 = .ok (.iadd, 1) := by decide +kernel
theorem dX3_price_15 : decode cX3_price 15 = .ok (.iaload, 1) := by decide +kernel
theorem dX3_price_16 : decode cX3_price 16 = .ok (.ireturn, 1) := by decide +kernel
set_option maxRecDepth 20000 in
theorem ggX3_passOn_X3_isTender : GoodIn wsX3_passOn wsX3_isTender := goodIn_r _ [10, 11, 12, 13, 9, 14, 27, 28, 29, 30, 31, 32, 33, 34, 35, 36, 37, 38, 39, 40, 41, 42, 43, 44, 45] (by decide +kernel) (by decide +kernel)
set_option maxRecDepth 20000 in
theorem gX3_passOn_X3_isTender : GoodIn wsX3_passOn (wsV RX3 85 RX3 yX3_isTender wsX3_isTender) := goodIn_app (goodIn_of _ (by decide +kernel)) ggX3_passOn_X3_isTender
set_option maxRecDepth 20000 in
theorem ggX3_passOn_X3_fails : GoodIn wsX3_passOn wsX3_fails := goodIn_r _ [18, 1, 27, 28, 29, 30, 31, 32, 33, 34, 35, 36, 37, 38, 39, 40, 41, 42, 43, 44, 45] (by decide +kernel) (by decide +kernel)
set_option maxRecDepth 20000 in
theorem gX3_passOn_X3_fails : GoodIn wsX3_passOn (wsV RX3 77 RX3 yX3_fails wsX3_fails) := goodIn_app (goodIn_of _ (by decide +kernel)) ggX3_passOn_X3_fails
set_option maxRecDepth 20000 in
theorem ggX3_passOn_X3_isBidder : GoodIn wsX3_passOn wsX3_isBidder := goodIn_r _ [21, 12, 13, 9, 14] (by decide +kernel) (by decide +kernel)
set_option maxRecDepth 20000 in
theorem gX3_passOn_X3_isBidder : GoodIn wsX3_passOn (va_wsS RX3 73 yX3_isBidder wsX3_isBidder) := goodIn_app (goodIn_of _ (by decide +kernel)) ggX3_passOn_X3_isBidder
set_option maxRecDepth 20000 in
theorem ggX3_passOn_X3_price : GoodIn wsX3_passOn wsX3_price := goodIn_r _ [25, 26, 4, 27, 28, 29, 30, 31, 32, 33, 34, 35, 36, 37, 38, 39, 40, 41, 42, 43, 44, 45] (by decide +kernel) (by decide +kernel)
set_option maxRecDepth 20000 in
theorem gX3_passOn_X3_price : GoodIn wsX3_passOn (wsV RX3 92 RX3 yX3_price wsX3_price) := goodIn_app (goodIn_of _ (by decide +kernel)) ggX3_passOn_X3_price
set_option maxRecDepth 20000 in
theorem ggX3_passOn_X3_in : GoodIn wsX3_passOn wsX3_in := goodIn_r _ [14] (by decide +kernel) (by decide +kernel)
set_option maxRecDepth 20000 in
theorem gX3_passOn_X3_in : GoodIn wsX3_passOn (va_wsS RX3 63 yX3_in wsX3_in) := goodIn_app (goodIn_of _ (by decide +kernel)) ggX3_passOn_X3_in
theorem dX3_passOn_0 : decode cX3_passOn 0 = .ok (.aload_n 0, 1) := by decide +kernel
theorem dX3_passOn_1 : decode cX3_passOn 1 = .ok (.iconst 0, 1) := by decide +kernel
theorem dX3_passOn_2 : decode cX3_passOn 2 = .ok (.putfield 60, 3) := by decide +kernel
theorem dX3_passOn_5 : decode cX3_passOn 5 = .ok (.aload_n 0, 1) := by decide +kernel
theorem dX3_passOn_6 : decode cX3_passOn 6 = .ok (.iload_n 1, 1) := by decide +kernel
theorem dX3_passOn_7 : decode cX3_passOn 7 = .ok (.invokevirtual 85, 3) := by decide +kernel
theorem dX3_passOn_10 : decode cX3_passOn 10 = .ok (.ifCond .ne 9, 3) := by decide +kernel
theorem dX3_passOn_13 : decode cX3_passOn 13 = .ok (.aload_n 0, 1) := by decide +kernel
theorem dX3_passOn_14 : decode cX3_passOn 14 = .ok (.iconst 1, 1) := by decide +kernel
theorem dX3_passOn_15 : decode cX3_passOn 15 = .ok (.invokevirtual 77, 3) := by decide +kernel
theorem dX3_passOn_18 : decode cX3_passOn 18 = .ok (.ireturn, 1) := by decide +kernel
theorem dX3_passOn_19 : decode cX3_passOn 19 = .ok (.aload_n 0, 1) := by decide +kernel
theorem dX3_passOn_20 : decode cX3_passOn 20 = .ok (.getfield 7, 3) := by decide +kernel
theorem dX3_passOn_23 : decode cX3_passOn 23 = .ok (.iload_n 1, 1) := by decide +kernel
theorem dX3_passOn_24 : decode cX3_passOn 24 = .ok (.iaload, 1) := by decide +kernel
theorem dX3_passOn_25 : decode cX3_passOn 25 = .ok (.iconst 1, 1) := by decide +kernel
theorem dX3_passOn_26 : decode cX3_passOn 26 = .ok (.if_icmp .ne 13, 3) := by decide +kernel
theorem dX3_passOn_29 : decode cX3_passOn 29 = .ok (.aload_n 0, 1) := by decide +kernel
theorem dX3_passOn_30 : decode cX3_passOn 30 = .ok (.getfield 16, 3) := by decide +kernel
theorem dX3_passOn_33 : decode cX3_passOn 33 = .ok (.iload_n 1, 1) := by decide +kernel
theorem dX3_passOn_34 : decode cX3_passOn 34 = .ok (.iaload, 1) := by decide +kernel
theorem dX3_passOn_35 : decode cX3_passOn 35 = .ok (.iconst (-1), 1) := by decide +kernel
theorem dX3_passOn_36 : decode cX3_passOn 36 = .ok (.if_icmp .eq 9, 3) := by decide +kernel
theorem dX3_passOn_39 : decode cX3_passOn 39 = .ok (.aload_n 0, 1) := by decide +kernel
theorem dX3_passOn_40 : decode cX3_passOn 40 = .ok (.iconst 2, 1) := by decide +kernel
theorem dX3_passOn_41 : decode cX3_passOn 41 = .ok (.invokevirtual 77, 3) := by decide +kernel
theorem dX3_passOn_44 : decode cX3_passOn 44 = .ok (.ireturn, 1) := by decide +kernel
theorem dX3_passOn_45 : decode cX3_passOn 45 = .ok (.iload_n 2, 1) := by decide +kernel
theorem dX3_passOn_46 : decode cX3_passOn 46 = .ok (.invokestatic 73, 3) := by decide +kernel
theorem dX3_passOn_49 : decode cX3_passOn 49 = .ok (.ifCond .eq 26, 3) := by decide +kernel
theorem dX3_passOn_52 : decode cX3_passOn 52 = .ok (.iload_n 3, 1) := by decide +kernel
theorem dX3_passOn_53 : decode cX3_passOn 53 = .ok (.iconst 1, 1) := by decide +kernel
theorem dX3_passOn_54 : decode cX3_passOn 54 = .ok (.aload_n 0, 1) := by decide +kernel
theorem dX3_passOn_55 : decode cX3_passOn 55 = .ok (.iload_n 1, 1) := by decide +kernel
theorem dX3_passOn_56 : decode cX3_passOn 56 = .ok (.invokevirtual 92, 3) := by decide +kernel
theorem dX3_passOn_59 : decode cX3_passOn 59 = .ok (.invokestatic 63, 3) := by decide +kernel
theorem dX3_passOn_62 : decode cX3_passOn 62 = .ok (.ifCond .eq 13, 3) := by decide +kernel
theorem dX3_passOn_65 : decode cX3_passOn 65 = .ok (.iload_n 2, 1) := by decide +kernel
theorem dX3_passOn_66 : decode cX3_passOn 66 = .ok (.aload_n 0, 1) := by decide +kernel
theorem dX3_passOn_67 : decode cX3_passOn 67 = .ok (.getfield 13, 3) := by decide +kernel
theorem dX3_passOn_70 : decode cX3_passOn 70 = .ok (.iload_n 1, 1) := by decide +kernel
theorem dX3_passOn_71 : decode cX3_passOn 71 = .ok (.iaload, 1) := by decide +kernel
theorem dX3_passOn_72 : decode cX3_passOn 72 = .ok (.if_icmp .ne 9, 3) := by decide +kernel
theorem dX3_passOn_75 : decode cX3_passOn 75 = .ok (.aload_n 0, 1) := by decide +kernel
theorem dX3_passOn_76 : decode cX3_passOn 76 = .ok (.iconst 3, 1) := by decide +kernel
theorem dX3_passOn_77 : decode cX3_passOn 77 = .ok (.invokevirtual 77, 3) := by decide +kernel
theorem dX3_passOn_80 : decode cX3_passOn 80 = .ok (.ireturn, 1) := by decide +kernel
theorem dX3_passOn_81 : decode cX3_passOn 81 = .ok (.aload_n 0, 1) := by decide +kernel
theorem dX3_passOn_82 : decode cX3_passOn 82 = .ok (.getfield 16, 3) := by decide +kernel
theorem dX3_passOn_85 : decode cX3_passOn 85 = .ok (.iload_n 1, 1) := by decide +kernel
theorem dX3_passOn_86 : decode cX3_passOn 86 = .ok (.iload_n 2, 1) := by decide +kernel
theorem dX3_passOn_87 : decode cX3_passOn 87 = .ok (.iastore, 1) := by decide +kernel
theorem dX3_passOn_88 : decode cX3_passOn 88 = .ok (.aload_n 0, 1) := by decide +kernel
theorem dX3_passOn_89 : decode cX3_passOn 89 = .ok (.getfield 19, 3) := by decide +kernel
theorem dX3_passOn_92 : decode cX3_passOn 92 = .ok (.iload_n 1, 1) := by decide +kernel
theorem dX3_passOn_93 : decode cX3_passOn 93 = .ok (.iload_n 3, 1) := by decide +kernel
theorem dX3_passOn_94 : decode cX3_passOn 94 = .ok (.iastore, 1) := by decide +kernel
theorem dX3_passOn_95 : decode cX3_passOn 95 = .ok (.aload_n 0, 1) := by decide +kernel
theorem dX3_passOn_96 : decode cX3_passOn 96 = .ok (.getfield 13, 3) := by decide +kernel
theorem dX3_passOn_99 : decode cX3_passOn 99 = .ok (.iload_n 1, 1) := by decide +kernel
theorem dX3_passOn_100 : decode cX3_passOn 100 = .ok (.iaload, 1) := by decide +kernel
theorem dX3_passOn_101 : decode cX3_passOn 101 = .ok (.ireturn, 1) := by decide +kernel
set_option maxRecDepth 20000 in
theorem ggX3_turnoverOf_X3_price : GoodIn wsX3_turnoverOf wsX3_price := goodIn_r _ [10, 11, 3, 12, 13, 14, 15, 16, 17, 18, 19, 20, 21, 22, 23, 24, 25, 26, 27, 28, 29, 30] (by decide +kernel) (by decide +kernel)
set_option maxRecDepth 20000 in
theorem gX3_turnoverOf_X3_price : GoodIn wsX3_turnoverOf (wsV RX3 92 RX3 yX3_price wsX3_price) := goodIn_app (goodIn_of _ (by decide +kernel)) ggX3_turnoverOf_X3_price
theorem dX3_turnoverOf_0 : decode cX3_turnoverOf 0 = .ok (.iconst 0, 1) := by decide +kernel
theorem dX3_turnoverOf_1 : decode cX3_turnoverOf 1 = .ok (.istore_n 2, 1) := by decide +kernel
theorem dX3_turnoverOf_2 : decode cX3_turnoverOf 2 = .ok (.iconst 0, 1) := by decide +kernel
theorem dX3_turnoverOf_3 : decode cX3_turnoverOf 3 = .ok (.istore_n 3, 1) := by decide +kernel
theorem dX3_turnoverOf_4 : decode cX3_turnoverOf 4 = .ok (.iload_n 3, 1) := by decide +kernel
theorem dX3_turnoverOf_5 : decode cX3_turnoverOf 5 = .ok (.aload_n 0, 1) := by decide +kernel
theorem dX3_turnoverOf_6 : decode cX3_turnoverOf 6 = .ok (.getfield 67, 3) := by decide +kernel
theorem dX3_turnoverOf_9 : decode cX3_turnoverOf 9 = .ok (.if_icmp .ge 71, 3) := by decide +kernel
theorem dX3_turnoverOf_12 : decode cX3_turnoverOf 12 = .ok (.aload_n 0, 1) := by decide +kernel
theorem dX3_turnoverOf_13 : decode cX3_turnoverOf 13 = .ok (.getfield 7, 3) := by decide +kernel
theorem dX3_turnoverOf_16 : decode cX3_turnoverOf 16 = .ok (.iload_n 3, 1) := by decide +kernel
theorem dX3_turnoverOf_17 : decode cX3_turnoverOf 17 = .ok (.iaload, 1) := by decide +kernel
theorem dX3_turnoverOf_18 : decode cX3_turnoverOf 18 = .ok (.iconst 1, 1) := by decide +kernel
theorem dX3_turnoverOf_19 : decode cX3_turnoverOf 19 = .ok (.if_icmp .ne 55, 3) := by decide +kernel
theorem dX3_turnoverOf_22 : decode cX3_turnoverOf 22 = .ok (.iload_n 2, 1) := by decide +kernel
theorem dX3_turnoverOf_23 : decode cX3_turnoverOf 23 = .ok (.aload_n 0, 1) := by decide +kernel
theorem dX3_turnoverOf_24 : decode cX3_turnoverOf 24 = .ok (.getfield 13, 3) := by decide +kernel
theorem dX3_turnoverOf_27 : decode cX3_turnoverOf 27 = .ok (.iload_n 3, 1) := by decide +kernel
theorem dX3_turnoverOf_28 : decode cX3_turnoverOf 28 = .ok (.iaload, 1) := by decide +kernel
theorem dX3_turnoverOf_29 : decode cX3_turnoverOf 29 = .ok (.iload_n 1, 1) := by decide +kernel
theorem dX3_turnoverOf_30 : decode cX3_turnoverOf 30 = .ok (.if_icmp .ne 18, 3) := by decide +kernel
theorem dX3_turnoverOf_33 : decode cX3_turnoverOf 33 = .ok (.aload_n 0, 1) := by decide +kernel
theorem dX3_turnoverOf_34 : decode cX3_turnoverOf 34 = .ok (.iload_n 3, 1) := by decide +kernel
theorem dX3_turnoverOf_35 : decode cX3_turnoverOf 35 = .ok (.invokevirtual 92, 3) := by decide +kernel
theorem dX3_turnoverOf_38 : decode cX3_turnoverOf 38 = .ok (.aload_n 0, 1) := by decide +kernel
theorem dX3_turnoverOf_39 : decode cX3_turnoverOf 39 = .ok (.getfield 19, 3) := by decide +kernel
theorem dX3_turnoverOf_42 : decode cX3_turnoverOf 42 = .ok (.iload_n 3, 1) := by decide +kernel
theorem dX3_turnoverOf_43 : decode cX3_turnoverOf 43 = .ok (.iaload, 1) := by decide +kernel
theorem dX3_turnoverOf_44 : decode cX3_turnoverOf 44 = .ok (.isub, 1) := by decide +kernel
theorem dX3_turnoverOf_45 : decode cX3_turnoverOf 45 = .ok (.goto 4, 3) := by decide +kernel
theorem dX3_turnoverOf_48 : decode cX3_turnoverOf 48 = .ok (.iconst 0, 1) := by decide +kernel
theorem dX3_turnoverOf_49 : decode cX3_turnoverOf 49 = .ok (.iadd, 1) := by decide +kernel
theorem dX3_turnoverOf_50 : decode cX3_turnoverOf 50 = .ok (.istore_n 2, 1) := by decide +kernel
theorem dX3_turnoverOf_51 : decode cX3_turnoverOf 51 = .ok (.iload_n 2, 1) := by decide +kernel
theorem dX3_turnoverOf_52 : decode cX3_turnoverOf 52 = .ok (.aload_n 0, 1) := by decide +kernel
theorem dX3_turnoverOf_53 : decode cX3_turnoverOf 53 = .ok (.getfield 16, 3) := by decide +kernel
theorem dX3_turnoverOf_56 : decode cX3_turnoverOf 56 = .ok (.iload_n 3, 1) := by decide +kernel
theorem dX3_turnoverOf_57 : decode cX3_turnoverOf 57 = .ok (.iaload, 1) := by decide +kernel
theorem dX3_turnoverOf_58 : decode cX3_turnoverOf 58 = .ok (.iload_n 1, 1) := by decide +kernel
theorem dX3_turnoverOf_59 : decode cX3_turnoverOf 59 = .ok (.if_icmp .ne 12, 3) := by decide +kernel
theorem dX3_turnoverOf_62 : decode cX3_turnoverOf 62 = .ok (.aload_n 0, 1) := by decide +kernel
theorem dX3_turnoverOf_63 : decode cX3_turnoverOf 63 = .ok (.getfield 19, 3) := by decide +kernel
theorem dX3_turnoverOf_66 : decode cX3_turnoverOf 66 = .ok (.iload_n 3, 1) := by decide +kernel
theorem dX3_turnoverOf_67 : decode cX3_turnoverOf 67 = .ok (.iaload, 1) := by decide +kernel
theorem dX3_turnoverOf_68 : decode cX3_turnoverOf 68 = .ok (.goto 4, 3) := by decide +kernel
theorem dX3_turnoverOf_71 : decode cX3_turnoverOf 71 = .ok (.iconst 0, 1) := by decide +kernel
theorem dX3_turnoverOf_72 : decode cX3_turnoverOf 72 = .ok (.iadd, 1) := by decide +kernel
theorem dX3_turnoverOf_73 : decode cX3_turnoverOf 73 = .ok (.istore_n 2, 1) := by decide +kernel
theorem dX3_turnoverOf_74 : decode cX3_turnoverOf 74 = .ok (.iinc 3 1, 3) := by decide +kernel
theorem dX3_turnoverOf_77 : decode cX3_turnoverOf 77 = .ok (.goto (-73), 3) := by decide +kernel
theorem dX3_turnoverOf_80 : decode cX3_turnoverOf 80 = .ok (.iload_n 2, 1) := by decide +kernel
theorem dX3_turnoverOf_81 : decode cX3_turnoverOf 81 = .ok (.ireturn, 1) := by decide +kernel
set_option maxRecDepth 20000 in
theorem ggX3_turnover_X3_isBidder : GoodIn wsX3_turnover wsX3_isBidder := goodIn_r _ [5, 6, 7, 4, 8] (by decide +kernel) (by decide +kernel)
set_option maxRecDepth 20000 in
theorem gX3_turnover_X3_isBidder : GoodIn wsX3_turnover (va_wsS RX3 73 yX3_isBidder wsX3_isBidder) := goodIn_app (goodIn_of _ (by decide +kernel)) ggX3_turnover_X3_isBidder
set_option maxRecDepth 20000 in
theorem ggX3_turnover_X3_turnoverOf : GoodIn wsX3_turnover wsX3_turnoverOf := goodIn_r _ [12, 13, 14, 15, 16, 17, 18, 19, 20, 4, 21, 22, 27, 28, 29, 30, 31, 32, 33, 34, 35, 36, 37, 38, 39, 40, 41, 42, 43, 44, 45] (by decide +kernel) (by decide +kernel)
set_option maxRecDepth 20000 in
theorem gX3_turnover_X3_turnoverOf : GoodIn wsX3_turnover (wsV RX3 95 RX3 yX3_turnoverOf wsX3_turnoverOf) := goodIn_app (goodIn_of _ (by decide +kernel)) ggX3_turnover_X3_turnoverOf
set_option maxRecDepth 20000 in
theorem ggX3_turnover_X3_fails : GoodIn wsX3_turnover wsX3_fails := goodIn_r _ [26, 1, 27, 28, 29, 30, 31, 32, 33, 34, 35, 36, 37, 38, 39, 40, 41, 42, 43, 44, 45] (by decide +kernel) (by decide +kernel)
set_option maxRecDepth 20000 in
theorem gX3_turnover_X3_fails : GoodIn wsX3_turnover (wsV RX3 77 RX3 yX3_fails wsX3_fails) := goodIn_app (goodIn_of _ (by decide +kernel)) ggX3_turnover_X3_fails
theorem dX3_turnover_0 : decode cX3_turnover 0 = .ok (.aload_n 0, 1) := by decide +kernel
theorem dX3_turnover_1 : decode cX3_turnover 1 = .ok (.iconst 0, 1) := by decide +kernel
end
section
theorem dX3_turnover_2 : decode cX3_turnover 2 = .ok (.putfield 60, 3) := by decide +kernel
theorem dX3_turnover_5 : decode cX3_turnover 5 = .ok (.iload_n 1, 1) := by decide +kernel
theorem dX3_turnover_6 : decode cX3_turnover 6 = .ok (.invokestatic 73, 3) := by decide +kernel
theorem dX3_turnover_9 : decode cX3_turnover 9 = .ok (.ifCond .eq 11, 3) := by decide +kernel
theorem dX3_turnover_12 : decode cX3_turnover 12 = .ok (.aload_n 0, 1) := by decide +kernel
theorem dX3_turnover_13 : decode cX3_turnover 13 = .ok (.iload_n 1, 1) := by decide +kernel
theorem dX3_turnover_14 : decode cX3_turnover 14 = .ok (.invokevirtual 95, 3) := by decide +kernel
theorem dX3_turnover_17 : decode cX3_turnover 17 = .ok (.goto 8, 3) := by decide +kernel
theorem dX3_turnover_20 : decode cX3_turnover 20 = .ok (.aload_n 0, 1) := by decide +kernel
theorem dX3_turnover_21 : decode cX3_turnover 21 = .ok (.iconst 1, 1) := by decide +kernel
theorem dX3_turnover_22 : decode cX3_turnover 22 = .ok (.invokevirtual 77, 3) := by decide +kernel
theorem dX3_turnover_25 : decode cX3_turnover 25 = .ok (.ireturn, 1) := by decide +kernel
set_option maxRecDepth 20000 in
theorem ggX3_won_X3_isBidder : GoodIn wsX3_won wsX3_isBidder := goodIn_r _ [8, 9, 10, 7, 11] (by decide +kernel) (by decide +kernel)
set_option maxRecDepth 20000 in
theorem gX3_won_X3_isBidder : GoodIn wsX3_won (va_wsS RX3 73 yX3_isBidder wsX3_isBidder) := goodIn_app (goodIn_of _ (by decide +kernel)) ggX3_won_X3_isBidder
set_option maxRecDepth 20000 in
theorem ggX3_won_X3_fails : GoodIn wsX3_won wsX3_fails := goodIn_r _ [15, 1, 16, 17, 18, 19, 20, 21, 22, 23, 24, 25, 26, 27, 28, 29, 30, 31, 32, 33, 34] (by decide +kernel) (by decide +kernel)
set_option maxRecDepth 20000 in
theorem gX3_won_X3_fails : GoodIn wsX3_won (wsV RX3 77 RX3 yX3_fails wsX3_fails) := goodIn_app (goodIn_of _ (by decide +kernel)) ggX3_won_X3_fails
theorem dX3_won_0 : decode cX3_won 0 = .ok (.aload_n 0, 1) := by decide +kernel
theorem dX3_won_1 : decode cX3_won 1 = .ok (.iconst 0, 1) := by decide +kernel
theorem dX3_won_2 : decode cX3_won 2 = .ok (.putfield 60, 3) := by decide +kernel
theorem dX3_won_5 : decode cX3_won 5 = .ok (.iload_n 1, 1) := by decide +kernel
theorem dX3_won_6 : decode cX3_won 6 = .ok (.invokestatic 73, 3) := by decide +kernel
theorem dX3_won_9 : decode cX3_won 9 = .ok (.ifCond .ne 9, 3) := by decide +kernel
theorem dX3_won_12 : decode cX3_won 12 = .ok (.aload_n 0, 1) := by decide +kernel
theorem dX3_won_13 : decode cX3_won 13 = .ok (.iconst 1, 1) := by decide +kernel
theorem dX3_won_14 : decode cX3_won 14 = .ok (.invokevirtual 77, 3) := by decide +kernel
theorem dX3_won_17 : decode cX3_won 17 = .ok (.ireturn, 1) := by decide +kernel
theorem dX3_won_18 : decode cX3_won 18 = .ok (.iconst 0, 1) := by decide +kernel
theorem dX3_won_19 : decode cX3_won 19 = .ok (.istore_n 2, 1) := by decide +kernel
theorem dX3_won_20 : decode cX3_won 20 = .ok (.iconst 0, 1) := by decide +kernel
theorem dX3_won_21 : decode cX3_won 21 = .ok (.istore_n 3, 1) := by decide +kernel
theorem dX3_won_22 : decode cX3_won 22 = .ok (.iload_n 3, 1) := by decide +kernel
theorem dX3_won_23 : decode cX3_won 23 = .ok (.aload_n 0, 1) := by decide +kernel
theorem dX3_won_24 : decode cX3_won 24 = .ok (.getfield 67, 3) := by decide +kernel
theorem dX3_won_27 : decode cX3_won 27 = .ok (.if_icmp .ge 37, 3) := by decide +kernel
theorem dX3_won_30 : decode cX3_won 30 = .ok (.iload_n 2, 1) := by decide +kernel
theorem dX3_won_31 : decode cX3_won 31 = .ok (.aload_n 0, 1) := by decide +kernel
theorem dX3_won_32 : decode cX3_won 32 = .ok (.getfield 7, 3) := by decide +kernel
theorem dX3_won_35 : decode cX3_won 35 = .ok (.iload_n 3, 1) := by decide +kernel
theorem dX3_won_36 : decode cX3_won 36 = .ok (.iaload, 1) := by decide +kernel
theorem dX3_won_37 : decode cX3_won 37 = .ok (.iconst 1, 1) := by decide +kernel
theorem dX3_won_38 : decode cX3_won 38 = .ok (.if_icmp .ne 17, 3) := by decide +kernel
theorem dX3_won_41 : decode cX3_won 41 = .ok (.aload_n 0, 1) := by decide +kernel
theorem dX3_won_42 : decode cX3_won 42 = .ok (.getfield 13, 3) := by decide +kernel
theorem dX3_won_45 : decode cX3_won 45 = .ok (.iload_n 3, 1) := by decide +kernel
theorem dX3_won_46 : decode cX3_won 46 = .ok (.iaload, 1) := by decide +kernel
theorem dX3_won_47 : decode cX3_won 47 = .ok (.iload_n 1, 1) := by decide +kernel
theorem dX3_won_48 : decode cX3_won 48 = .ok (.if_icmp .ne 7, 3) := by decide +kernel
theorem dX3_won_51 : decode cX3_won 51 = .ok (.iconst 1, 1) := by decide +kernel
theorem dX3_won_52 : decode cX3_won 52 = .ok (.goto 4, 3) := by decide +kernel
theorem dX3_won_55 : decode cX3_won 55 = .ok (.iconst 0, 1) := by decide +kernel
theorem dX3_won_56 : decode cX3_won 56 = .ok (.iadd, 1) := by decide +kernel
theorem dX3_won_57 : decode cX3_won 57 = .ok (.istore_n 2, 1) := by decide +kernel
theorem dX3_won_58 : decode cX3_won 58 = .ok (.iinc 3 1, 3) := by decide +kernel
theorem dX3_won_61 : decode cX3_won 61 = .ok (.goto (-39), 3) := by decide +kernel
theorem dX3_won_64 : decode cX3_won 64 = .ok (.iload_n 2, 1) := by decide +kernel
theorem dX3_won_65 : decode cX3_won 65 = .ok (.ireturn, 1) := by decide +kernel
set_option maxRecDepth 20000 in
theorem ggX3_isTurn_X3_stands : GoodIn wsX3_isTurn wsX3_stands := goodIn_r _ [7, 8, 9, 10, 11, 12, 13, 14, 15, 16, 17, 18, 19, 20, 21, 22, 23, 24, 25, 26, 27, 28] (by decide +kernel) (by decide +kernel)
set_option maxRecDepth 20000 in
theorem gX3_isTurn_X3_stands : GoodIn wsX3_isTurn (wsV RX3 81 RX3 yX3_stands wsX3_stands) := goodIn_app (goodIn_of _ (by decide +kernel)) ggX3_isTurn_X3_stands
theorem dX3_isTurn_0 : decode cX3_isTurn 0 = .ok (.iconst (-1), 1) := by decide +kernel
theorem dX3_isTurn_1 : decode cX3_isTurn 1 = .ok (.istore 4, 2) := by decide +kernel
theorem dX3_isTurn_3 : decode cX3_isTurn 3 = .ok (.iconst 0, 1) := by decide +kernel
theorem dX3_isTurn_4 : decode cX3_isTurn 4 = .ok (.istore 5, 2) := by decide +kernel
theorem dX3_isTurn_6 : decode cX3_isTurn 6 = .ok (.iload 5, 2) := by decide +kernel
theorem dX3_isTurn_8 : decode cX3_isTurn 8 = .ok (.iload_n 1, 1) := by decide +kernel
theorem dX3_isTurn_9 : decode cX3_isTurn 9 = .ok (.if_icmp .ge 49, 3) := by decide +kernel
theorem dX3_isTurn_12 : decode cX3_isTurn 12 = .ok (.aload_n 0, 1) := by decide +kernel
theorem dX3_isTurn_13 : decode cX3_isTurn 13 = .ok (.getfield 7, 3) := by decide +kernel
theorem dX3_isTurn_16 : decode cX3_isTurn 16 = .ok (.iload 5, 2) := by decide +kernel
theorem dX3_isTurn_18 : decode cX3_isTurn 18 = .ok (.iaload, 1) := by decide +kernel
theorem dX3_isTurn_19 : decode cX3_isTurn 19 = .ok (.iconst 1, 1) := by decide +kernel
theorem dX3_isTurn_20 : decode cX3_isTurn 20 = .ok (.if_icmp .ne 28, 3) := by decide +kernel
theorem dX3_isTurn_23 : decode cX3_isTurn 23 = .ok (.aload_n 0, 1) := by decide +kernel
theorem dX3_isTurn_24 : decode cX3_isTurn 24 = .ok (.iload 5, 2) := by decide +kernel
theorem dX3_isTurn_26 : decode cX3_isTurn 26 = .ok (.iload_n 2, 1) := by decide +kernel
theorem dX3_isTurn_27 : decode cX3_isTurn 27 = .ok (.invokevirtual 81, 3) := by decide +kernel
theorem dX3_isTurn_30 : decode cX3_isTurn 30 = .ok (.ifCond .eq 18, 3) := by decide +kernel
theorem dX3_isTurn_33 : decode cX3_isTurn 33 = .ok (.aload_n 0, 1) := by decide +kernel
theorem dX3_isTurn_34 : decode cX3_isTurn 34 = .ok (.iload 5, 2) := by decide +kernel
theorem dX3_isTurn_36 : decode cX3_isTurn 36 = .ok (.iload_n 3, 1) := by decide +kernel
theorem dX3_isTurn_37 : decode cX3_isTurn 37 = .ok (.invokevirtual 81, 3) := by decide +kernel
theorem dX3_isTurn_40 : decode cX3_isTurn 40 = .ok (.ifCond .eq 8, 3) := by decide +kernel
theorem dX3_isTurn_43 : decode cX3_isTurn 43 = .ok (.iload 5, 2) := by decide +kernel
theorem dX3_isTurn_45 : decode cX3_isTurn 45 = .ok (.goto 5, 3) := by decide +kernel
theorem dX3_isTurn_48 : decode cX3_isTurn 48 = .ok (.iload 4, 2) := by decide +kernel
theorem dX3_isTurn_50 : decode cX3_isTurn 50 = .ok (.istore 4, 2) := by decide +kernel
theorem dX3_isTurn_52 : decode cX3_isTurn 52 = .ok (.iinc 5 1, 3) := by decide +kernel
theorem dX3_isTurn_55 : decode cX3_isTurn 55 = .ok (.goto (-49), 3) := by decide +kernel
theorem dX3_isTurn_58 : decode cX3_isTurn 58 = .ok (.iload 4, 2) := by decide +kernel
theorem dX3_isTurn_60 : decode cX3_isTurn 60 = .ok (.iconst (-1), 1) := by decide +kernel
theorem dX3_isTurn_61 : decode cX3_isTurn 61 = .ok (.if_icmp .eq 18, 3) := by decide +kernel
theorem dX3_isTurn_64 : decode cX3_isTurn 64 = .ok (.aload_n 0, 1) := by decide +kernel
theorem dX3_isTurn_65 : decode cX3_isTurn 65 = .ok (.getfield 13, 3) := by decide +kernel
theorem dX3_isTurn_68 : decode cX3_isTurn 68 = .ok (.iload 4, 2) := by decide +kernel
theorem dX3_isTurn_70 : decode cX3_isTurn 70 = .ok (.iaload, 1) := by decide +kernel
theorem dX3_isTurn_71 : decode cX3_isTurn 71 = .ok (.iload_n 3, 1) := by decide +kernel
theorem dX3_isTurn_72 : decode cX3_isTurn 72 = .ok (.if_icmp .ne 7, 3) := by decide +kernel
theorem dX3_isTurn_75 : decode cX3_isTurn 75 = .ok (.iconst 1, 1) := by decide +kernel
theorem dX3_isTurn_76 : decode cX3_isTurn 76 = .ok (.goto 4, 3) := by decide +kernel
theorem dX3_isTurn_79 : decode cX3_isTurn 79 = .ok (.iconst 0, 1) := by decide +kernel
theorem dX3_isTurn_80 : decode cX3_isTurn 80 = .ok (.ireturn, 1) := by decide +kernel
set_option maxRecDepth 20000 in
theorem ggX3_signOf_X3_price : GoodIn wsX3_signOf wsX3_price := goodIn_r _ [10, 3, 2, 19, 20, 21, 22, 23, 24, 25, 26, 27, 28, 29, 30, 31, 32, 33, 34, 35, 36, 37] (by decide +kernel) (by decide +kernel)
set_option maxRecDepth 20000 in
theorem gX3_signOf_X3_price : GoodIn wsX3_signOf (wsV RX3 92 RX3 yX3_price wsX3_price) := goodIn_app (goodIn_of _ (by decide +kernel)) ggX3_signOf_X3_price
set_option maxRecDepth 20000 in
theorem ggX3_signOf_X3_stands : GoodIn wsX3_signOf wsX3_stands := goodIn_r _ [14, 3, 5, 19, 20, 21, 22, 23, 24, 25, 26, 27, 28, 29, 30, 31, 32, 33, 34, 35, 36, 37] (by decide +kernel) (by decide +kernel)
set_option maxRecDepth 20000 in
theorem gX3_signOf_X3_stands : GoodIn wsX3_signOf (wsV RX3 81 RX3 yX3_stands wsX3_stands) := goodIn_app (goodIn_of _ (by decide +kernel)) ggX3_signOf_X3_stands
set_option maxRecDepth 20000 in
theorem ggX3_signOf_X3_isTurn : GoodIn wsX3_signOf wsX3_isTurn := goodIn_r _ [18, 1, 2, 11, 12, 13, 9, 14, 3, 5, 19, 20, 21, 22, 23, 24, 25, 26, 27, 28, 29, 30, 31, 32, 33, 34, 35, 36, 37] (by decide +kernel) (by decide +kernel)
set_option maxRecDepth 20000 in
theorem gX3_signOf_X3_isTurn : GoodIn wsX3_signOf (wsV RX3 98 RX3 yX3_isTurn wsX3_isTurn) := goodIn_app (goodIn_of _ (by decide +kernel)) ggX3_signOf_X3_isTurn
theorem dX3_signOf_0 : decode cX3_signOf 0 = .ok (.aload_n 0, 1) := by decide +kernel
theorem dX3_signOf_1 : decode cX3_signOf 1 = .ok (.getfield 7, 3) := by decide +kernel
theorem dX3_signOf_4 : decode cX3_signOf 4 = .ok (.iload_n 1, 1) := by decide +kernel
theorem dX3_signOf_5 : decode cX3_signOf 5 = .ok (.iaload, 1) := by decide +kernel
theorem dX3_signOf_6 : decode cX3_signOf 6 = .ok (.iconst 1, 1) := by decide +kernel
theorem dX3_signOf_7 : decode cX3_signOf 7 = .ok (.if_icmp .ne 23, 3) := by decide +kernel
theorem dX3_signOf_10 : decode cX3_signOf 10 = .ok (.aload_n 0, 1) := by decide +kernel
theorem dX3_signOf_11 : decode cX3_signOf 11 = .ok (.getfield 13, 3) := by decide +kernel
theorem dX3_signOf_14 : decode cX3_signOf 14 = .ok (.iload_n 1, 1) := by decide +kernel
theorem dX3_signOf_15 : decode cX3_signOf 15 = .ok (.iaload, 1) := by decide +kernel
theorem dX3_signOf_16 : decode cX3_signOf 16 = .ok (.iload_n 2, 1) := by decide +kernel
theorem dX3_signOf_17 : decode cX3_signOf 17 = .ok (.if_icmp .eq 15, 3) := by decide +kernel
theorem dX3_signOf_20 : decode cX3_signOf 20 = .ok (.aload_n 0, 1) := by decide +kernel
theorem dX3_signOf_21 : decode cX3_signOf 21 = .ok (.getfield 13, 3) := by decide +kernel
theorem dX3_signOf_24 : decode cX3_signOf 24 = .ok (.iload_n 1, 1) := by decide +kernel
theorem dX3_signOf_25 : decode cX3_signOf 25 = .ok (.iaload, 1) := by decide +kernel
theorem dX3_signOf_26 : decode cX3_signOf 26 = .ok (.iload_n 3, 1) := by decide +kernel
theorem dX3_signOf_27 : decode cX3_signOf 27 = .ok (.if_icmp .eq 5, 3) := by decide +kernel
theorem dX3_signOf_30 : decode cX3_signOf 30 = .ok (.iconst 0, 1) := by decide +kernel
theorem dX3_signOf_31 : decode cX3_signOf 31 = .ok (.ireturn, 1) := by decide +kernel
theorem dX3_signOf_32 : decode cX3_signOf 32 = .ok (.aload_n 0, 1) := by decide +kernel
theorem dX3_signOf_33 : decode cX3_signOf 33 = .ok (.getfield 13, 3) := by decide +kernel
theorem dX3_signOf_36 : decode cX3_signOf 36 = .ok (.iload_n 1, 1) := by decide +kernel
theorem dX3_signOf_37 : decode cX3_signOf 37 = .ok (.iaload, 1) := by decide +kernel
theorem dX3_signOf_38 : decode cX3_signOf 38 = .ok (.istore 4, 2) := by decide +kernel
theorem dX3_signOf_40 : decode cX3_signOf 40 = .ok (.iload 4, 2) := by decide +kernel
theorem dX3_signOf_42 : decode cX3_signOf 42 = .ok (.iload_n 2, 1) := by decide +kernel
theorem dX3_signOf_43 : decode cX3_signOf 43 = .ok (.if_icmp .ne 7, 3) := by decide +kernel
theorem dX3_signOf_46 : decode cX3_signOf 46 = .ok (.iload_n 3, 1) := by decide +kernel
theorem dX3_signOf_47 : decode cX3_signOf 47 = .ok (.goto 4, 3) := by decide +kernel
theorem dX3_signOf_50 : decode cX3_signOf 50 = .ok (.iload_n 2, 1) := by decide +kernel
theorem dX3_signOf_51 : decode cX3_signOf 51 = .ok (.istore 5, 2) := by decide +kernel
theorem dX3_signOf_53 : decode cX3_signOf 53 = .ok (.bipush 7, 2) := by decide +kernel
theorem dX3_signOf_55 : decode cX3_signOf 55 = .ok (.iload_n 1, 1) := by decide +kernel
theorem dX3_signOf_56 : decode cX3_signOf 56 = .ok (.imul, 1) := by decide +kernel
theorem dX3_signOf_57 : decode cX3_signOf 57 = .ok (.iload 5, 2) := by decide +kernel
theorem dX3_signOf_59 : decode cX3_signOf 59 = .ok (.iadd, 1) := by decide +kernel
theorem dX3_signOf_60 : decode cX3_signOf 60 = .ok (.istore 6, 2) := by decide +kernel
theorem dX3_signOf_62 : decode cX3_signOf 62 = .ok (.aload_n 0, 1) := by decide +kernel
theorem dX3_signOf_63 : decode cX3_signOf 63 = .ok (.getfield 22, 3) := by decide +kernel
theorem dX3_signOf_66 : decode cX3_signOf 66 = .ok (.iload 6, 2) := by decide +kernel
theorem dX3_signOf_68 : decode cX3_signOf 68 = .ok (.iaload, 1) := by decide +kernel
theorem dX3_signOf_69 : decode cX3_signOf 69 = .ok (.aload_n 0, 1) := by decide +kernel
theorem dX3_signOf_70 : decode cX3_signOf 70 = .ok (.iload_n 1, 1) := by decide +kernel
theorem dX3_signOf_71 : decode cX3_signOf 71 = .ok (.invokevirtual 92, 3) := by decide +kernel
theorem dX3_signOf_74 : decode cX3_signOf 74 = .ok (.isub, 1) := by decide +kernel
theorem dX3_signOf_75 : decode cX3_signOf 75 = .ok (.istore 7, 2) := by decide +kernel
theorem dX3_signOf_77 : decode cX3_signOf 77 = .ok (.aload_n 0, 1) := by decide +kernel
theorem dX3_signOf_78 : decode cX3_signOf 78 = .ok (.iload_n 1, 1) := by decide +kernel
theorem dX3_signOf_79 : decode cX3_signOf 79 = .ok (.iload 5, 2) := by decide +kernel
theorem dX3_signOf_81 : decode cX3_signOf 81 = .ok (.invokevirtual 81, 3) := by decide +kernel
theorem dX3_signOf_84 : decode cX3_signOf 84 = .ok (.istore 8, 2) := by decide +kernel
theorem dX3_signOf_86 : decode cX3_signOf 86 = .ok (.iload 8, 2) := by decide +kernel
theorem dX3_signOf_88 : decode cX3_signOf 88 = .ok (.ifCond .eq 27, 3) := by decide +kernel
theorem dX3_signOf_91 : decode cX3_signOf 91 = .ok (.iload 7, 2) := by decide +kernel
theorem dX3_signOf_93 : decode cX3_signOf 93 = .ok (.ifCond .le 22, 3) := by decide +kernel
theorem dX3_signOf_96 : decode cX3_signOf 96 = .ok (.iload 7, 2) := by decide +kernel
theorem dX3_signOf_98 : decode cX3_signOf 98 = .ok (.aload_n 0, 1) := by decide +kernel
theorem dX3_signOf_99 : decode cX3_signOf 99 = .ok (.iload_n 1, 1) := by decide +kernel
theorem dX3_signOf_100 : decode cX3_signOf 100 = .ok (.invokevirtual 92, 3) := by decide +kernel
theorem dX3_signOf_103 : decode cX3_signOf 103 = .ok (.iconst 5, 1) := by decide +kernel
theorem dX3_signOf_104 : decode cX3_signOf 104 = .ok (.imul, 1) := by decide +kernel
theorem dX3_signOf_105 : decode cX3_signOf 105 = .ok (.bipush 100, 2) := by decide +kernel
theorem dX3_signOf_107 : decode cX3_signOf 107 = .ok (.idiv, 1) := by decide +kernel
theorem dX3_signOf_108 : decode cX3_signOf 108 = .ok (.if_icmp .gt 7, 3) := by decide +kernel
theorem dX3_signOf_111 : decode cX3_signOf 111 = .ok (.iconst 2, 1) := by decide +kernel
theorem dX3_signOf_112 : decode cX3_signOf 112 = .ok (.goto 4, 3) := by decide +kernel
theorem dX3_signOf_115 : decode cX3_signOf 115 = .ok (.iconst 0, 1) := by decide +kernel
theorem dX3_signOf_116 : decode cX3_signOf 116 = .ok (.istore 9, 2) := by decide +kernel
theorem dX3_signOf_118 : decode cX3_signOf 118 = .ok (.iload 9, 2) := by decide +kernel
theorem dX3_signOf_120 : decode cX3_signOf 120 = .ok (.aload_n 0, 1) := by decide +kernel
theorem dX3_signOf_121 : decode cX3_signOf 121 = .ok (.getfield 16, 3) := by decide +kernel
theorem dX3_signOf_124 : decode cX3_signOf 124 = .ok (.iload_n 1, 1) := by decide +kernel
theorem dX3_signOf_125 : decode cX3_signOf 125 = .ok (.iaload, 1) := by decide +kernel
theorem dX3_signOf_126 : decode cX3_signOf 126 = .ok (.iload 5, 2) := by decide +kernel
theorem dX3_signOf_128 : decode cX3_signOf 128 = .ok (.if_icmp .ne 17, 3) := by decide +kernel
theorem dX3_signOf_131 : decode cX3_signOf 131 = .ok (.aload_n 0, 1) := by decide +kernel
theorem dX3_signOf_132 : decode cX3_signOf 132 = .ok (.getfield 22, 3) := by decide +kernel
theorem dX3_signOf_135 : decode cX3_signOf 135 = .ok (.iload 6, 2) := by decide +kernel
theorem dX3_signOf_137 : decode cX3_signOf 137 = .ok (.iaload, 1) := by decide +kernel
theorem dX3_signOf_138 : decode cX3_signOf 138 = .ok (.ifCond .le 7, 3) := by decide +kernel
theorem dX3_signOf_141 : decode cX3_signOf 141 = .ok (.iconst 3, 1) := by decide +kernel
theorem dX3_signOf_142 : decode cX3_signOf 142 = .ok (.goto 4, 3) := by decide +kernel
theorem dX3_signOf_145 : decode cX3_signOf 145 = .ok (.iconst 0, 1) := by decide +kernel
theorem dX3_signOf_146 : decode cX3_signOf 146 = .ok (.iadd, 1) := by decide +kernel
theorem dX3_signOf_147 : decode cX3_signOf 147 = .ok (.istore 9, 2) := by decide +kernel
theorem dX3_signOf_149 : decode cX3_signOf 149 = .ok (.iload 9, 2) := by decide +kernel
theorem dX3_signOf_151 : decode cX3_signOf 151 = .ok (.aload_n 0, 1) := by decide +kernel
theorem dX3_signOf_152 : decode cX3_signOf 152 = .ok (.getfield 25, 3) := by decide +kernel
theorem dX3_signOf_155 : decode cX3_signOf 155 = .ok (.iload 6, 2) := by decide +kernel
theorem dX3_signOf_157 : decode cX3_signOf 157 = .ok (.baload, 1) := by decide +kernel
theorem dX3_signOf_158 : decode cX3_signOf 158 = .ok (.ifCond .eq 7, 3) := by decide +kernel
theorem dX3_signOf_161 : decode cX3_signOf 161 = .ok (.iconst 1, 1) := by decide +kernel
theorem dX3_signOf_162 : decode cX3_signOf 162 = .ok (.goto 4, 3) := by decide +kernel
theorem dX3_signOf_165 : decode cX3_signOf 165 = .ok (.iconst 0, 1) := by decide +kernel
theorem dX3_signOf_166 : decode cX3_signOf 166 = .ok (.iadd, 1) := by decide +kernel
theorem dX3_signOf_167 : decode cX3_signOf 167 = .ok (.istore 9, 2) := by decide +kernel
theorem dX3_signOf_169 : decode cX3_signOf 169 = .ok (.iload 9, 2) := by decide +kernel
theorem dX3_signOf_171 : decode cX3_signOf 171 = .ok (.iload 8, 2) := by decide +kernel
theorem dX3_signOf_173 : decode cX3_signOf 173 = .ok (.ifCond .eq 19, 3) := by decide +kernel
theorem dX3_signOf_176 : decode cX3_signOf 176 = .ok (.aload_n 0, 1) := by decide +kernel
theorem dX3_signOf_177 : decode cX3_signOf 177 = .ok (.iload_n 1, 1) := by decide +kernel
theorem dX3_signOf_178 : decode cX3_signOf 178 = .ok (.iload 4, 2) := by decide +kernel
theorem dX3_signOf_180 : decode cX3_signOf 180 = .ok (.iload 5, 2) := by decide +kernel
theorem dX3_signOf_182 : decode cX3_signOf 182 = .ok (.invokevirtual 98, 3) := by decide +kernel
theorem dX3_signOf_185 : decode cX3_signOf 185 = .ok (.ifCond .eq 7, 3) := by decide +kernel
theorem dX3_signOf_188 : decode cX3_signOf 188 = .ok (.iconst 4, 1) := by decide +kernel
theorem dX3_signOf_189 : decode cX3_signOf 189 = .ok (.goto 4, 3) := by decide +kernel
theorem dX3_signOf_192 : decode cX3_signOf 192 = .ok (.iconst 0, 1) := by decide +kernel
theorem dX3_signOf_193 : decode cX3_signOf 193 = .ok (.iadd, 1) := by decide +kernel
theorem dX3_signOf_194 : decode cX3_signOf 194 = .ok (.istore 9, 2) := by decide +kernel
theorem dX3_signOf_196 : decode cX3_signOf 196 = .ok (.iload 9, 2) := by decide +kernel
theorem dX3_signOf_198 : decode cX3_signOf 198 = .ok (.ireturn, 1) := by decide +kernel
set_option maxRecDepth 20000 in
theorem ggX3_suspicionOf_X3_signOf : GoodIn wsX3_suspicionOf wsX3_signOf := goodIn_r _ [6, 7, 8, 9, 10, 11, 12, 13, 14, 5, 15, 16, 17, 18, 19, 20, 21, 22, 23, 24, 25, 26, 27, 28, 29, 30, 31, 32, 33, 34, 35, 36, 37, 38, 39, 40, 41, 42] (by decide +kernel) (by decide +kernel)
set_option maxRecDepth 20000 in
theorem gX3_suspicionOf_X3_signOf : GoodIn wsX3_suspicionOf (wsV RX3 101 RX3 yX3_signOf wsX3_signOf) := goodIn_app (goodIn_of _ (by decide +kernel)) ggX3_suspicionOf_X3_signOf
theorem dX3_suspicionOf_0 : decode cX3_suspicionOf 0 = .ok (.iconst 0, 1) := by decide +kernel
theorem dX3_suspicionOf_1 : decode cX3_suspicionOf 1 = .ok (.istore_n 3, 1) := by decide +kernel
theorem dX3_suspicionOf_2 : decode cX3_suspicionOf 2 = .ok (.iconst 0, 1) := by decide +kernel
theorem dX3_suspicionOf_3 : decode cX3_suspicionOf 3 = .ok (.istore 4, 2) := by decide +kernel
theorem dX3_suspicionOf_5 : decode cX3_suspicionOf 5 = .ok (.iload 4, 2) := by decide +kernel
theorem dX3_suspicionOf_7 : decode cX3_suspicionOf 7 = .ok (.aload_n 0, 1) := by decide +kernel
theorem dX3_suspicionOf_8 : decode cX3_suspicionOf 8 = .ok (.getfield 67, 3) := by decide +kernel
theorem dX3_suspicionOf_11 : decode cX3_suspicionOf 11 = .ok (.if_icmp .ge 20, 3) := by decide +kernel
theorem dX3_suspicionOf_14 : decode cX3_suspicionOf 14 = .ok (.iload_n 3, 1) := by decide +kernel
theorem dX3_suspicionOf_15 : decode cX3_suspicionOf 15 = .ok (.aload_n 0, 1) := by decide +kernel
theorem dX3_suspicionOf_16 : decode cX3_suspicionOf 16 = .ok (.iload 4, 2) := by decide +kernel
theorem dX3_suspicionOf_18 : decode cX3_suspicionOf 18 = .ok (.iload_n 1, 1) := by decide +kernel
theorem dX3_suspicionOf_19 : decode cX3_suspicionOf 19 = .ok (.iload_n 2, 1) := by decide +kernel
theorem dX3_suspicionOf_20 : decode cX3_suspicionOf 20 = .ok (.invokevirtual 101, 3) := by decide +kernel
theorem dX3_suspicionOf_23 : decode cX3_suspicionOf 23 = .ok (.iadd, 1) := by decide +kernel
theorem dX3_suspicionOf_24 : decode cX3_suspicionOf 24 = .ok (.istore_n 3, 1) := by decide +kernel
theorem dX3_suspicionOf_25 : decode cX3_suspicionOf 25 = .ok (.iinc 4 1, 3) := by decide +kernel
theorem dX3_suspicionOf_28 : decode cX3_suspicionOf 28 = .ok (.goto (-23), 3) := by decide +kernel
theorem dX3_suspicionOf_31 : decode cX3_suspicionOf 31 = .ok (.iload_n 3, 1) := by decide +kernel
theorem dX3_suspicionOf_32 : decode cX3_suspicionOf 32 = .ok (.ireturn, 1) := by decide +kernel
set_option maxRecDepth 20000 in
theorem ggX3_suspicion_X3_isPair : GoodIn wsX3_suspicion wsX3_isPair := goodIn_r _ [5, 6, 7, 4, 8, 9, 10, 11] (by decide +kernel) (by decide +kernel)
set_option maxRecDepth 20000 in
theorem gX3_suspicion_X3_isPair : GoodIn wsX3_suspicion (va_wsS RX3 105 yX3_isPair wsX3_isPair) := goodIn_app (goodIn_of _ (by decide +kernel)) ggX3_suspicion_X3_isPair
set_option maxRecDepth 20000 in
theorem ggX3_suspicion_X3_suspicionOf : GoodIn wsX3_suspicion wsX3_suspicionOf := goodIn_r _ [15, 16, 17, 18, 19, 4, 20, 21, 22, 23, 24, 25, 26, 27, 28, 29, 30, 31, 32, 33, 34, 35, 36, 37, 42, 43, 44, 45, 46, 47, 48, 49, 50, 51, 52, 53, 54, 55, 56, 57, 58, 59, 60] (by decide +kernel) (by decide +kernel)
set_option maxRecDepth 20000 in
theorem gX3_suspicion_X3_suspicionOf : GoodIn wsX3_suspicion (wsV RX3 108 RX3 yX3_suspicionOf wsX3_suspicionOf) := goodIn_app (goodIn_of _ (by decide +kernel)) ggX3_suspicion_X3_suspicionOf
set_option maxRecDepth 20000 in
theorem ggX3_suspicion_X3_fails : GoodIn wsX3_suspicion wsX3_fails := goodIn_r _ [41, 1, 42, 43, 44, 45, 46, 47, 48, 49, 50, 51, 52, 53, 54, 55, 56, 57, 58, 59, 60] (by decide +kernel) (by decide +kernel)
set_option maxRecDepth 20000 in
theorem gX3_suspicion_X3_fails : GoodIn wsX3_suspicion (wsV RX3 77 RX3 yX3_fails wsX3_fails) := goodIn_app (goodIn_of _ (by decide +kernel)) ggX3_suspicion_X3_fails
theorem dX3_suspicion_0 : decode cX3_suspicion 0 = .ok (.aload_n 0, 1) := by decide +kernel
theorem dX3_suspicion_1 : decode cX3_suspicion 1 = .ok (.iconst 0, 1) := by decide +kernel
theorem dX3_suspicion_2 : decode cX3_suspicion 2 = .ok (.putfield 60, 3) := by decide +kernel
theorem dX3_suspicion_5 : decode cX3_suspicion 5 = .ok (.iload_n 1, 1) := by decide +kernel
theorem dX3_suspicion_6 : decode cX3_suspicion 6 = .ok (.iload_n 2, 1) := by decide +kernel
theorem dX3_suspicion_7 : decode cX3_suspicion 7 = .ok (.invokestatic 105, 3) := by decide +kernel
theorem dX3_suspicion_10 : decode cX3_suspicion 10 = .ok (.ifCond .eq 12, 3) := by decide +kernel
theorem dX3_suspicion_13 : decode cX3_suspicion 13 = .ok (.aload_n 0, 1) := by decide +kernel
theorem dX3_suspicion_14 : decode cX3_suspicion 14 = .ok (.iload_n 1, 1) := by decide +kernel
theorem dX3_suspicion_15 : decode cX3_suspicion 15 = .ok (.iload_n 2, 1) := by decide +kernel
theorem dX3_suspicion_16 : decode cX3_suspicion 16 = .ok (.invokevirtual 108, 3) := by decide +kernel
theorem dX3_suspicion_19 : decode cX3_suspicion 19 = .ok (.goto 8, 3) := by decide +kernel
theorem dX3_suspicion_22 : decode cX3_suspicion 22 = .ok (.aload_n 0, 1) := by decide +kernel
theorem dX3_suspicion_23 : decode cX3_suspicion 23 = .ok (.iconst 1, 1) := by decide +kernel
theorem dX3_suspicion_24 : decode cX3_suspicion 24 = .ok (.invokevirtual 77, 3) := by decide +kernel
theorem dX3_suspicion_27 : decode cX3_suspicion 27 = .ok (.ireturn, 1) := by decide +kernel
set_option maxRecDepth 20000 in
theorem ggX3_sign_X3_isTender : GoodIn wsX3_sign wsX3_isTender := goodIn_r _ [6, 7, 8, 9, 5, 10, 42, 43, 44, 45, 46, 47, 48, 49, 50, 51, 52, 53, 54, 55, 56, 57, 58, 59, 60] (by decide +kernel) (by decide +kernel)
set_option maxRecDepth 20000 in
theorem gX3_sign_X3_isTender : GoodIn wsX3_sign (wsV RX3 85 RX3 yX3_isTender wsX3_isTender) := goodIn_app (goodIn_of _ (by decide +kernel)) ggX3_sign_X3_isTender
set_option maxRecDepth 20000 in
theorem ggX3_sign_X3_fails : GoodIn wsX3_sign wsX3_fails := goodIn_r _ [14, 1, 42, 43, 44, 45, 46, 47, 48, 49, 50, 51, 52, 53, 54, 55, 56, 57, 58, 59, 60] (by decide +kernel) (by decide +kernel)
set_option maxRecDepth 20000 in
theorem gX3_sign_X3_fails : GoodIn wsX3_sign (wsV RX3 77 RX3 yX3_fails wsX3_fails) := goodIn_app (goodIn_of _ (by decide +kernel)) ggX3_sign_X3_fails
set_option maxRecDepth 20000 in
theorem ggX3_sign_X3_isPair : GoodIn wsX3_sign wsX3_isPair := goodIn_r _ [17, 18, 19, 5, 20, 8, 9, 10] (by decide +kernel) (by decide +kernel)
set_option maxRecDepth 20000 in
theorem gX3_sign_X3_isPair : GoodIn wsX3_sign (va_wsS RX3 105 yX3_isPair wsX3_isPair) := goodIn_app (goodIn_of _ (by decide +kernel)) ggX3_sign_X3_isPair
set_option maxRecDepth 20000 in
theorem ggX3_sign_X3_signOf : GoodIn wsX3_sign wsX3_signOf := goodIn_r _ [24, 25, 26, 27, 28, 29, 30, 31, 32, 5, 33, 34, 35, 36, 37, 38, 39, 40, 41, 42, 43, 44, 45, 46, 47, 48, 49, 50, 51, 52, 53, 54, 55, 56, 57, 58, 59, 60] (by decide +kernel) (by decide +kernel)
set_option maxRecDepth 20000 in
theorem gX3_sign_X3_signOf : GoodIn wsX3_sign (wsV RX3 101 RX3 yX3_signOf wsX3_signOf) := goodIn_app (goodIn_of _ (by decide +kernel)) ggX3_sign_X3_signOf
theorem dX3_sign_0 : decode cX3_sign 0 = .ok (.aload_n 0, 1) := by decide +kernel
theorem dX3_sign_1 : decode cX3_sign 1 = .ok (.iconst 0, 1) := by decide +kernel
theorem dX3_sign_2 : decode cX3_sign 2 = .ok (.putfield 60, 3) := by decide +kernel
theorem dX3_sign_5 : decode cX3_sign 5 = .ok (.aload_n 0, 1) := by decide +kernel
theorem dX3_sign_6 : decode cX3_sign 6 = .ok (.iload_n 1, 1) := by decide +kernel
theorem dX3_sign_7 : decode cX3_sign 7 = .ok (.invokevirtual 85, 3) := by decide +kernel
theorem dX3_sign_10 : decode cX3_sign 10 = .ok (.ifCond .ne 9, 3) := by decide +kernel
theorem dX3_sign_13 : decode cX3_sign 13 = .ok (.aload_n 0, 1) := by decide +kernel
theorem dX3_sign_14 : decode cX3_sign 14 = .ok (.iconst 1, 1) := by decide +kernel
theorem dX3_sign_15 : decode cX3_sign 15 = .ok (.invokevirtual 77, 3) := by decide +kernel
theorem dX3_sign_18 : decode cX3_sign 18 = .ok (.ireturn, 1) := by decide +kernel
theorem dX3_sign_19 : decode cX3_sign 19 = .ok (.iload_n 2, 1) := by decide +kernel
theorem dX3_sign_20 : decode cX3_sign 20 = .ok (.iload_n 3, 1) := by decide +kernel
theorem dX3_sign_21 : decode cX3_sign 21 = .ok (.invokestatic 105, 3) := by decide +kernel
theorem dX3_sign_24 : decode cX3_sign 24 = .ok (.ifCond .eq 13, 3) := by decide +kernel
theorem dX3_sign_27 : decode cX3_sign 27 = .ok (.aload_n 0, 1) := by decide +kernel
theorem dX3_sign_28 : decode cX3_sign 28 = .ok (.iload_n 1, 1) := by decide +kernel
theorem dX3_sign_29 : decode cX3_sign 29 = .ok (.iload_n 2, 1) := by decide +kernel
theorem dX3_sign_30 : decode cX3_sign 30 = .ok (.iload_n 3, 1) := by decide +kernel
theorem dX3_sign_31 : decode cX3_sign 31 = .ok (.invokevirtual 101, 3) := by decide +kernel
theorem dX3_sign_34 : decode cX3_sign 34 = .ok (.goto 8, 3) := by decide +kernel
theorem dX3_sign_37 : decode cX3_sign 37 = .ok (.aload_n 0, 1) := by decide +kernel
theorem dX3_sign_38 : decode cX3_sign 38 = .ok (.iconst 2, 1) := by decide +kernel
theorem dX3_sign_39 : decode cX3_sign 39 = .ok (.invokevirtual 77, 3) := by decide +kernel
theorem dX3_sign_42 : decode cX3_sign 42 = .ok (.ireturn, 1) := by decide +kernel
set_option maxRecDepth 20000 in
theorem ggX3_setMark_X3_in : GoodIn wsX3_setMark wsX3_in := goodIn_r _ [6] (by decide +kernel) (by decide +kernel)
set_option maxRecDepth 20000 in
theorem gX3_setMark_X3_in : GoodIn wsX3_setMark (va_wsS RX3 63 yX3_in wsX3_in) := goodIn_app (goodIn_of _ (by decide +kernel)) ggX3_setMark_X3_in
set_option maxRecDepth 20000 in
theorem ggX3_setMark_X3_fails : GoodIn wsX3_setMark wsX3_fails := goodIn_r _ [10, 1, 11, 12, 13, 14, 15, 16, 17, 18, 19, 20, 21, 22, 23, 24, 25, 26, 27, 28, 29] (by decide +kernel) (by decide +kernel)
set_option maxRecDepth 20000 in
theorem gX3_setMark_X3_fails : GoodIn wsX3_setMark (wsV RX3 77 RX3 yX3_fails wsX3_fails) := goodIn_app (goodIn_of _ (by decide +kernel)) ggX3_setMark_X3_fails
theorem dX3_setMark_0 : decode cX3_setMark 0 = .ok (.aload_n 0, 1) := by decide +kernel
theorem dX3_setMark_1 : decode cX3_setMark 1 = .ok (.iconst 0, 1) := by decide +kernel
theorem dX3_setMark_2 : decode cX3_setMark 2 = .ok (.putfield 60, 3) := by decide +kernel
theorem dX3_setMark_5 : decode cX3_setMark 5 = .ok (.iload_n 1, 1) := by decide +kernel
theorem dX3_setMark_6 : decode cX3_setMark 6 = .ok (.iconst 1, 1) := by decide +kernel
theorem dX3_setMark_7 : decode cX3_setMark 7 = .ok (.sipush 1000, 3) := by decide +kernel
theorem dX3_setMark_10 : decode cX3_setMark 10 = .ok (.invokestatic 63, 3) := by decide +kernel
theorem dX3_setMark_13 : decode cX3_setMark 13 = .ok (.ifCond .ne 9, 3) := by decide +kernel
theorem dX3_setMark_16 : decode cX3_setMark 16 = .ok (.aload_n 0, 1) := by decide +kernel
theorem dX3_setMark_17 : decode cX3_setMark 17 = .ok (.iconst 1, 1) := by decide +kernel
theorem dX3_setMark_18 : decode cX3_setMark 18 = .ok (.invokevirtual 77, 3) := by decide +kernel
theorem dX3_setMark_21 : decode cX3_setMark 21 = .ok (.ireturn, 1) := by decide +kernel
theorem dX3_setMark_22 : decode cX3_setMark 22 = .ok (.aload_n 0, 1) := by decide +kernel
theorem dX3_setMark_23 : decode cX3_setMark 23 = .ok (.getfield 29, 3) := by decide +kernel
theorem dX3_setMark_26 : decode cX3_setMark 26 = .ok (.istore_n 2, 1) := by decide +kernel
theorem dX3_setMark_27 : decode cX3_setMark 27 = .ok (.aload_n 0, 1) := by decide +kernel
theorem dX3_setMark_28 : decode cX3_setMark 28 = .ok (.iload_n 1, 1) := by decide +kernel
theorem dX3_setMark_29 : decode cX3_setMark 29 = .ok (.putfield 29, 3) := by decide +kernel
theorem dX3_setMark_32 : decode cX3_setMark 32 = .ok (.iload_n 2, 1) := by decide +kernel
theorem dX3_setMark_33 : decode cX3_setMark 33 = .ok (.ireturn, 1) := by decide +kernel
set_option maxRecDepth 20000 in
theorem ggX3_worst_X3_suspicionOf : GoodIn wsX3_worst wsX3_suspicionOf := goodIn_r _ [6, 7, 8, 9, 10, 5, 11, 12, 13, 14, 15, 16, 17, 18, 19, 20, 21, 22, 23, 24, 25, 26, 27, 28, 29, 30, 31, 32, 33, 34, 35, 36, 37, 38, 39, 40, 41, 42, 43, 44, 45, 46, 47] (by decide +kernel) (by decide +kernel)
set_option maxRecDepth 20000 in
theorem gX3_worst_X3_suspicionOf : GoodIn wsX3_worst (wsV RX3 108 RX3 yX3_suspicionOf wsX3_suspicionOf) := goodIn_app (goodIn_of _ (by decide +kernel)) ggX3_worst_X3_suspicionOf
theorem dX3_worst_0 : decode cX3_worst 0 = .ok (.aload_n 0, 1) := by decide +kernel
theorem dX3_worst_1 : decode cX3_worst 1 = .ok (.iconst 0, 1) := by decide +kernel
theorem dX3_worst_2 : decode cX3_worst 2 = .ok (.putfield 60, 3) := by decide +kernel
theorem dX3_worst_5 : decode cX3_worst 5 = .ok (.iconst (-1), 1) := by decide +kernel
theorem dX3_worst_6 : decode cX3_worst 6 = .ok (.istore_n 1, 1) := by decide +kernel
theorem dX3_worst_7 : decode cX3_worst 7 = .ok (.iconst 0, 1) := by decide +kernel
theorem dX3_worst_8 : decode cX3_worst 8 = .ok (.istore_n 2, 1) := by decide +kernel
theorem dX3_worst_9 : decode cX3_worst 9 = .ok (.iconst 0, 1) := by decide +kernel
theorem dX3_worst_10 : decode cX3_worst 10 = .ok (.istore_n 3, 1) := by decide +kernel
theorem dX3_worst_11 : decode cX3_worst 11 = .ok (.iload_n 3, 1) := by decide +kernel
theorem dX3_worst_12 : decode cX3_worst 12 = .ok (.bipush 7, 2) := by decide +kernel
theorem dX3_worst_14 : decode cX3_worst 14 = .ok (.if_icmp .ge 67, 3) := by decide +kernel
theorem dX3_worst_17 : decode cX3_worst 17 = .ok (.iload_n 3, 1) := by decide +kernel
theorem dX3_worst_18 : decode cX3_worst 18 = .ok (.iconst 1, 1) := by decide +kernel
theorem dX3_worst_19 : decode cX3_worst 19 = .ok (.iadd, 1) := by decide +kernel
theorem dX3_worst_20 : decode cX3_worst 20 = .ok (.istore 4, 2) := by decide +kernel
theorem dX3_worst_22 : decode cX3_worst 22 = .ok (.iload 4, 2) := by decide +kernel
theorem dX3_worst_24 : decode cX3_worst 24 = .ok (.bipush 7, 2) := by decide +kernel
theorem dX3_worst_26 : decode cX3_worst 26 = .ok (.if_icmp .ge 49, 3) := by decide +kernel
theorem dX3_worst_29 : decode cX3_worst 29 = .ok (.aload_n 0, 1) := by decide +kernel
theorem dX3_worst_30 : decode cX3_worst 30 = .ok (.iload_n 3, 1) := by decide +kernel
theorem dX3_worst_31 : decode cX3_worst 31 = .ok (.iload 4, 2) := by decide +kernel
theorem dX3_worst_33 : decode cX3_worst 33 = .ok (.invokevirtual 108, 3) := by decide +kernel
theorem dX3_worst_36 : decode cX3_worst 36 = .ok (.istore 5, 2) := by decide +kernel
theorem dX3_worst_38 : decode cX3_worst 38 = .ok (.iload 5, 2) := by decide +kernel
theorem dX3_worst_40 : decode cX3_worst 40 = .ok (.iload_n 2, 1) := by decide +kernel
theorem dX3_worst_41 : decode cX3_worst 41 = .ok (.if_icmp .le 13, 3) := by decide +kernel
theorem dX3_worst_44 : decode cX3_worst 44 = .ok (.bipush 10, 2) := by decide +kernel
theorem dX3_worst_46 : decode cX3_worst 46 = .ok (.iload_n 3, 1) := by decide +kernel
theorem dX3_worst_47 : decode cX3_worst 47 = .ok (.imul, 1) := by decide +kernel
theorem dX3_worst_48 : decode cX3_worst 48 = .ok (.iload 4, 2) := by decide +kernel
theorem dX3_worst_50 : decode cX3_worst 50 = .ok (.iadd, 1) := by decide +kernel
theorem dX3_worst_51 : decode cX3_worst 51 = .ok (.goto 4, 3) := by decide +kernel
theorem dX3_worst_54 : decode cX3_worst 54 = .ok (.iload_n 1, 1) := by decide +kernel
theorem dX3_worst_55 : decode cX3_worst 55 = .ok (.istore_n 1, 1) := by decide +kernel
theorem dX3_worst_56 : decode cX3_worst 56 = .ok (.iload 5, 2) := by decide +kernel
theorem dX3_worst_58 : decode cX3_worst 58 = .ok (.iload_n 2, 1) := by decide +kernel
theorem dX3_worst_59 : decode cX3_worst 59 = .ok (.if_icmp .le 8, 3) := by decide +kernel
theorem dX3_worst_62 : decode cX3_worst 62 = .ok (.iload 5, 2) := by decide +kernel
theorem dX3_worst_64 : decode cX3_worst 64 = .ok (.goto 4, 3) := by decide +kernel
theorem dX3_worst_67 : decode cX3_worst 67 = .ok (.iload_n 2, 1) := by decide +kernel
theorem dX3_worst_68 : decode cX3_worst 68 = .ok (.istore_n 2, 1) := by decide +kernel
theorem dX3_worst_69 : decode cX3_worst 69 = .ok (.iinc 4 1, 3) := by decide +kernel
theorem dX3_worst_72 : decode cX3_worst 72 = .ok (.goto (-50), 3) := by decide +kernel
theorem dX3_worst_75 : decode cX3_worst 75 = .ok (.iinc 3 1, 3) := by decide +kernel
theorem dX3_worst_78 : decode cX3_worst 78 = .ok (.goto (-67), 3) := by decide +kernel
theorem dX3_worst_81 : decode cX3_worst 81 = .ok (.iload_n 1, 1) := by decide +kernel
theorem dX3_worst_82 : decode cX3_worst 82 = .ok (.ireturn, 1) := by decide +kernel
set_option maxRecDepth 20000 in
theorem ggX3_file_X3_isPair : GoodIn wsX3_file wsX3_isPair := goodIn_r _ [12, 13, 14, 11, 15, 16, 17, 18] (by decide +kernel) (by decide +kernel)
set_option maxRecDepth 20000 in
theorem gX3_file_X3_isPair : GoodIn wsX3_file (va_wsS RX3 105 yX3_isPair wsX3_isPair) := goodIn_app (goodIn_of _ (by decide +kernel)) ggX3_file_X3_isPair
set_option maxRecDepth 20000 in
theorem ggX3_file_X3_fails : GoodIn wsX3_file wsX3_fails := goodIn_r _ [22, 1, 48, 49, 50, 51, 52, 53, 54, 55, 56, 57, 58, 59, 60, 61, 62, 63, 64, 65, 66] (by decide +kernel) (by decide +kernel)
set_option maxRecDepth 20000 in
theorem gX3_file_X3_fails : GoodIn wsX3_file (wsV RX3 77 RX3 yX3_fails wsX3_fails) := goodIn_app (goodIn_of _ (by decide +kernel)) ggX3_file_X3_fails
set_option maxRecDepth 20000 in
theorem ggX3_file_X3_suspicionOf : GoodIn wsX3_file wsX3_suspicionOf := goodIn_r _ [26, 7, 27, 28, 29, 11, 30, 31, 32, 33, 34, 35, 36, 37, 38, 39, 40, 41, 42, 43, 44, 45, 46, 47, 48, 49, 50, 51, 52, 53, 54, 55, 56, 57, 58, 59, 60, 61, 62, 63, 64, 65, 66] (by decide +kernel) (by decide +kernel)
set_option maxRecDepth 20000 in
theorem gX3_file_X3_suspicionOf : GoodIn wsX3_file (wsV RX3 108 RX3 yX3_suspicionOf wsX3_suspicionOf) := goodIn_app (goodIn_of _ (by decide +kernel)) ggX3_file_X3_suspicionOf
set_option maxRecDepth 20000 in
theorem ggX3_file_X3_signOf : GoodIn wsX3_file wsX3_signOf := goodIn_r _ [30, 31, 32, 33, 34, 35, 36, 37, 38, 11, 39, 40, 41, 42, 43, 44, 45, 46, 47, 48, 49, 50, 51, 52, 53, 54, 55, 56, 57, 58, 59, 60, 61, 62, 63, 64, 65, 66] (by decide +kernel) (by decide +kernel)
set_option maxRecDepth 20000 in
theorem gX3_file_X3_signOf : GoodIn wsX3_file (wsV RX3 101 RX3 yX3_signOf wsX3_signOf) := goodIn_app (goodIn_of _ (by decide +kernel)) ggX3_file_X3_signOf
theorem dX3_file_0 : decode cX3_file 0 = .ok (.aload_n 0, 1) := by decide +kernel
theorem dX3_file_1 : decode cX3_file 1 = .ok (.iconst 0, 1) := by decide +kernel
theorem dX3_file_2 : decode cX3_file 2 = .ok (.putfield 60, 3) := by decide +kernel
theorem dX3_file_5 : decode cX3_file 5 = .ok (.iload_n 1, 1) := by decide +kernel
theorem dX3_file_6 : decode cX3_file 6 = .ok (.iload_n 2, 1) := by decide +kernel
theorem dX3_file_7 : decode cX3_file 7 = .ok (.invokestatic 105, 3) := by decide +kernel
theorem dX3_file_10 : decode cX3_file 10 = .ok (.ifCond .ne 9, 3) := by decide +kernel
theorem dX3_file_13 : decode cX3_file 13 = .ok (.aload_n 0, 1) := by decide +kernel
theorem dX3_file_14 : decode cX3_file 14 = .ok (.iconst 1, 1) := by decide +kernel
theorem dX3_file_15 : decode cX3_file 15 = .ok (.invokevirtual 77, 3) := by decide +kernel
theorem dX3_file_18 : decode cX3_file 18 = .ok (.ireturn, 1) := by decide +kernel
theorem dX3_file_19 : decode cX3_file 19 = .ok (.iload_n 1, 1) := by decide +kernel
theorem dX3_file_20 : decode cX3_file 20 = .ok (.iload_n 2, 1) := by decide +kernel
theorem dX3_file_21 : decode cX3_file 21 = .ok (.if_icmp .ge 7, 3) := by decide +kernel
theorem dX3_file_24 : decode cX3_file 24 = .ok (.iload_n 1, 1) := by decide +kernel
theorem dX3_file_25 : decode cX3_file 25 = .ok (.goto 4, 3) := by decide +kernel
theorem dX3_file_28 : decode cX3_file 28 = .ok (.iload_n 2, 1) := by decide +kernel
theorem dX3_file_29 : decode cX3_file 29 = .ok (.istore_n 3, 1) := by decide +kernel
theorem dX3_file_30 : decode cX3_file 30 = .ok (.iload_n 1, 1) := by decide +kernel
theorem dX3_file_31 : decode cX3_file 31 = .ok (.iload_n 2, 1) := by decide +kernel
theorem dX3_file_32 : decode cX3_file 32 = .ok (.if_icmp .ge 7, 3) := by decide +kernel
theorem dX3_file_35 : decode cX3_file 35 = .ok (.iload_n 2, 1) := by decide +kernel
theorem dX3_file_36 : decode cX3_file 36 = .ok (.goto 4, 3) := by decide +kernel
theorem dX3_file_39 : decode cX3_file 39 = .ok (.iload_n 1, 1) := by decide +kernel
theorem dX3_file_40 : decode cX3_file 40 = .ok (.istore 4, 2) := by decide +kernel
theorem dX3_file_42 : decode cX3_file 42 = .ok (.iconst 0, 1) := by decide +kernel
theorem dX3_file_43 : decode cX3_file 43 = .ok (.istore 5, 2) := by decide +kernel
theorem dX3_file_45 : decode cX3_file 45 = .ok (.iconst 0, 1) := by decide +kernel
theorem dX3_file_46 : decode cX3_file 46 = .ok (.istore 6, 2) := by decide +kernel
theorem dX3_file_48 : decode cX3_file 48 = .ok (.iload 6, 2) := by decide +kernel
theorem dX3_file_50 : decode cX3_file 50 = .ok (.aload_n 0, 1) := by decide +kernel
theorem dX3_file_51 : decode cX3_file 51 = .ok (.getfield 70, 3) := by decide +kernel
theorem dX3_file_54 : decode cX3_file 54 = .ok (.if_icmp .ge 44, 3) := by decide +kernel
theorem dX3_file_57 : decode cX3_file 57 = .ok (.iload 5, 2) := by decide +kernel
theorem dX3_file_59 : decode cX3_file 59 = .ok (.ifCond .ne 26, 3) := by decide +kernel
theorem dX3_file_62 : decode cX3_file 62 = .ok (.aload_n 0, 1) := by decide +kernel
theorem dX3_file_63 : decode cX3_file 63 = .ok (.getfield 33, 3) := by decide +kernel
theorem dX3_file_66 : decode cX3_file 66 = .ok (.iload 6, 2) := by decide +kernel
theorem dX3_file_68 : decode cX3_file 68 = .ok (.iaload, 1) := by decide +kernel
theorem dX3_file_69 : decode cX3_file 69 = .ok (.iload_n 3, 1) := by decide +kernel
theorem dX3_file_70 : decode cX3_file 70 = .ok (.if_icmp .ne 19, 3) := by decide +kernel
theorem dX3_file_73 : decode cX3_file 73 = .ok (.aload_n 0, 1) := by decide +kernel
theorem dX3_file_74 : decode cX3_file 74 = .ok (.getfield 36, 3) := by decide +kernel
theorem dX3_file_77 : decode cX3_file 77 = .ok (.iload 6, 2) := by decide +kernel
theorem dX3_file_79 : decode cX3_file 79 = .ok (.iaload, 1) := by decide +kernel
theorem dX3_file_80 : decode cX3_file 80 = .ok (.iload 4, 2) := by decide +kernel
theorem dX3_file_82 : decode cX3_file 82 = .ok (.if_icmp .ne 7, 3) := by decide +kernel
theorem dX3_file_85 : decode cX3_file 85 = .ok (.iconst 1, 1) := by decide +kernel
theorem dX3_file_86 : decode cX3_file 86 = .ok (.goto 4, 3) := by decide +kernel
theorem dX3_file_89 : decode cX3_file 89 = .ok (.iconst 0, 1) := by decide +kernel
theorem dX3_file_90 : decode cX3_file 90 = .ok (.istore 5, 2) := by decide +kernel
theorem dX3_file_92 : decode cX3_file 92 = .ok (.iinc 6 1, 3) := by decide +kernel
theorem dX3_file_95 : decode cX3_file 95 = .ok (.goto (-47), 3) := by decide +kernel
theorem dX3_file_98 : decode cX3_file 98 = .ok (.iload 5, 2) := by decide +kernel
theorem dX3_file_100 : decode cX3_file 100 = .ok (.ifCond .ne 25, 3) := by decide +kernel
theorem dX3_file_103 : decode cX3_file 103 = .ok (.aload_n 0, 1) := by decide +kernel
theorem dX3_file_104 : decode cX3_file 104 = .ok (.getfield 70, 3) := by decide +kernel
theorem dX3_file_107 : decode cX3_file 107 = .ok (.bipush 20, 2) := by decide +kernel
theorem dX3_file_109 : decode cX3_file 109 = .ok (.if_icmp .eq 16, 3) := by decide +kernel
theorem dX3_file_112 : decode cX3_file 112 = .ok (.aload_n 0, 1) := by decide +kernel
theorem dX3_file_113 : decode cX3_file 113 = .ok (.iload_n 1, 1) := by decide +kernel
theorem dX3_file_114 : decode cX3_file 114 = .ok (.iload_n 2, 1) := by decide +kernel
theorem dX3_file_115 : decode cX3_file 115 = .ok (.invokevirtual 108, 3) := by decide +kernel
theorem dX3_file_118 : decode cX3_file 118 = .ok (.aload_n 0, 1) := by decide +kernel
theorem dX3_file_119 : decode cX3_file 119 = .ok (.getfield 29, 3) := by decide +kernel
theorem dX3_file_122 : decode cX3_file 122 = .ok (.if_icmp .ge 9, 3) := by decide +kernel
theorem dX3_file_125 : decode cX3_file 125 = .ok (.aload_n 0, 1) := by decide +kernel
theorem dX3_file_126 : decode cX3_file 126 = .ok (.iconst 2, 1) := by decide +kernel
theorem dX3_file_127 : decode cX3_file 127 = .ok (.invokevirtual 77, 3) := by decide +kernel
theorem dX3_file_130 : decode cX3_file 130 = .ok (.ireturn, 1) := by decide +kernel
theorem dX3_file_131 : decode cX3_file 131 = .ok (.aload_n 0, 1) := by decide +kernel
theorem dX3_file_132 : decode cX3_file 132 = .ok (.getfield 33, 3) := by decide +kernel
theorem dX3_file_135 : decode cX3_file 135 = .ok (.aload_n 0, 1) := by decide +kernel
theorem dX3_file_136 : decode cX3_file 136 = .ok (.getfield 70, 3) := by decide +kernel
theorem dX3_file_139 : decode cX3_file 139 = .ok (.iload_n 3, 1) := by decide +kernel
theorem dX3_file_140 : decode cX3_file 140 = .ok (.iastore, 1) := by decide +kernel
theorem dX3_file_141 : decode cX3_file 141 = .ok (.aload_n 0, 1) := by decide +kernel
theorem dX3_file_142 : decode cX3_file 142 = .ok (.getfield 36, 3) := by decide +kernel
theorem dX3_file_145 : decode cX3_file 145 = .ok (.aload_n 0, 1) := by decide +kernel
theorem dX3_file_146 : decode cX3_file 146 = .ok (.getfield 70, 3) := by decide +kernel
theorem dX3_file_149 : decode cX3_file 149 = .ok (.iload 4, 2) := by decide +kernel
theorem dX3_file_151 : decode cX3_file 151 = .ok (.iastore, 1) := by decide +kernel
theorem dX3_file_152 : decode cX3_file 152 = .ok (.aload_n 0, 1) := by decide +kernel
theorem dX3_file_153 : decode cX3_file 153 = .ok (.getfield 45, 3) := by decide +kernel
theorem dX3_file_156 : decode cX3_file 156 = .ok (.aload_n 0, 1) := by decide +kernel
theorem dX3_file_157 : decode cX3_file 157 = .ok (.getfield 70, 3) := by decide +kernel
theorem dX3_file_160 : decode cX3_file 160 = .ok (.iconst (-1), 1) := by decide +kernel
theorem dX3_file_161 : decode cX3_file 161 = .ok (.iastore, 1) := by decide +kernel
theorem dX3_file_162 : decode cX3_file 162 = .ok (.iconst 0, 1) := by decide +kernel
theorem dX3_file_163 : decode cX3_file 163 = .ok (.istore 6, 2) := by decide +kernel
theorem dX3_file_165 : decode cX3_file 165 = .ok (.iload 6, 2) := by decide +kernel
theorem dX3_file_167 : decode cX3_file 167 = .ok (.aload_n 0, 1) := by decide +kernel
theorem dX3_file_168 : decode cX3_file 168 = .ok (.getfield 67, 3) := by decide +kernel
theorem dX3_file_171 : decode cX3_file 171 = .ok (.if_icmp .ge 40, 3) := by decide +kernel
theorem dX3_file_174 : decode cX3_file 174 = .ok (.aload_n 0, 1) := by decide +kernel
theorem dX3_file_175 : decode cX3_file 175 = .ok (.getfield 39, 3) := by decide +kernel
theorem dX3_file_178 : decode cX3_file 178 = .ok (.aload_n 0, 1) := by decide +kernel
theorem dX3_file_179 : decode cX3_file 179 = .ok (.getfield 70, 3) := by decide +kernel
theorem dX3_file_182 : decode cX3_file 182 = .ok (.dup2, 1) := by decide +kernel
theorem dX3_file_183 : decode cX3_file 183 = .ok (.iaload, 1) := by decide +kernel
theorem dX3_file_184 : decode cX3_file 184 = .ok (.aload_n 0, 1) := by decide +kernel
theorem dX3_file_185 : decode cX3_file 185 = .ok (.iload 6, 2) := by decide +kernel
theorem dX3_file_187 : decode cX3_file 187 = .ok (.iload_n 1, 1) := by decide +kernel
theorem dX3_file_188 : decode cX3_file 188 = .ok (.iload_n 2, 1) := by decide +kernel
theorem dX3_file_189 : decode cX3_file 189 = .ok (.invokevirtual 101, 3) := by decide +kernel
theorem dX3_file_192 : decode cX3_file 192 = .ok (.ifCond .le 10, 3) := by decide +kernel
theorem dX3_file_195 : decode cX3_file 195 = .ok (.iconst 1, 1) := by decide +kernel
theorem dX3_file_196 : decode cX3_file 196 = .ok (.iload 6, 2) := by decide +kernel
theorem dX3_file_198 : decode cX3_file 198 = .ok (.ishl, 1) := by decide +kernel
theorem dX3_file_199 : decode cX3_file 199 = .ok (.goto 4, 3) := by decide +kernel
theorem dX3_file_202 : decode cX3_file 202 = .ok (.iconst 0, 1) := by decide +kernel
theorem dX3_file_203 : decode cX3_file 203 = .ok (.ior, 1) := by decide +kernel
theorem dX3_file_204 : decode cX3_file 204 = .ok (.iastore, 1) := by decide +kernel
theorem dX3_file_205 : decode cX3_file 205 = .ok (.iinc 6 1, 3) := by decide +kernel
theorem dX3_file_208 : decode cX3_file 208 = .ok (.goto (-43), 3) := by decide +kernel
theorem dX3_file_211 : decode cX3_file 211 = .ok (.aload_n 0, 1) := by decide +kernel
theorem dX3_file_212 : decode cX3_file 212 = .ok (.dup, 1) := by decide +kernel
theorem dX3_file_213 : decode cX3_file 213 = .ok (.getfield 70, 3) := by decide +kernel
theorem dX3_file_216 : decode cX3_file 216 = .ok (.iconst 1, 1) := by decide +kernel
theorem dX3_file_217 : decode cX3_file 217 = .ok (.iadd, 1) := by decide +kernel
theorem dX3_file_218 : decode cX3_file 218 = .ok (.putfield 70, 3) := by decide +kernel
theorem dX3_file_221 : decode cX3_file 221 = .ok (.aload_n 0, 1) := by decide +kernel
theorem dX3_file_222 : decode cX3_file 222 = .ok (.getfield 70, 3) := by decide +kernel
theorem dX3_file_225 : decode cX3_file 225 = .ok (.iconst 1, 1) := by decide +kernel
theorem dX3_file_226 : decode cX3_file 226 = .ok (.isub, 1) := by decide +kernel
theorem dX3_file_227 : decode cX3_file 227 = .ok (.ireturn, 1) := by decide +kernel
theorem dX3_count_0 : decode cX3_count 0 = .ok (.iconst 0, 1) := by decide +kernel
theorem dX3_count_1 : decode cX3_count 1 = .ok (.istore_n 1, 1) := by decide +kernel
theorem dX3_count_2 : decode cX3_count 2 = .ok (.iconst 0, 1) := by decide +kernel
theorem dX3_count_3 : decode cX3_count 3 = .ok (.istore_n 2, 1) := by decide +kernel
theorem dX3_count_4 : decode cX3_count 4 = .ok (.iload_n 2, 1) := by decide +kernel
theorem dX3_count_5 : decode cX3_count 5 = .ok (.bipush 30, 2) := by decide +kernel
theorem dX3_count_7 : decode cX3_count 7 = .ok (.if_icmp .ge 17, 3) := by decide +kernel
theorem dX3_count_10 : decode cX3_count 10 = .ok (.iload_n 1, 1) := by decide +kernel
theorem dX3_count_11 : decode cX3_count 11 = .ok (.iload_n 0, 1) := by decide +kernel
theorem dX3_count_12 : decode cX3_count 12 = .ok (.iload_n 2, 1) := by decide +kernel
theorem dX3_count_13 : decode cX3_count 13 = .ok (.ishr, 1) := by decide +kernel
theorem dX3_count_14 : decode cX3_count 14 = .ok (.iconst 1, 1) := by decide +kernel
theorem dX3_count_15 : decode cX3_count 15 = .ok (.iand, 1) := by decide +kernel
theorem dX3_count_16 : decode cX3_count 16 = .ok (.iadd, 1) := by decide +kernel
theorem dX3_count_17 : decode cX3_count 17 = .ok (.istore_n 1, 1) := by decide +kernel
theorem dX3_count_18 : decode cX3_count 18 = .ok (.iinc 2 1, 3) := by decide +kernel
theorem dX3_count_21 : decode cX3_count 21 = .ok (.goto (-17), 3) := by decide +kernel
theorem dX3_count_24 : decode cX3_count 24 = .ok (.iload_n 1, 1) := by decide +kernel
theorem dX3_count_25 : decode cX3_count 25 = .ok (.ireturn, 1) := by decide +kernel
set_option maxRecDepth 20000 in
theorem ggX3_matters_X3_isFile : GoodIn wsX3_matters wsX3_isFile := goodIn_r _ [7, 8, 9, 10, 6, 11, 19, 20, 21, 22, 23, 24, 25, 26, 27, 28, 29, 30, 31, 32, 33, 34, 35, 36, 37] (by decide +kernel) (by decide +kernel)
set_option maxRecDepth 20000 in
theorem gX3_matters_X3_isFile : GoodIn wsX3_matters (wsV RX3 112 RX3 yX3_isFile wsX3_isFile) := goodIn_app (goodIn_of _ (by decide +kernel)) ggX3_matters_X3_isFile
set_option maxRecDepth 20000 in
theorem ggX3_matters_X3_count : GoodIn wsX3_matters wsX3_count := goodIn_r _ [14] (by decide +kernel) (by decide +kernel)
set_option maxRecDepth 20000 in
theorem gX3_matters_X3_count : GoodIn wsX3_matters (va_wsS RX3 115 yX3_count wsX3_count) := goodIn_app (goodIn_of _ (by decide +kernel)) ggX3_matters_X3_count
set_option maxRecDepth 20000 in
theorem ggX3_matters_X3_fails : GoodIn wsX3_matters wsX3_fails := goodIn_r _ [18, 1, 19, 20, 21, 22, 23, 24, 25, 26, 27, 28, 29, 30, 31, 32, 33, 34, 35, 36, 37] (by decide +kernel) (by decide +kernel)
set_option maxRecDepth 20000 in
theorem gX3_matters_X3_fails : GoodIn wsX3_matters (wsV RX3 77 RX3 yX3_fails wsX3_fails) := goodIn_app (goodIn_of _ (by decide +kernel)) ggX3_matters_X3_fails
theorem dX3_matters_0 : decode cX3_matters 0 = .ok (.aload_n 0, 1) := by decide +kernel
theorem dX3_matters_1 : decode cX3_matters 1 = .ok (.iconst 0, 1) := by decide +kernel
theorem dX3_matters_2 : decode cX3_matters 2 = .ok (.putfield 60, 3) := by decide +kernel
theorem dX3_matters_5 : decode cX3_matters 5 = .ok (.aload_n 0, 1) := by decide +kernel
theorem dX3_matters_6 : decode cX3_matters 6 = .ok (.iload_n 1, 1) := by decide +kernel
theorem dX3_matters_7 : decode cX3_matters 7 = .ok (.invokevirtual 112, 3) := by decide +kernel
theorem dX3_matters_10 : decode cX3_matters 10 = .ok (.ifCond .eq 15, 3) := by decide +kernel
theorem dX3_matters_13 : decode cX3_matters 13 = .ok (.aload_n 0, 1) := by decide +kernel
theorem dX3_matters_14 : decode cX3_matters 14 = .ok (.getfield 39, 3) := by decide +kernel
theorem dX3_matters_17 : decode cX3_matters 17 = .ok (.iload_n 1, 1) := by decide +kernel
theorem dX3_matters_18 : decode cX3_matters 18 = .ok (.iaload, 1) := by decide +kernel
theorem dX3_matters_19 : decode cX3_matters 19 = .ok (.invokestatic 115, 3) := by decide +kernel
theorem dX3_matters_22 : decode cX3_matters 22 = .ok (.goto 8, 3) := by decide +kernel
theorem dX3_matters_25 : decode cX3_matters 25 = .ok (.aload_n 0, 1) := by decide +kernel
theorem dX3_matters_26 : decode cX3_matters 26 = .ok (.iconst 1, 1) := by decide +kernel
theorem dX3_matters_27 : decode cX3_matters 27 = .ok (.invokevirtual 77, 3) := by decide +kernel
theorem dX3_matters_30 : decode cX3_matters 30 = .ok (.ireturn, 1) := by decide +kernel
theorem dX3_isOf_0 : decode cX3_isOf 0 = .ok (.iload_n 2, 1) := by decide +kernel
theorem dX3_isOf_1 : decode cX3_isOf 1 = .ok (.aload_n 0, 1) := by decide +kernel
theorem dX3_isOf_2 : decode cX3_isOf 2 = .ok (.getfield 33, 3) := by decide +kernel
theorem dX3_isOf_5 : decode cX3_isOf 5 = .ok (.iload_n 1, 1) := by decide +kernel
theorem dX3_isOf_6 : decode cX3_isOf 6 = .ok (.iaload, 1) := by decide +kernel
theorem dX3_isOf_7 : decode cX3_isOf 7 = .ok (.if_icmp .eq 13, 3) := by decide +kernel
theorem dX3_isOf_10 : decode cX3_isOf 10 = .ok (.iload_n 2, 1) := by decide +kernel
theorem dX3_isOf_11 : decode cX3_isOf 11 = .ok (.aload_n 0, 1) := by decide +kernel
theorem dX3_isOf_12 : decode cX3_isOf 12 = .ok (.getfield 36, 3) := by decide +kernel
theorem dX3_isOf_15 : decode cX3_isOf 15 = .ok (.iload_n 1, 1) := by decide +kernel
theorem dX3_isOf_16 : decode cX3_isOf 16 = .ok (.iaload, 1) := by decide +kernel
theorem dX3_isOf_17 : decode cX3_isOf 17 = .ok (.if_icmp .ne 7, 3) := by decide +kernel
theorem dX3_isOf_20 : decode cX3_isOf 20 = .ok (.iconst 1, 1) := by decide +kernel
theorem dX3_isOf_21 : decode cX3_isOf 21 = .ok (.goto 4, 3) := by decide +kernel
theorem dX3_isOf_24 : decode cX3_isOf 24 = .ok (.iconst 0, 1) := by decide +kernel
theorem dX3_isOf_25 : decode cX3_isOf 25 = .ok (.ireturn, 1) := by decide +kernel
set_option maxRecDepth 20000 in
theorem ggX3_tell_X3_isFile : GoodIn wsX3_tell wsX3_isFile := goodIn_r _ [12, 13, 14, 15, 11, 16, 27, 28, 29, 30, 31, 32, 33, 34, 35, 36, 37, 38, 39, 40, 41, 42, 43, 44, 45] (by decide +kernel) (by decide +kernel)
set_option maxRecDepth 20000 in
theorem gX3_tell_X3_isFile : GoodIn wsX3_tell (wsV RX3 112 RX3 yX3_isFile wsX3_isFile) := goodIn_app (goodIn_of _ (by decide +kernel)) ggX3_tell_X3_isFile
set_option maxRecDepth 20000 in
theorem ggX3_tell_X3_isTender : GoodIn wsX3_tell wsX3_isTender := goodIn_r _ [20, 21, 14, 15, 11, 16, 27, 28, 29, 30, 31, 32, 33, 34, 35, 36, 37, 38, 39, 40, 41, 42, 43, 44, 45] (by decide +kernel) (by decide +kernel)
set_option maxRecDepth 20000 in
theorem gX3_tell_X3_isTender : GoodIn wsX3_tell (wsV RX3 85 RX3 yX3_isTender wsX3_isTender) := goodIn_app (goodIn_of _ (by decide +kernel)) ggX3_tell_X3_isTender
set_option maxRecDepth 20000 in
theorem ggX3_tell_X3_isOf : GoodIn wsX3_tell wsX3_isOf := goodIn_r _ [25, 7, 26, 27, 28, 29, 30, 31, 32, 33, 34, 35, 36, 37, 38, 39, 40, 41, 42, 43, 44, 45] (by decide +kernel) (by decide +kernel)
set_option maxRecDepth 20000 in
theorem gX3_tell_X3_isOf : GoodIn wsX3_tell (wsV RX3 118 RX3 yX3_isOf wsX3_isOf) := goodIn_app (goodIn_of _ (by decide +kernel)) ggX3_tell_X3_isOf
theorem dX3_tell_0 : decode cX3_tell 0 = .ok (.aload_n 0, 1) := by decide +kernel
theorem dX3_tell_1 : decode cX3_tell 1 = .ok (.aload_n 0, 1) := by decide +kernel
theorem dX3_tell_2 : decode cX3_tell 2 = .ok (.iload_n 1, 1) := by decide +kernel
theorem dX3_tell_3 : decode cX3_tell 3 = .ok (.invokevirtual 112, 3) := by decide +kernel
theorem dX3_tell_6 : decode cX3_tell 6 = .ok (.ifCond .eq 11, 3) := by decide +kernel
theorem dX3_tell_9 : decode cX3_tell 9 = .ok (.aload_n 0, 1) := by decide +kernel
theorem dX3_tell_10 : decode cX3_tell 10 = .ok (.iload_n 3, 1) := by decide +kernel
theorem dX3_tell_11 : decode cX3_tell 11 = .ok (.invokevirtual 85, 3) := by decide +kernel
theorem dX3_tell_14 : decode cX3_tell 14 = .ok (.ifCond .ne 7, 3) := by decide +kernel
theorem dX3_tell_17 : decode cX3_tell 17 = .ok (.iconst 1, 1) := by decide +kernel
theorem dX3_tell_18 : decode cX3_tell 18 = .ok (.goto 30, 3) := by decide +kernel
theorem dX3_tell_21 : decode cX3_tell 21 = .ok (.aload_n 0, 1) := by decide +kernel
theorem dX3_tell_22 : decode cX3_tell 22 = .ok (.iload_n 1, 1) := by decide +kernel
theorem dX3_tell_23 : decode cX3_tell 23 = .ok (.iload_n 2, 1) := by decide +kernel
theorem dX3_tell_24 : decode cX3_tell 24 = .ok (.invokevirtual 118, 3) := by decide +kernel
theorem dX3_tell_27 : decode cX3_tell 27 = .ok (.ifCond .ne 7, 3) := by decide +kernel
theorem dX3_tell_30 : decode cX3_tell 30 = .ok (.iconst 2, 1) := by decide +kernel
theorem dX3_tell_31 : decode cX3_tell 31 = .ok (.goto 17, 3) := by decide +kernel
theorem dX3_tell_34 : decode cX3_tell 34 = .ok (.aload_n 0, 1) := by decide +kernel
theorem dX3_tell_35 : decode cX3_tell 35 = .ok (.getfield 54, 3) := by decide +kernel
theorem dX3_tell_38 : decode cX3_tell 38 = .ok (.iload_n 1, 1) := by decide +kernel
theorem dX3_tell_39 : decode cX3_tell 39 = .ok (.baload, 1) := by decide +kernel
theorem dX3_tell_40 : decode cX3_tell 40 = .ok (.ifCond .eq 7, 3) := by decide +kernel
theorem dX3_tell_43 : decode cX3_tell 43 = .ok (.iconst 3, 1) := by decide +kernel
theorem dX3_tell_44 : decode cX3_tell 44 = .ok (.goto 4, 3) := by decide +kernel
theorem dX3_tell_47 : decode cX3_tell 47 = .ok (.iconst 0, 1) := by decide +kernel
theorem dX3_tell_48 : decode cX3_tell 48 = .ok (.putfield 60, 3) := by decide +kernel
theorem dX3_tell_51 : decode cX3_tell 51 = .ok (.aload_n 0, 1) := by decide +kernel
theorem dX3_tell_52 : decode cX3_tell 52 = .ok (.getfield 60, 3) := by decide +kernel
theorem dX3_tell_55 : decode cX3_tell 55 = .ok (.ifCond .ne 34, 3) := by decide +kernel
theorem dX3_tell_58 : decode cX3_tell 58 = .ok (.aload_n 0, 1) := by decide +kernel
theorem dX3_tell_59 : decode cX3_tell 59 = .ok (.getfield 39, 3) := by decide +kernel
theorem dX3_tell_62 : decode cX3_tell 62 = .ok (.iload_n 1, 1) := by decide +kernel
theorem dX3_tell_63 : decode cX3_tell 63 = .ok (.iaload, 1) := by decide +kernel
theorem dX3_tell_64 : decode cX3_tell 64 = .ok (.iload_n 3, 1) := by decide +kernel
theorem dX3_tell_65 : decode cX3_tell 65 = .ok (.ishr, 1) := by decide +kernel
theorem dX3_tell_66 : decode cX3_tell 66 = .ok (.iconst 1, 1) := by decide +kernel
theorem dX3_tell_67 : decode cX3_tell 67 = .ok (.iand, 1) := by decide +kernel
theorem dX3_tell_68 : decode cX3_tell 68 = .ok (.iconst 1, 1) := by decide +kernel
theorem dX3_tell_69 : decode cX3_tell 69 = .ok (.if_icmp .ne 20, 3) := by decide +kernel
theorem dX3_tell_72 : decode cX3_tell 72 = .ok (.aload_n 0, 1) := by decide +kernel
theorem dX3_tell_73 : decode cX3_tell 73 = .ok (.getfield 42, 3) := by decide +kernel
theorem dX3_tell_76 : decode cX3_tell 76 = .ok (.iload_n 1, 1) := by decide +kernel
theorem dX3_tell_77 : decode cX3_tell 77 = .ok (.iaload, 1) := by decide +kernel
theorem dX3_tell_78 : decode cX3_tell 78 = .ok (.iload_n 3, 1) := by decide +kernel
theorem dX3_tell_79 : decode cX3_tell 79 = .ok (.ishr, 1) := by decide +kernel
theorem dX3_tell_80 : decode cX3_tell 80 = .ok (.iconst 1, 1) := by decide +kernel
theorem dX3_tell_81 : decode cX3_tell 81 = .ok (.iand, 1) := by decide +kernel
theorem dX3_tell_82 : decode cX3_tell 82 = .ok (.ifCond .ne 7, 3) := by decide +kernel
theorem dX3_tell_85 : decode cX3_tell 85 = .ok (.iconst 1, 1) := by decide +kernel
theorem dX3_tell_86 : decode cX3_tell 86 = .ok (.goto 4, 3) := by decide +kernel
theorem dX3_tell_89 : decode cX3_tell 89 = .ok (.iconst 0, 1) := by decide +kernel
theorem dX3_tell_90 : decode cX3_tell 90 = .ok (.istore 4, 2) := by decide +kernel
theorem dX3_tell_92 : decode cX3_tell 92 = .ok (.iload 4, 2) := by decide +kernel
theorem dX3_tell_94 : decode cX3_tell 94 = .ok (.ifCond .eq 69, 3) := by decide +kernel
theorem dX3_tell_97 : decode cX3_tell 97 = .ok (.aload_n 0, 1) := by decide +kernel
theorem dX3_tell_98 : decode cX3_tell 98 = .ok (.getfield 42, 3) := by decide +kernel
theorem dX3_tell_101 : decode cX3_tell 101 = .ok (.iload_n 1, 1) := by decide +kernel
theorem dX3_tell_102 : decode cX3_tell 102 = .ok (.dup2, 1) := by decide +kernel
theorem dX3_tell_103 : decode cX3_tell 103 = .ok (.iaload, 1) := by decide +kernel
theorem dX3_tell_104 : decode cX3_tell 104 = .ok (.iconst 1, 1) := by decide +kernel
theorem dX3_tell_105 : decode cX3_tell 105 = .ok (.iload_n 3, 1) := by decide +kernel
theorem dX3_tell_106 : decode cX3_tell 106 = .ok (.ishl, 1) := by decide +kernel
theorem dX3_tell_107 : decode cX3_tell 107 = .ok (.ior, 1) := by decide +kernel
theorem dX3_tell_108 : decode cX3_tell 108 = .ok (.iastore, 1) := by decide +kernel
theorem dX3_tell_109 : decode cX3_tell 109 = .ok (.aload_n 0, 1) := by decide +kernel
theorem dX3_tell_110 : decode cX3_tell 110 = .ok (.getfield 45, 3) := by decide +kernel
theorem dX3_tell_113 : decode cX3_tell 113 = .ok (.iload_n 1, 1) := by decide +kernel
theorem dX3_tell_114 : decode cX3_tell 114 = .ok (.aload_n 0, 1) := by decide +kernel
theorem dX3_tell_115 : decode cX3_tell 115 = .ok (.getfield 45, 3) := by decide +kernel
theorem dX3_tell_118 : decode cX3_tell 118 = .ok (.iload_n 1, 1) := by decide +kernel
theorem dX3_tell_119 : decode cX3_tell 119 = .ok (.iaload, 1) := by decide +kernel
theorem dX3_tell_120 : decode cX3_tell 120 = .ok (.iconst (-1), 1) := by decide +kernel
theorem dX3_tell_121 : decode cX3_tell 121 = .ok (.if_icmp .ne 7, 3) := by decide +kernel
theorem dX3_tell_124 : decode cX3_tell 124 = .ok (.iload_n 2, 1) := by decide +kernel
theorem dX3_tell_125 : decode cX3_tell 125 = .ok (.goto 9, 3) := by decide +kernel
theorem dX3_tell_128 : decode cX3_tell 128 = .ok (.aload_n 0, 1) := by decide +kernel
theorem dX3_tell_129 : decode cX3_tell 129 = .ok (.getfield 45, 3) := by decide +kernel
theorem dX3_tell_132 : decode cX3_tell 132 = .ok (.iload_n 1, 1) := by decide +kernel
theorem dX3_tell_133 : decode cX3_tell 133 = .ok (.iaload, 1) := by decide +kernel
theorem dX3_tell_134 : decode cX3_tell 134 = .ok (.iastore, 1) := by decide +kernel
theorem dX3_tell_135 : decode cX3_tell 135 = .ok (.aload_n 0, 1) := by decide +kernel
theorem dX3_tell_136 : decode cX3_tell 136 = .ok (.getfield 48, 3) := by decide +kernel
theorem dX3_tell_139 : decode cX3_tell 139 = .ok (.iconst 2, 1) := by decide +kernel
theorem dX3_tell_140 : decode cX3_tell 140 = .ok (.iload_n 1, 1) := by decide +kernel
theorem dX3_tell_141 : decode cX3_tell 141 = .ok (.imul, 1) := by decide +kernel
theorem dX3_tell_142 : decode cX3_tell 142 = .ok (.iload_n 2, 1) := by decide +kernel
theorem dX3_tell_143 : decode cX3_tell 143 = .ok (.aload_n 0, 1) := by decide +kernel
theorem dX3_tell_144 : decode cX3_tell 144 = .ok (.getfield 33, 3) := by decide +kernel
theorem dX3_tell_147 : decode cX3_tell 147 = .ok (.iload_n 1, 1) := by decide +kernel
theorem dX3_tell_148 : decode cX3_tell 148 = .ok (.iaload, 1) := by decide +kernel
theorem dX3_tell_149 : decode cX3_tell 149 = .ok (.if_icmp .ne 7, 3) := by decide +kernel
theorem dX3_tell_152 : decode cX3_tell 152 = .ok (.iconst 0, 1) := by decide +kernel
theorem dX3_tell_153 : decode cX3_tell 153 = .ok (.goto 4, 3) := by decide +kernel
theorem dX3_tell_156 : decode cX3_tell 156 = .ok (.iconst 1, 1) := by decide +kernel
theorem dX3_tell_157 : decode cX3_tell 157 = .ok (.iadd, 1) := by decide +kernel
theorem dX3_tell_158 : decode cX3_tell 158 = .ok (.dup2, 1) := by decide +kernel
theorem dX3_tell_159 : decode cX3_tell 159 = .ok (.iaload, 1) := by decide +kernel
theorem dX3_tell_160 : decode cX3_tell 160 = .ok (.iconst 1, 1) := by decide +kernel
theorem dX3_tell_161 : decode cX3_tell 161 = .ok (.iadd, 1) := by decide +kernel
theorem dX3_tell_162 : decode cX3_tell 162 = .ok (.iastore, 1) := by decide +kernel
theorem dX3_tell_163 : decode cX3_tell 163 = .ok (.iload 4, 2) := by decide +kernel
theorem dX3_tell_165 : decode cX3_tell 165 = .ok (.ireturn, 1) := by decide +kernel
set_option maxRecDepth 20000 in
theorem ggX3_compensate_X3_isBidder : GoodIn wsX3_compensate wsX3_isBidder := goodIn_r _ [7, 8, 9, 6, 10] (by decide +kernel) (by decide +kernel)
set_option maxRecDepth 20000 in
theorem gX3_compensate_X3_isBidder : GoodIn wsX3_compensate (va_wsS RX3 73 yX3_isBidder wsX3_isBidder) := goodIn_app (goodIn_of _ (by decide +kernel)) ggX3_compensate_X3_isBidder
set_option maxRecDepth 20000 in
theorem ggX3_compensate_X3_in : GoodIn wsX3_compensate wsX3_in := goodIn_r _ [10] (by decide +kernel) (by decide +kernel)
set_option maxRecDepth 20000 in
theorem gX3_compensate_X3_in : GoodIn wsX3_compensate (va_wsS RX3 63 yX3_in wsX3_in) := goodIn_app (goodIn_of _ (by decide +kernel)) ggX3_compensate_X3_in
set_option maxRecDepth 20000 in
theorem ggX3_compensate_X3_fails : GoodIn wsX3_compensate wsX3_fails := goodIn_r _ [14, 1, 15, 16, 17, 18, 19, 20, 21, 22, 23, 24, 25, 26, 27, 28, 29, 30, 31, 32, 33] (by decide +kernel) (by decide +kernel)
set_option maxRecDepth 20000 in
theorem gX3_compensate_X3_fails : GoodIn wsX3_compensate (wsV RX3 77 RX3 yX3_fails wsX3_fails) := goodIn_app (goodIn_of _ (by decide +kernel)) ggX3_compensate_X3_fails
theorem dX3_compensate_0 : decode cX3_compensate 0 = .ok (.aload_n 0, 1) := by decide +kernel
theorem dX3_compensate_1 : decode cX3_compensate 1 = .ok (.iconst 0, 1) := by decide +kernel
theorem dX3_compensate_2 : decode cX3_compensate 2 = .ok (.putfield 60, 3) := by decide +kernel
theorem dX3_compensate_5 : decode cX3_compensate 5 = .ok (.iload_n 1, 1) := by decide +kernel
theorem dX3_compensate_6 : decode cX3_compensate 6 = .ok (.invokestatic 73, 3) := by decide +kernel
theorem dX3_compensate_9 : decode cX3_compensate 9 = .ok (.ifCond .eq 13, 3) := by decide +kernel
theorem dX3_compensate_12 : decode cX3_compensate 12 = .ok (.iload_n 2, 1) := by decide +kernel
theorem dX3_compensate_13 : decode cX3_compensate 13 = .ok (.iconst 1, 1) := by decide +kernel
theorem dX3_compensate_14 : decode cX3_compensate 14 = .ok (.ldc 88, 2) := by decide +kernel
theorem dX3_compensate_16 : decode cX3_compensate 16 = .ok (.invokestatic 63, 3) := by decide +kernel
theorem dX3_compensate_19 : decode cX3_compensate 19 = .ok (.ifCond .ne 9, 3) := by decide +kernel
theorem dX3_compensate_22 : decode cX3_compensate 22 = .ok (.aload_n 0, 1) := by decide +kernel
theorem dX3_compensate_23 : decode cX3_compensate 23 = .ok (.iconst 1, 1) := by decide +kernel
end
section
theorem dX3_compensate_24 : decode cX3_compensate 24 = .ok (.invokevirtual 77, 3) := by decide +kernel
theorem dX3_compensate_27 : decode cX3_compensate 27 = .ok (.ireturn, 1) := by decide +kernel
theorem dX3_compensate_28 : decode cX3_compensate 28 = .ok (.aload_n 0, 1) := by decide +kernel
theorem dX3_compensate_29 : decode cX3_compensate 29 = .ok (.getfield 57, 3) := by decide +kernel
theorem dX3_compensate_32 : decode cX3_compensate 32 = .ok (.iload_n 1, 1) := by decide +kernel
theorem dX3_compensate_33 : decode cX3_compensate 33 = .ok (.dup2, 1) := by decide +kernel
theorem dX3_compensate_34 : decode cX3_compensate 34 = .ok (.iaload, 1) := by decide +kernel
theorem dX3_compensate_35 : decode cX3_compensate 35 = .ok (.iload_n 2, 1) := by decide +kernel
theorem dX3_compensate_36 : decode cX3_compensate 36 = .ok (.iadd, 1) := by decide +kernel
theorem dX3_compensate_37 : decode cX3_compensate 37 = .ok (.iastore, 1) := by decide +kernel
theorem dX3_compensate_38 : decode cX3_compensate 38 = .ok (.aload_n 0, 1) := by decide +kernel
theorem dX3_compensate_39 : decode cX3_compensate 39 = .ok (.getfield 57, 3) := by decide +kernel
theorem dX3_compensate_42 : decode cX3_compensate 42 = .ok (.iload_n 1, 1) := by decide +kernel
theorem dX3_compensate_43 : decode cX3_compensate 43 = .ok (.iaload, 1) := by decide +kernel
theorem dX3_compensate_44 : decode cX3_compensate 44 = .ok (.ireturn, 1) := by decide +kernel
set_option maxRecDepth 20000 in
theorem ggX3_fineFor_X3_turnoverOf : GoodIn wsX3_fineFor wsX3_turnoverOf := goodIn_r _ [8, 9, 10, 11, 12, 13, 14, 15, 16, 7, 17, 18, 22, 23, 24, 25, 26, 27, 28, 29, 30, 31, 32, 33, 34, 35, 36, 37, 38, 39, 40] (by decide +kernel) (by decide +kernel)
set_option maxRecDepth 20000 in
theorem gX3_fineFor_X3_turnoverOf : GoodIn wsX3_fineFor (wsV RX3 95 RX3 yX3_turnoverOf wsX3_turnoverOf) := goodIn_app (goodIn_of _ (by decide +kernel)) ggX3_fineFor_X3_turnoverOf
set_option maxRecDepth 20000 in
theorem ggX3_fineFor_X3_count : GoodIn wsX3_fineFor wsX3_count := goodIn_r _ [21] (by decide +kernel) (by decide +kernel)
set_option maxRecDepth 20000 in
theorem gX3_fineFor_X3_count : GoodIn wsX3_fineFor (va_wsS RX3 115 yX3_count wsX3_count) := goodIn_app (goodIn_of _ (by decide +kernel)) ggX3_fineFor_X3_count
theorem dX3_fineFor_0 : decode cX3_fineFor 0 = .ok (.aload_n 0, 1) := by decide +kernel
theorem dX3_fineFor_1 : decode cX3_fineFor 1 = .ok (.iload_n 2, 1) := by decide +kernel
theorem dX3_fineFor_2 : decode cX3_fineFor 2 = .ok (.invokevirtual 95, 3) := by decide +kernel
theorem dX3_fineFor_5 : decode cX3_fineFor 5 = .ok (.bipush 10, 2) := by decide +kernel
theorem dX3_fineFor_7 : decode cX3_fineFor 7 = .ok (.idiv, 1) := by decide +kernel
theorem dX3_fineFor_8 : decode cX3_fineFor 8 = .ok (.istore 4, 2) := by decide +kernel
theorem dX3_fineFor_10 : decode cX3_fineFor 10 = .ok (.aload_n 0, 1) := by decide +kernel
theorem dX3_fineFor_11 : decode cX3_fineFor 11 = .ok (.getfield 45, 3) := by decide +kernel
theorem dX3_fineFor_14 : decode cX3_fineFor 14 = .ok (.iload_n 1, 1) := by decide +kernel
theorem dX3_fineFor_15 : decode cX3_fineFor 15 = .ok (.iaload, 1) := by decide +kernel
theorem dX3_fineFor_16 : decode cX3_fineFor 16 = .ok (.iload_n 2, 1) := by decide +kernel
theorem dX3_fineFor_17 : decode cX3_fineFor 17 = .ok (.if_icmp .eq 21, 3) := by decide +kernel
theorem dX3_fineFor_20 : decode cX3_fineFor 20 = .ok (.iload 4, 2) := by decide +kernel
theorem dX3_fineFor_22 : decode cX3_fineFor 22 = .ok (.iload_n 3, 1) := by decide +kernel
theorem dX3_fineFor_23 : decode cX3_fineFor 23 = .ok (.ifCond .le 10, 3) := by decide +kernel
theorem dX3_fineFor_26 : decode cX3_fineFor 26 = .ok (.iload 4, 2) := by decide +kernel
theorem dX3_fineFor_28 : decode cX3_fineFor 28 = .ok (.iconst 4, 1) := by decide +kernel
theorem dX3_fineFor_29 : decode cX3_fineFor 29 = .ok (.idiv, 1) := by decide +kernel
theorem dX3_fineFor_30 : decode cX3_fineFor 30 = .ok (.goto 4, 3) := by decide +kernel
theorem dX3_fineFor_33 : decode cX3_fineFor 33 = .ok (.iconst 0, 1) := by decide +kernel
theorem dX3_fineFor_34 : decode cX3_fineFor 34 = .ok (.isub, 1) := by decide +kernel
theorem dX3_fineFor_35 : decode cX3_fineFor 35 = .ok (.goto 26, 3) := by decide +kernel
theorem dX3_fineFor_38 : decode cX3_fineFor 38 = .ok (.iconst 2, 1) := by decide +kernel
theorem dX3_fineFor_39 : decode cX3_fineFor 39 = .ok (.iload_n 3, 1) := by decide +kernel
theorem dX3_fineFor_40 : decode cX3_fineFor 40 = .ok (.imul, 1) := by decide +kernel
theorem dX3_fineFor_41 : decode cX3_fineFor 41 = .ok (.aload_n 0, 1) := by decide +kernel
theorem dX3_fineFor_42 : decode cX3_fineFor 42 = .ok (.getfield 39, 3) := by decide +kernel
theorem dX3_fineFor_45 : decode cX3_fineFor 45 = .ok (.iload_n 1, 1) := by decide +kernel
theorem dX3_fineFor_46 : decode cX3_fineFor 46 = .ok (.iaload, 1) := by decide +kernel
theorem dX3_fineFor_47 : decode cX3_fineFor 47 = .ok (.invokestatic 115, 3) := by decide +kernel
theorem dX3_fineFor_50 : decode cX3_fineFor 50 = .ok (.if_icmp .lt 7, 3) := by decide +kernel
theorem dX3_fineFor_53 : decode cX3_fineFor 53 = .ok (.iconst 0, 1) := by decide +kernel
theorem dX3_fineFor_54 : decode cX3_fineFor 54 = .ok (.goto 7, 3) := by decide +kernel
theorem dX3_fineFor_57 : decode cX3_fineFor 57 = .ok (.iload 4, 2) := by decide +kernel
theorem dX3_fineFor_59 : decode cX3_fineFor 59 = .ok (.iconst 2, 1) := by decide +kernel
theorem dX3_fineFor_60 : decode cX3_fineFor 60 = .ok (.idiv, 1) := by decide +kernel
theorem dX3_fineFor_61 : decode cX3_fineFor 61 = .ok (.istore 5, 2) := by decide +kernel
theorem dX3_fineFor_63 : decode cX3_fineFor 63 = .ok (.aload_n 0, 1) := by decide +kernel
theorem dX3_fineFor_64 : decode cX3_fineFor 64 = .ok (.getfield 57, 3) := by decide +kernel
theorem dX3_fineFor_67 : decode cX3_fineFor 67 = .ok (.iload_n 2, 1) := by decide +kernel
theorem dX3_fineFor_68 : decode cX3_fineFor 68 = .ok (.iaload, 1) := by decide +kernel
theorem dX3_fineFor_69 : decode cX3_fineFor 69 = .ok (.iload 5, 2) := by decide +kernel
theorem dX3_fineFor_71 : decode cX3_fineFor 71 = .ok (.if_icmp .ge 12, 3) := by decide +kernel
theorem dX3_fineFor_74 : decode cX3_fineFor 74 = .ok (.aload_n 0, 1) := by decide +kernel
theorem dX3_fineFor_75 : decode cX3_fineFor 75 = .ok (.getfield 57, 3) := by decide +kernel
theorem dX3_fineFor_78 : decode cX3_fineFor 78 = .ok (.iload_n 2, 1) := by decide +kernel
theorem dX3_fineFor_79 : decode cX3_fineFor 79 = .ok (.iaload, 1) := by decide +kernel
theorem dX3_fineFor_80 : decode cX3_fineFor 80 = .ok (.goto 5, 3) := by decide +kernel
theorem dX3_fineFor_83 : decode cX3_fineFor 83 = .ok (.iload 5, 2) := by decide +kernel
theorem dX3_fineFor_85 : decode cX3_fineFor 85 = .ok (.istore 6, 2) := by decide +kernel
theorem dX3_fineFor_87 : decode cX3_fineFor 87 = .ok (.aload_n 0, 1) := by decide +kernel
theorem dX3_fineFor_88 : decode cX3_fineFor 88 = .ok (.getfield 57, 3) := by decide +kernel
theorem dX3_fineFor_91 : decode cX3_fineFor 91 = .ok (.iload_n 2, 1) := by decide +kernel
theorem dX3_fineFor_92 : decode cX3_fineFor 92 = .ok (.dup2, 1) := by decide +kernel
theorem dX3_fineFor_93 : decode cX3_fineFor 93 = .ok (.iaload, 1) := by decide +kernel
theorem dX3_fineFor_94 : decode cX3_fineFor 94 = .ok (.iload 6, 2) := by decide +kernel
theorem dX3_fineFor_96 : decode cX3_fineFor 96 = .ok (.isub, 1) := by decide +kernel
theorem dX3_fineFor_97 : decode cX3_fineFor 97 = .ok (.iastore, 1) := by decide +kernel
theorem dX3_fineFor_98 : decode cX3_fineFor 98 = .ok (.iload 5, 2) := by decide +kernel
theorem dX3_fineFor_100 : decode cX3_fineFor 100 = .ok (.iload 6, 2) := by decide +kernel
theorem dX3_fineFor_102 : decode cX3_fineFor 102 = .ok (.isub, 1) := by decide +kernel
theorem dX3_fineFor_103 : decode cX3_fineFor 103 = .ok (.ireturn, 1) := by decide +kernel
set_option maxRecDepth 20000 in
theorem ggX3_close_X3_isFile : GoodIn wsX3_close wsX3_isFile := goodIn_r _ [11, 12, 13, 14, 10, 15, 44, 45, 46, 47, 48, 49, 50, 51, 52, 53, 54, 55, 56, 57, 58, 59, 60, 61, 62] (by decide +kernel) (by decide +kernel)
set_option maxRecDepth 20000 in
theorem gX3_close_X3_isFile : GoodIn wsX3_close (wsV RX3 112 RX3 yX3_isFile wsX3_isFile) := goodIn_app (goodIn_of _ (by decide +kernel)) ggX3_close_X3_isFile
set_option maxRecDepth 20000 in
theorem ggX3_close_X3_fails : GoodIn wsX3_close wsX3_fails := goodIn_r _ [19, 1, 44, 45, 46, 47, 48, 49, 50, 51, 52, 53, 54, 55, 56, 57, 58, 59, 60, 61, 62] (by decide +kernel) (by decide +kernel)
set_option maxRecDepth 20000 in
theorem gX3_close_X3_fails : GoodIn wsX3_close (wsV RX3 77 RX3 yX3_fails wsX3_fails) := goodIn_app (goodIn_of _ (by decide +kernel)) ggX3_close_X3_fails
set_option maxRecDepth 20000 in
theorem ggX3_close_X3_fineFor : GoodIn wsX3_close wsX3_fineFor := goodIn_r _ [23, 24, 25, 26, 27, 28, 29, 10, 30, 31, 32, 33, 34, 35, 36, 37, 38, 39, 40, 41, 42, 43, 44, 45, 46, 47, 48, 49, 50, 51, 52, 53, 54, 55, 56, 57, 58, 59, 60, 61, 62] (by decide +kernel) (by decide +kernel)
set_option maxRecDepth 20000 in
theorem gX3_close_X3_fineFor : GoodIn wsX3_close (wsV RX3 121 RX3 yX3_fineFor wsX3_fineFor) := goodIn_app (goodIn_of _ (by decide +kernel)) ggX3_close_X3_fineFor
theorem dX3_close_0 : decode cX3_close 0 = .ok (.aload_n 0, 1) := by decide +kernel
theorem dX3_close_1 : decode cX3_close 1 = .ok (.iconst 0, 1) := by decide +kernel
theorem dX3_close_2 : decode cX3_close 2 = .ok (.putfield 60, 3) := by decide +kernel
theorem dX3_close_5 : decode cX3_close 5 = .ok (.aload_n 0, 1) := by decide +kernel
theorem dX3_close_6 : decode cX3_close 6 = .ok (.iload_n 1, 1) := by decide +kernel
theorem dX3_close_7 : decode cX3_close 7 = .ok (.invokevirtual 112, 3) := by decide +kernel
theorem dX3_close_10 : decode cX3_close 10 = .ok (.ifCond .ne 9, 3) := by decide +kernel
theorem dX3_close_13 : decode cX3_close 13 = .ok (.aload_n 0, 1) := by decide +kernel
theorem dX3_close_14 : decode cX3_close 14 = .ok (.iconst 1, 1) := by decide +kernel
theorem dX3_close_15 : decode cX3_close 15 = .ok (.invokevirtual 77, 3) := by decide +kernel
theorem dX3_close_18 : decode cX3_close 18 = .ok (.ireturn, 1) := by decide +kernel
theorem dX3_close_19 : decode cX3_close 19 = .ok (.aload_n 0, 1) := by decide +kernel
theorem dX3_close_20 : decode cX3_close 20 = .ok (.getfield 54, 3) := by decide +kernel
theorem dX3_close_23 : decode cX3_close 23 = .ok (.iload_n 1, 1) := by decide +kernel
theorem dX3_close_24 : decode cX3_close 24 = .ok (.baload, 1) := by decide +kernel
theorem dX3_close_25 : decode cX3_close 25 = .ok (.ifCond .eq 9, 3) := by decide +kernel
theorem dX3_close_28 : decode cX3_close 28 = .ok (.aload_n 0, 1) := by decide +kernel
theorem dX3_close_29 : decode cX3_close 29 = .ok (.iconst 2, 1) := by decide +kernel
theorem dX3_close_30 : decode cX3_close 30 = .ok (.invokevirtual 77, 3) := by decide +kernel
theorem dX3_close_33 : decode cX3_close 33 = .ok (.ireturn, 1) := by decide +kernel
theorem dX3_close_34 : decode cX3_close 34 = .ok (.aload_n 0, 1) := by decide +kernel
theorem dX3_close_35 : decode cX3_close 35 = .ok (.getfield 51, 3) := by decide +kernel
theorem dX3_close_38 : decode cX3_close 38 = .ok (.iconst 2, 1) := by decide +kernel
theorem dX3_close_39 : decode cX3_close 39 = .ok (.iload_n 1, 1) := by decide +kernel
theorem dX3_close_40 : decode cX3_close 40 = .ok (.imul, 1) := by decide +kernel
theorem dX3_close_41 : decode cX3_close 41 = .ok (.aload_n 0, 1) := by decide +kernel
theorem dX3_close_42 : decode cX3_close 42 = .ok (.iload_n 1, 1) := by decide +kernel
theorem dX3_close_43 : decode cX3_close 43 = .ok (.aload_n 0, 1) := by decide +kernel
theorem dX3_close_44 : decode cX3_close 44 = .ok (.getfield 33, 3) := by decide +kernel
theorem dX3_close_47 : decode cX3_close 47 = .ok (.iload_n 1, 1) := by decide +kernel
theorem dX3_close_48 : decode cX3_close 48 = .ok (.iaload, 1) := by decide +kernel
theorem dX3_close_49 : decode cX3_close 49 = .ok (.aload_n 0, 1) := by decide +kernel
theorem dX3_close_50 : decode cX3_close 50 = .ok (.getfield 48, 3) := by decide +kernel
theorem dX3_close_53 : decode cX3_close 53 = .ok (.iconst 2, 1) := by decide +kernel
theorem dX3_close_54 : decode cX3_close 54 = .ok (.iload_n 1, 1) := by decide +kernel
theorem dX3_close_55 : decode cX3_close 55 = .ok (.imul, 1) := by decide +kernel
theorem dX3_close_56 : decode cX3_close 56 = .ok (.iaload, 1) := by decide +kernel
theorem dX3_close_57 : decode cX3_close 57 = .ok (.invokevirtual 121, 3) := by decide +kernel
theorem dX3_close_60 : decode cX3_close 60 = .ok (.iastore, 1) := by decide +kernel
theorem dX3_close_61 : decode cX3_close 61 = .ok (.aload_n 0, 1) := by decide +kernel
theorem dX3_close_62 : decode cX3_close 62 = .ok (.getfield 51, 3) := by decide +kernel
theorem dX3_close_65 : decode cX3_close 65 = .ok (.iconst 2, 1) := by decide +kernel
theorem dX3_close_66 : decode cX3_close 66 = .ok (.iload_n 1, 1) := by decide +kernel
theorem dX3_close_67 : decode cX3_close 67 = .ok (.imul, 1) := by decide +kernel
theorem dX3_close_68 : decode cX3_close 68 = .ok (.iconst 1, 1) := by decide +kernel
theorem dX3_close_69 : decode cX3_close 69 = .ok (.iadd, 1) := by decide +kernel
theorem dX3_close_70 : decode cX3_close 70 = .ok (.aload_n 0, 1) := by decide +kernel
theorem dX3_close_71 : decode cX3_close 71 = .ok (.iload_n 1, 1) := by decide +kernel
theorem dX3_close_72 : decode cX3_close 72 = .ok (.aload_n 0, 1) := by decide +kernel
theorem dX3_close_73 : decode cX3_close 73 = .ok (.getfield 36, 3) := by decide +kernel
theorem dX3_close_76 : decode cX3_close 76 = .ok (.iload_n 1, 1) := by decide +kernel
theorem dX3_close_77 : decode cX3_close 77 = .ok (.iaload, 1) := by decide +kernel
theorem dX3_close_78 : decode cX3_close 78 = .ok (.aload_n 0, 1) := by decide +kernel
theorem dX3_close_79 : decode cX3_close 79 = .ok (.getfield 48, 3) := by decide +kernel
theorem dX3_close_82 : decode cX3_close 82 = .ok (.iconst 2, 1) := by decide +kernel
theorem dX3_close_83 : decode cX3_close 83 = .ok (.iload_n 1, 1) := by decide +kernel
theorem dX3_close_84 : decode cX3_close 84 = .ok (.imul, 1) := by decide +kernel
theorem dX3_close_85 : decode cX3_close 85 = .ok (.iconst 1, 1) := by decide +kernel
theorem dX3_close_86 : decode cX3_close 86 = .ok (.iadd, 1) := by decide +kernel
theorem dX3_close_87 : decode cX3_close 87 = .ok (.iaload, 1) := by decide +kernel
theorem dX3_close_88 : decode cX3_close 88 = .ok (.invokevirtual 121, 3) := by decide +kernel
theorem dX3_close_91 : decode cX3_close 91 = .ok (.iastore, 1) := by decide +kernel
theorem dX3_close_92 : decode cX3_close 92 = .ok (.aload_n 0, 1) := by decide +kernel
theorem dX3_close_93 : decode cX3_close 93 = .ok (.getfield 54, 3) := by decide +kernel
theorem dX3_close_96 : decode cX3_close 96 = .ok (.iload_n 1, 1) := by decide +kernel
theorem dX3_close_97 : decode cX3_close 97 = .ok (.iconst 1, 1) := by decide +kernel
theorem dX3_close_98 : decode cX3_close 98 = .ok (.bastore, 1) := by decide +kernel
theorem dX3_close_99 : decode cX3_close 99 = .ok (.aload_n 0, 1) := by decide +kernel
theorem dX3_close_100 : decode cX3_close 100 = .ok (.getfield 51, 3) := by decide +kernel
theorem dX3_close_103 : decode cX3_close 103 = .ok (.iconst 2, 1) := by decide +kernel
theorem dX3_close_104 : decode cX3_close 104 = .ok (.iload_n 1, 1) := by decide +kernel
theorem dX3_close_105 : decode cX3_close 105 = .ok (.imul, 1) := by decide +kernel
theorem dX3_close_106 : decode cX3_close 106 = .ok (.iaload, 1) := by decide +kernel
theorem dX3_close_107 : decode cX3_close 107 = .ok (.aload_n 0, 1) := by decide +kernel
theorem dX3_close_108 : decode cX3_close 108 = .ok (.getfield 51, 3) := by decide +kernel
theorem dX3_close_111 : decode cX3_close 111 = .ok (.iconst 2, 1) := by decide +kernel
theorem dX3_close_112 : decode cX3_close 112 = .ok (.iload_n 1, 1) := by decide +kernel
theorem dX3_close_113 : decode cX3_close 113 = .ok (.imul, 1) := by decide +kernel
theorem dX3_close_114 : decode cX3_close 114 = .ok (.iconst 1, 1) := by decide +kernel
theorem dX3_close_115 : decode cX3_close 115 = .ok (.iadd, 1) := by decide +kernel
theorem dX3_close_116 : decode cX3_close 116 = .ok (.iaload, 1) := by decide +kernel
theorem dX3_close_117 : decode cX3_close 117 = .ok (.iadd, 1) := by decide +kernel
theorem dX3_close_118 : decode cX3_close 118 = .ok (.ireturn, 1) := by decide +kernel
set_option maxRecDepth 20000 in
theorem ggX3_fine_X3_isFile : GoodIn wsX3_fine wsX3_isFile := goodIn_r _ [8, 9, 10, 11, 7, 12, 22, 23, 24, 25, 26, 27, 28, 29, 30, 31, 32, 33, 34, 35, 36, 37, 38, 39, 40] (by decide +kernel) (by decide +kernel)
set_option maxRecDepth 20000 in
theorem gX3_fine_X3_isFile : GoodIn wsX3_fine (wsV RX3 112 RX3 yX3_isFile wsX3_isFile) := goodIn_app (goodIn_of _ (by decide +kernel)) ggX3_fine_X3_isFile
set_option maxRecDepth 20000 in
theorem ggX3_fine_X3_fails : GoodIn wsX3_fine wsX3_fails := goodIn_r _ [16, 1, 22, 23, 24, 25, 26, 27, 28, 29, 30, 31, 32, 33, 34, 35, 36, 37, 38, 39, 40] (by decide +kernel) (by decide +kernel)
set_option maxRecDepth 20000 in
theorem gX3_fine_X3_fails : GoodIn wsX3_fine (wsV RX3 77 RX3 yX3_fails wsX3_fails) := goodIn_app (goodIn_of _ (by decide +kernel)) ggX3_fine_X3_fails
set_option maxRecDepth 20000 in
theorem ggX3_fine_X3_isOf : GoodIn wsX3_fine wsX3_isOf := goodIn_r _ [20, 3, 21, 22, 23, 24, 25, 26, 27, 28, 29, 30, 31, 32, 33, 34, 35, 36, 37, 38, 39, 40] (by decide +kernel) (by decide +kernel)
set_option maxRecDepth 20000 in
theorem gX3_fine_X3_isOf : GoodIn wsX3_fine (wsV RX3 118 RX3 yX3_isOf wsX3_isOf) := goodIn_app (goodIn_of _ (by decide +kernel)) ggX3_fine_X3_isOf
theorem dX3_fine_0 : decode cX3_fine 0 = .ok (.aload_n 0, 1) := by decide +kernel
theorem dX3_fine_1 : decode cX3_fine 1 = .ok (.iconst 0, 1) := by decide +kernel
theorem dX3_fine_2 : decode cX3_fine 2 = .ok (.putfield 60, 3) := by decide +kernel
theorem dX3_fine_5 : decode cX3_fine 5 = .ok (.aload_n 0, 1) := by decide +kernel
theorem dX3_fine_6 : decode cX3_fine 6 = .ok (.iload_n 1, 1) := by decide +kernel
theorem dX3_fine_7 : decode cX3_fine 7 = .ok (.invokevirtual 112, 3) := by decide +kernel
theorem dX3_fine_10 : decode cX3_fine 10 = .ok (.ifCond .ne 9, 3) := by decide +kernel
theorem dX3_fine_13 : decode cX3_fine 13 = .ok (.aload_n 0, 1) := by decide +kernel
theorem dX3_fine_14 : decode cX3_fine 14 = .ok (.iconst 1, 1) := by decide +kernel
theorem dX3_fine_15 : decode cX3_fine 15 = .ok (.invokevirtual 77, 3) := by decide +kernel
theorem dX3_fine_18 : decode cX3_fine 18 = .ok (.ireturn, 1) := by decide +kernel
theorem dX3_fine_19 : decode cX3_fine 19 = .ok (.aload_n 0, 1) := by decide +kernel
theorem dX3_fine_20 : decode cX3_fine 20 = .ok (.iload_n 1, 1) := by decide +kernel
theorem dX3_fine_21 : decode cX3_fine 21 = .ok (.iload_n 2, 1) := by decide +kernel
theorem dX3_fine_22 : decode cX3_fine 22 = .ok (.invokevirtual 118, 3) := by decide +kernel
theorem dX3_fine_25 : decode cX3_fine 25 = .ok (.ifCond .eq 30, 3) := by decide +kernel
theorem dX3_fine_28 : decode cX3_fine 28 = .ok (.aload_n 0, 1) := by decide +kernel
theorem dX3_fine_29 : decode cX3_fine 29 = .ok (.getfield 51, 3) := by decide +kernel
theorem dX3_fine_32 : decode cX3_fine 32 = .ok (.iconst 2, 1) := by decide +kernel
theorem dX3_fine_33 : decode cX3_fine 33 = .ok (.iload_n 1, 1) := by decide +kernel
theorem dX3_fine_34 : decode cX3_fine 34 = .ok (.imul, 1) := by decide +kernel
theorem dX3_fine_35 : decode cX3_fine 35 = .ok (.iload_n 2, 1) := by decide +kernel
theorem dX3_fine_36 : decode cX3_fine 36 = .ok (.aload_n 0, 1) := by decide +kernel
theorem dX3_fine_37 : decode cX3_fine 37 = .ok (.getfield 33, 3) := by decide +kernel
theorem dX3_fine_40 : decode cX3_fine 40 = .ok (.iload_n 1, 1) := by decide +kernel
theorem dX3_fine_41 : decode cX3_fine 41 = .ok (.iaload, 1) := by decide +kernel
theorem dX3_fine_42 : decode cX3_fine 42 = .ok (.if_icmp .ne 7, 3) := by decide +kernel
theorem dX3_fine_45 : decode cX3_fine 45 = .ok (.iconst 0, 1) := by decide +kernel
theorem dX3_fine_46 : decode cX3_fine 46 = .ok (.goto 4, 3) := by decide +kernel
theorem dX3_fine_49 : decode cX3_fine 49 = .ok (.iconst 1, 1) := by decide +kernel
theorem dX3_fine_50 : decode cX3_fine 50 = .ok (.iadd, 1) := by decide +kernel
theorem dX3_fine_51 : decode cX3_fine 51 = .ok (.iaload, 1) := by decide +kernel
theorem dX3_fine_52 : decode cX3_fine 52 = .ok (.goto 8, 3) := by decide +kernel
theorem dX3_fine_55 : decode cX3_fine 55 = .ok (.aload_n 0, 1) := by decide +kernel
theorem dX3_fine_56 : decode cX3_fine 56 = .ok (.iconst 2, 1) := by decide +kernel
theorem dX3_fine_57 : decode cX3_fine 57 = .ok (.invokevirtual 77, 3) := by decide +kernel
theorem dX3_fine_60 : decode cX3_fine 60 = .ok (.ireturn, 1) := by decide +kernel
set_option maxRecDepth 20000 in
theorem ggX3_firstTeller_X3_isFile : GoodIn wsX3_firstTeller wsX3_isFile := goodIn_r _ [7, 8, 9, 10, 6, 11, 16, 17, 18, 19, 20, 21, 22, 23, 24, 25, 26, 27, 28, 29, 30, 31, 32, 33, 34] (by decide +kernel) (by decide +kernel)
set_option maxRecDepth 20000 in
theorem gX3_firstTeller_X3_isFile : GoodIn wsX3_firstTeller (wsV RX3 112 RX3 yX3_isFile wsX3_isFile) := goodIn_app (goodIn_of _ (by decide +kernel)) ggX3_firstTeller_X3_isFile
set_option maxRecDepth 20000 in
theorem ggX3_firstTeller_X3_fails : GoodIn wsX3_firstTeller wsX3_fails := goodIn_r _ [15, 1, 16, 17, 18, 19, 20, 21, 22, 23, 24, 25, 26, 27, 28, 29, 30, 31, 32, 33, 34] (by decide +kernel) (by decide +kernel)
set_option maxRecDepth 20000 in
theorem gX3_firstTeller_X3_fails : GoodIn wsX3_firstTeller (wsV RX3 77 RX3 yX3_fails wsX3_fails) := goodIn_app (goodIn_of _ (by decide +kernel)) ggX3_firstTeller_X3_fails
theorem dX3_firstTeller_0 : decode cX3_firstTeller 0 = .ok (.aload_n 0, 1) := by decide +kernel
theorem dX3_firstTeller_1 : decode cX3_firstTeller 1 = .ok (.iconst 0, 1) := by decide +kernel
theorem dX3_firstTeller_2 : decode cX3_firstTeller 2 = .ok (.putfield 60, 3) := by decide +kernel
theorem dX3_firstTeller_5 : decode cX3_firstTeller 5 = .ok (.aload_n 0, 1) := by decide +kernel
theorem dX3_firstTeller_6 : decode cX3_firstTeller 6 = .ok (.iload_n 1, 1) := by decide +kernel
theorem dX3_firstTeller_7 : decode cX3_firstTeller 7 = .ok (.invokevirtual 112, 3) := by decide +kernel
theorem dX3_firstTeller_10 : decode cX3_firstTeller 10 = .ok (.ifCond .eq 12, 3) := by decide +kernel
theorem dX3_firstTeller_13 : decode cX3_firstTeller 13 = .ok (.aload_n 0, 1) := by decide +kernel
theorem dX3_firstTeller_14 : decode cX3_firstTeller 14 = .ok (.getfield 45, 3) := by decide +kernel
theorem dX3_firstTeller_17 : decode cX3_firstTeller 17 = .ok (.iload_n 1, 1) := by decide +kernel
theorem dX3_firstTeller_18 : decode cX3_firstTeller 18 = .ok (.iaload, 1) := by decide +kernel
theorem dX3_firstTeller_19 : decode cX3_firstTeller 19 = .ok (.goto 8, 3) := by decide +kernel
theorem dX3_firstTeller_22 : decode cX3_firstTeller 22 = .ok (.aload_n 0, 1) := by decide +kernel
theorem dX3_firstTeller_23 : decode cX3_firstTeller 23 = .ok (.iconst 1, 1) := by decide +kernel
theorem dX3_firstTeller_24 : decode cX3_firstTeller 24 = .ok (.invokevirtual 77, 3) := by decide +kernel
theorem dX3_firstTeller_27 : decode cX3_firstTeller 27 = .ok (.ireturn, 1) := by decide +kernel
theorem dJ9_min_7cf53_0 : decode cJ9_min_7cf53 0 = .ok (.iload_n 0, 1) := by decide +kernel
theorem dJ9_min_7cf53_1 : decode cJ9_min_7cf53 1 = .ok (.iload_n 1, 1) := by decide +kernel
theorem dJ9_min_7cf53_2 : decode cJ9_min_7cf53 2 = .ok (.if_icmp .gt 7, 3) := by decide +kernel
theorem dJ9_min_7cf53_5 : decode cJ9_min_7cf53 5 = .ok (.iload_n 0, 1) := by decide +kernel
theorem dJ9_min_7cf53_6 : decode cJ9_min_7cf53 6 = .ok (.goto 4, 3) := by decide +kernel
theorem dJ9_min_7cf53_9 : decode cJ9_min_7cf53 9 = .ok (.iload_n 1, 1) := by decide +kernel
theorem dJ9_min_7cf53_10 : decode cJ9_min_7cf53 10 = .ok (.ireturn, 1) := by decide +kernel
set_option maxRecDepth 20000 in
theorem ggL_open_X2_open : GoodIn wsL_open wsX2_open := goodIn_ca (goodIn_r _ [6, 7, 8, 9, 10, 11, 12, 13, 14, 15, 16, 17, 18, 19, 20, 21, 22, 23, 24, 25, 26, 27, 28, 29, 30, 31, 32, 33, 34, 35, 36, 37, 38] (by decide +kernel) (by decide +kernel)) (goodIn_sub (fun _ h => List.mem_cons_of_mem _ (List.mem_append_right _ h)) (by decide +kernel))
set_option maxRecDepth 20000 in
theorem gL_open_X2_open : GoodIn wsL_open (wsV RL 7 RX2 yX2_open wsX2_open) := goodIn_app (goodIn_of _ (by decide +kernel)) ggL_open_X2_open
theorem dL_open_0 : decode cL_open 0 = .ok (.aload_n 1, 1) := by decide +kernel
theorem dL_open_1 : decode cL_open 1 = .ok (.iconst 0, 1) := by decide +kernel
theorem dL_open_2 : decode cL_open 2 = .ok (.aload_n 0, 1) := by decide +kernel
theorem dL_open_3 : decode cL_open 3 = .ok (.invokevirtual 7, 3) := by decide +kernel
theorem dL_open_6 : decode cL_open 6 = .ok (.i2l, 1) := by decide +kernel
theorem dL_open_7 : decode cL_open 7 = .ok (.lastore, 1) := by decide +kernel
theorem dL_open_8 : decode cL_open 8 = .ok (.goto 6, 3) := by decide +kernel
theorem dL_open_11 : decode cL_open 11 = .ok (.astore_n 2, 1) := by decide +kernel
theorem dL_open_12 : decode cL_open 12 = .ok (.iconst 1, 1) := by decide +kernel
theorem dL_open_13 : decode cL_open 13 = .ok (.ireturn, 1) := by decide +kernel
theorem dL_open_14 : decode cL_open 14 = .ok (.iconst 0, 1) := by decide +kernel
theorem dL_open_15 : decode cL_open 15 = .ok (.ireturn, 1) := by decide +kernel
set_option maxRecDepth 20000 in
theorem ggL_bid_X2_bid : GoodIn wsL_bid wsX2_bid := goodIn_ca (goodIn_ca (goodIn_ca (goodIn_r _ [8, 9, 10, 11, 12, 13, 14, 15, 16, 17, 7, 18, 19, 20, 21, 22, 23, 24, 25, 26, 27, 28, 29, 30, 31, 32, 33, 34, 35, 36, 37, 38, 39, 40, 41, 42, 43, 44, 45, 46, 47, 48, 49, 50, 51, 52, 53, 54, 55, 56, 57, 58, 59, 60, 61, 62] (by decide +kernel) (by decide +kernel)) (goodIn_sub (fun _ h => List.mem_cons_of_mem _ (List.mem_append_left _ (List.mem_append_left _ (List.mem_append_right _ h)))) (by decide +kernel))) (goodIn_sub (fun _ h => List.mem_cons_of_mem _ (List.mem_append_left _ (List.mem_append_right _ h))) (by decide +kernel))) (goodIn_sub (fun _ h => List.mem_cons_of_mem _ (List.mem_append_right _ h)) (by decide +kernel))
set_option maxRecDepth 20000 in
theorem gL_bid_X2_bid : GoodIn wsL_bid (wsV RL 15 RX2 yX2_bid wsX2_bid) := goodIn_app (goodIn_of _ (by decide +kernel)) ggL_bid_X2_bid
theorem dL_bid_0 : decode cL_bid 0 = .ok (.aload 4, 2) := by decide +kernel
theorem dL_bid_2 : decode cL_bid 2 = .ok (.iconst 0, 1) := by decide +kernel
theorem dL_bid_3 : decode cL_bid 3 = .ok (.aload_n 0, 1) := by decide +kernel
theorem dL_bid_4 : decode cL_bid 4 = .ok (.iload_n 1, 1) := by decide +kernel
theorem dL_bid_5 : decode cL_bid 5 = .ok (.iload_n 2, 1) := by decide +kernel
theorem dL_bid_6 : decode cL_bid 6 = .ok (.iload_n 3, 1) := by decide +kernel
theorem dL_bid_7 : decode cL_bid 7 = .ok (.invokevirtual 15, 3) := by decide +kernel
theorem dL_bid_10 : decode cL_bid 10 = .ok (.i2l, 1) := by decide +kernel
theorem dL_bid_11 : decode cL_bid 11 = .ok (.lastore, 1) := by decide +kernel
theorem dL_bid_12 : decode cL_bid 12 = .ok (.goto 15, 3) := by decide +kernel
theorem dL_bid_15 : decode cL_bid 15 = .ok (.astore 5, 2) := by decide +kernel
theorem dL_bid_17 : decode cL_bid 17 = .ok (.iconst 1, 1) := by decide +kernel
theorem dL_bid_18 : decode cL_bid 18 = .ok (.ireturn, 1) := by decide +kernel
theorem dL_bid_19 : decode cL_bid 19 = .ok (.astore 5, 2) := by decide +kernel
theorem dL_bid_21 : decode cL_bid 21 = .ok (.iconst 2, 1) := by decide +kernel
theorem dL_bid_22 : decode cL_bid 22 = .ok (.ireturn, 1) := by decide +kernel
theorem dL_bid_23 : decode cL_bid 23 = .ok (.astore 5, 2) := by decide +kernel
theorem dL_bid_25 : decode cL_bid 25 = .ok (.iconst 3, 1) := by decide +kernel
theorem dL_bid_26 : decode cL_bid 26 = .ok (.ireturn, 1) := by decide +kernel
theorem dL_bid_27 : decode cL_bid 27 = .ok (.iconst 0, 1) := by decide +kernel
theorem dL_bid_28 : decode cL_bid 28 = .ok (.ireturn, 1) := by decide +kernel
set_option maxRecDepth 20000 in
theorem ggL_withdraw_X2_withdraw : GoodIn wsL_withdraw wsX2_withdraw := goodIn_ca (goodIn_ca (goodIn_ca (goodIn_r _ [8, 9, 10, 11, 12, 13, 14, 15, 16, 17, 7, 18, 19, 20, 21, 22, 23, 24, 25, 26, 27, 28, 29, 30, 31, 32, 33, 34, 35, 36, 37, 38, 39, 40, 41, 42, 43, 44, 45, 46, 47, 48, 49, 50, 51, 52, 53, 54] (by decide +kernel) (by decide +kernel)) (goodIn_sub (fun _ h => List.mem_cons_of_mem _ (List.mem_append_left _ (List.mem_append_left _ (List.mem_append_right _ h)))) (by decide +kernel))) (goodIn_sub (fun _ h => List.mem_cons_of_mem _ (List.mem_append_left _ (List.mem_append_right _ h))) (by decide +kernel))) (goodIn_sub (fun _ h => List.mem_cons_of_mem _ (List.mem_append_right _ h)) (by decide +kernel))
set_option maxRecDepth 20000 in
theorem gL_withdraw_X2_withdraw : GoodIn wsL_withdraw (wsV RL 23 RX2 yX2_withdraw wsX2_withdraw) := goodIn_app (goodIn_of _ (by decide +kernel)) ggL_withdraw_X2_withdraw
theorem dL_withdraw_0 : decode cL_withdraw 0 = .ok (.aload_n 3, 1) := by decide +kernel
theorem dL_withdraw_1 : decode cL_withdraw 1 = .ok (.iconst 0, 1) := by decide +kernel
theorem dL_withdraw_2 : decode cL_withdraw 2 = .ok (.aload_n 0, 1) := by decide +kernel
theorem dL_withdraw_3 : decode cL_withdraw 3 = .ok (.iload_n 1, 1) := by decide +kernel
theorem dL_withdraw_4 : decode cL_withdraw 4 = .ok (.iload_n 2, 1) := by decide +kernel
theorem dL_withdraw_5 : decode cL_withdraw 5 = .ok (.invokevirtual 23, 3) := by decide +kernel
theorem dL_withdraw_8 : decode cL_withdraw 8 = .ok (.i2l, 1) := by decide +kernel
theorem dL_withdraw_9 : decode cL_withdraw 9 = .ok (.lastore, 1) := by decide +kernel
theorem dL_withdraw_10 : decode cL_withdraw 10 = .ok (.goto 15, 3) := by decide +kernel
theorem dL_withdraw_13 : decode cL_withdraw 13 = .ok (.astore 4, 2) := by decide +kernel
theorem dL_withdraw_15 : decode cL_withdraw 15 = .ok (.iconst 1, 1) := by decide +kernel
theorem dL_withdraw_16 : decode cL_withdraw 16 = .ok (.ireturn, 1) := by decide +kernel
theorem dL_withdraw_17 : decode cL_withdraw 17 = .ok (.astore 4, 2) := by decide +kernel
theorem dL_withdraw_19 : decode cL_withdraw 19 = .ok (.iconst 2, 1) := by decide +kernel
theorem dL_withdraw_20 : decode cL_withdraw 20 = .ok (.ireturn, 1) := by decide +kernel
theorem dL_withdraw_21 : decode cL_withdraw 21 = .ok (.astore 4, 2) := by decide +kernel
theorem dL_withdraw_23 : decode cL_withdraw 23 = .ok (.iconst 3, 1) := by decide +kernel
theorem dL_withdraw_24 : decode cL_withdraw 24 = .ok (.ireturn, 1) := by decide +kernel
theorem dL_withdraw_25 : decode cL_withdraw 25 = .ok (.iconst 0, 1) := by decide +kernel
theorem dL_withdraw_26 : decode cL_withdraw 26 = .ok (.ireturn, 1) := by decide +kernel
set_option maxRecDepth 20000 in
theorem ggL_award_X2_award : GoodIn wsL_award wsX2_award := goodIn_ca (goodIn_ca (goodIn_r _ [7, 8, 9, 10, 11, 12, 13, 14, 6, 15, 16, 17, 18, 19, 20, 21, 22, 23, 24, 25, 26, 27, 28, 29, 30, 31, 32, 33, 34, 35, 36, 37, 38, 39, 40, 41, 42, 43, 44, 45, 46, 47, 48, 49, 50, 51, 52, 53, 54, 55] (by decide +kernel) (by decide +kernel)) (goodIn_sub (fun _ h => List.mem_cons_of_mem _ (List.mem_append_left _ (List.mem_append_right _ h))) (by decide +kernel))) (goodIn_sub (fun _ h => List.mem_cons_of_mem _ (List.mem_append_right _ h)) (by decide +kernel))
set_option maxRecDepth 20000 in
theorem gL_award_X2_award : GoodIn wsL_award (wsV RL 27 RX2 yX2_award wsX2_award) := goodIn_app (goodIn_of _ (by decide +kernel)) ggL_award_X2_award
theorem dL_award_0 : decode cL_award 0 = .ok (.aload_n 2, 1) := by decide +kernel
theorem dL_award_1 : decode cL_award 1 = .ok (.iconst 0, 1) := by decide +kernel
theorem dL_award_2 : decode cL_award 2 = .ok (.aload_n 0, 1) := by decide +kernel
theorem dL_award_3 : decode cL_award 3 = .ok (.iload_n 1, 1) := by decide +kernel
theorem dL_award_4 : decode cL_award 4 = .ok (.invokevirtual 27, 3) := by decide +kernel
theorem dL_award_7 : decode cL_award 7 = .ok (.i2l, 1) := by decide +kernel
theorem dL_award_8 : decode cL_award 8 = .ok (.lastore, 1) := by decide +kernel
theorem dL_award_9 : decode cL_award 9 = .ok (.goto 9, 3) := by decide +kernel
theorem dL_award_12 : decode cL_award 12 = .ok (.astore_n 3, 1) := by decide +kernel
theorem dL_award_13 : decode cL_award 13 = .ok (.iconst 1, 1) := by decide +kernel
theorem dL_award_14 : decode cL_award 14 = .ok (.ireturn, 1) := by decide +kernel
theorem dL_award_15 : decode cL_award 15 = .ok (.astore_n 3, 1) := by decide +kernel
theorem dL_award_16 : decode cL_award 16 = .ok (.iconst 2, 1) := by decide +kernel
theorem dL_award_17 : decode cL_award 17 = .ok (.ireturn, 1) := by decide +kernel
theorem dL_award_18 : decode cL_award 18 = .ok (.iconst 0, 1) := by decide +kernel
theorem dL_award_19 : decode cL_award 19 = .ok (.ireturn, 1) := by decide +kernel
set_option maxRecDepth 20000 in
theorem ggL_passOn_X2_passOn : GoodIn wsL_passOn wsX2_passOn := goodIn_ca (goodIn_ca (goodIn_ca (goodIn_r _ [8, 9, 10, 11, 12, 13, 14, 15, 16, 17, 7, 18, 19, 20, 21, 22, 23, 24, 25, 26, 27, 28, 29, 30, 31, 32, 33, 34, 35, 36, 37, 38, 39, 40, 41, 42, 43, 44, 45, 46, 47, 48, 49, 50, 51, 52, 53, 54, 55, 56, 57, 58, 59] (by decide +kernel) (by decide +kernel)) (goodIn_sub (fun _ h => List.mem_cons_of_mem _ (List.mem_append_left _ (List.mem_append_left _ (List.mem_append_right _ h)))) (by decide +kernel))) (goodIn_sub (fun _ h => List.mem_cons_of_mem _ (List.mem_append_left _ (List.mem_append_right _ h))) (by decide +kernel))) (goodIn_sub (fun _ h => List.mem_cons_of_mem _ (List.mem_append_right _ h)) (by decide +kernel))
set_option maxRecDepth 20000 in
theorem gL_passOn_X2_passOn : GoodIn wsL_passOn (wsV RL 31 RX2 yX2_passOn wsX2_passOn) := goodIn_app (goodIn_of _ (by decide +kernel)) ggL_passOn_X2_passOn
theorem dL_passOn_0 : decode cL_passOn 0 = .ok (.aload 4, 2) := by decide +kernel
theorem dL_passOn_2 : decode cL_passOn 2 = .ok (.iconst 0, 1) := by decide +kernel
theorem dL_passOn_3 : decode cL_passOn 3 = .ok (.aload_n 0, 1) := by decide +kernel
theorem dL_passOn_4 : decode cL_passOn 4 = .ok (.iload_n 1, 1) := by decide +kernel
theorem dL_passOn_5 : decode cL_passOn 5 = .ok (.iload_n 2, 1) := by decide +kernel
theorem dL_passOn_6 : decode cL_passOn 6 = .ok (.iload_n 3, 1) := by decide +kernel
theorem dL_passOn_7 : decode cL_passOn 7 = .ok (.invokevirtual 31, 3) := by decide +kernel
theorem dL_passOn_10 : decode cL_passOn 10 = .ok (.i2l, 1) := by decide +kernel
theorem dL_passOn_11 : decode cL_passOn 11 = .ok (.lastore, 1) := by decide +kernel
theorem dL_passOn_12 : decode cL_passOn 12 = .ok (.goto 15, 3) := by decide +kernel
theorem dL_passOn_15 : decode cL_passOn 15 = .ok (.astore 5, 2) := by decide +kernel
theorem dL_passOn_17 : decode cL_passOn 17 = .ok (.iconst 1, 1) := by decide +kernel
theorem dL_passOn_18 : decode cL_passOn 18 = .ok (.ireturn, 1) := by decide +kernel
theorem dL_passOn_19 : decode cL_passOn 19 = .ok (.astore 5, 2) := by decide +kernel
theorem dL_passOn_21 : decode cL_passOn 21 = .ok (.iconst 2, 1) := by decide +kernel
theorem dL_passOn_22 : decode cL_passOn 22 = .ok (.ireturn, 1) := by decide +kernel
theorem dL_passOn_23 : decode cL_passOn 23 = .ok (.astore 5, 2) := by decide +kernel
theorem dL_passOn_25 : decode cL_passOn 25 = .ok (.iconst 3, 1) := by decide +kernel
theorem dL_passOn_26 : decode cL_passOn 26 = .ok (.ireturn, 1) := by decide +kernel
theorem dL_passOn_27 : decode cL_passOn 27 = .ok (.iconst 0, 1) := by decide +kernel
theorem dL_passOn_28 : decode cL_passOn 28 = .ok (.ireturn, 1) := by decide +kernel
set_option maxRecDepth 20000 in
theorem ggL_turnover_X2_turnover : GoodIn wsL_turnover wsX2_turnover := goodIn_ca (goodIn_r _ [6, 7, 8, 9, 10, 5, 11, 12, 13, 14, 15, 16, 17, 18, 19, 20, 21, 22, 23, 24, 25, 26, 27, 28, 29, 30, 31, 32, 33, 34, 35, 36, 37, 38, 39, 40, 41] (by decide +kernel) (by decide +kernel)) (goodIn_sub (fun _ h => List.mem_cons_of_mem _ (List.mem_append_right _ h)) (by decide +kernel))
set_option maxRecDepth 20000 in
theorem gL_turnover_X2_turnover : GoodIn wsL_turnover (wsV RL 34 RX2 yX2_turnover wsX2_turnover) := goodIn_app (goodIn_of _ (by decide +kernel)) ggL_turnover_X2_turnover
theorem dL_turnover_0 : decode cL_turnover 0 = .ok (.aload_n 2, 1) := by decide +kernel
theorem dL_turnover_1 : decode cL_turnover 1 = .ok (.iconst 0, 1) := by decide +kernel
theorem dL_turnover_2 : decode cL_turnover 2 = .ok (.aload_n 0, 1) := by decide +kernel
theorem dL_turnover_3 : decode cL_turnover 3 = .ok (.iload_n 1, 1) := by decide +kernel
theorem dL_turnover_4 : decode cL_turnover 4 = .ok (.invokevirtual 34, 3) := by decide +kernel
theorem dL_turnover_7 : decode cL_turnover 7 = .ok (.i2l, 1) := by decide +kernel
theorem dL_turnover_8 : decode cL_turnover 8 = .ok (.lastore, 1) := by decide +kernel
theorem dL_turnover_9 : decode cL_turnover 9 = .ok (.goto 6, 3) := by decide +kernel
theorem dL_turnover_12 : decode cL_turnover 12 = .ok (.astore_n 3, 1) := by decide +kernel
theorem dL_turnover_13 : decode cL_turnover 13 = .ok (.iconst 1, 1) := by decide +kernel
theorem dL_turnover_14 : decode cL_turnover 14 = .ok (.ireturn, 1) := by decide +kernel
theorem dL_turnover_15 : decode cL_turnover 15 = .ok (.iconst 0, 1) := by decide +kernel
theorem dL_turnover_16 : decode cL_turnover 16 = .ok (.ireturn, 1) := by decide +kernel
set_option maxRecDepth 20000 in
theorem ggL_won_X2_won : GoodIn wsL_won wsX2_won := goodIn_ca (goodIn_r _ [6, 7, 8, 9, 10, 11, 5, 12, 13, 14, 15, 16, 17, 18, 19, 20, 21, 22, 23, 24, 25, 26, 27, 28, 29, 30] (by decide +kernel) (by decide +kernel)) (goodIn_sub (fun _ h => List.mem_cons_of_mem _ (List.mem_append_right _ h)) (by decide +kernel))
set_option maxRecDepth 20000 in
theorem gL_won_X2_won : GoodIn wsL_won (wsV RL 37 RX2 yX2_won wsX2_won) := goodIn_app (goodIn_of _ (by decide +kernel)) ggL_won_X2_won
theorem dL_won_0 : decode cL_won 0 = .ok (.aload_n 2, 1) := by decide +kernel
theorem dL_won_1 : decode cL_won 1 = .ok (.iconst 0, 1) := by decide +kernel
theorem dL_won_2 : decode cL_won 2 = .ok (.aload_n 0, 1) := by decide +kernel
theorem dL_won_3 : decode cL_won 3 = .ok (.iload_n 1, 1) := by decide +kernel
theorem dL_won_4 : decode cL_won 4 = .ok (.invokevirtual 37, 3) := by decide +kernel
theorem dL_won_7 : decode cL_won 7 = .ok (.i2l, 1) := by decide +kernel
theorem dL_won_8 : decode cL_won 8 = .ok (.lastore, 1) := by decide +kernel
theorem dL_won_9 : decode cL_won 9 = .ok (.goto 6, 3) := by decide +kernel
theorem dL_won_12 : decode cL_won 12 = .ok (.astore_n 3, 1) := by decide +kernel
theorem dL_won_13 : decode cL_won 13 = .ok (.iconst 1, 1) := by decide +kernel
theorem dL_won_14 : decode cL_won 14 = .ok (.ireturn, 1) := by decide +kernel
theorem dL_won_15 : decode cL_won 15 = .ok (.iconst 0, 1) := by decide +kernel
theorem dL_won_16 : decode cL_won 16 = .ok (.ireturn, 1) := by decide +kernel
set_option maxRecDepth 20000 in
theorem ggL_suspicion_X2_suspicion : GoodIn wsL_suspicion wsX2_suspicion := goodIn_ca (goodIn_r _ [6, 7, 8, 9, 10, 5, 11, 12, 13, 14, 15, 16, 17, 18, 19, 20, 21, 22, 23, 24, 25, 26, 27, 28, 29, 30, 31, 32, 33, 34, 35, 36, 37, 38, 39, 40, 41, 42, 43, 44, 45, 46, 47, 48, 49, 50, 51, 52, 53, 54, 55, 56, 57, 58, 59, 60, 61, 62, 63, 64, 65, 66, 67, 68, 69, 70, 71, 72, 73, 74, 75, 76, 77, 78, 79, 80, 81] (by decide +kernel) (by decide +kernel)) (goodIn_sub (fun _ h => List.mem_cons_of_mem _ (List.mem_append_right _ h)) (by decide +kernel))
set_option maxRecDepth 20000 in
theorem gL_suspicion_X2_suspicion : GoodIn wsL_suspicion (wsV RL 40 RX2 yX2_suspicion wsX2_suspicion) := goodIn_app (goodIn_of _ (by decide +kernel)) ggL_suspicion_X2_suspicion
theorem dL_suspicion_0 : decode cL_suspicion 0 = .ok (.aload_n 3, 1) := by decide +kernel
theorem dL_suspicion_1 : decode cL_suspicion 1 = .ok (.iconst 0, 1) := by decide +kernel
theorem dL_suspicion_2 : decode cL_suspicion 2 = .ok (.aload_n 0, 1) := by decide +kernel
theorem dL_suspicion_3 : decode cL_suspicion 3 = .ok (.iload_n 1, 1) := by decide +kernel
theorem dL_suspicion_4 : decode cL_suspicion 4 = .ok (.iload_n 2, 1) := by decide +kernel
theorem dL_suspicion_5 : decode cL_suspicion 5 = .ok (.invokevirtual 40, 3) := by decide +kernel
theorem dL_suspicion_8 : decode cL_suspicion 8 = .ok (.i2l, 1) := by decide +kernel
theorem dL_suspicion_9 : decode cL_suspicion 9 = .ok (.lastore, 1) := by decide +kernel
theorem dL_suspicion_10 : decode cL_suspicion 10 = .ok (.goto 7, 3) := by decide +kernel
theorem dL_suspicion_13 : decode cL_suspicion 13 = .ok (.astore 4, 2) := by decide +kernel
theorem dL_suspicion_15 : decode cL_suspicion 15 = .ok (.iconst 1, 1) := by decide +kernel
theorem dL_suspicion_16 : decode cL_suspicion 16 = .ok (.ireturn, 1) := by decide +kernel
theorem dL_suspicion_17 : decode cL_suspicion 17 = .ok (.iconst 0, 1) := by decide +kernel
theorem dL_suspicion_18 : decode cL_suspicion 18 = .ok (.ireturn, 1) := by decide +kernel
set_option maxRecDepth 20000 in
theorem ggL_sign_X2_sign : GoodIn wsL_sign wsX2_sign := goodIn_ca (goodIn_ca (goodIn_r _ [7, 8, 9, 10, 11, 12, 13, 14, 6, 15, 16, 17, 18, 19, 20, 21, 22, 23, 24, 25, 26, 27, 28, 29, 30, 31, 32, 33, 34, 35, 36, 37, 38, 39, 40, 41, 42, 43, 44, 45, 46, 47, 48, 49, 50, 51, 52, 53, 54, 55, 56, 57, 58, 59, 60, 61, 62, 63, 64, 65, 66, 67, 68, 69, 70, 71, 72, 73, 74, 75, 76, 77, 78, 79, 80] (by decide +kernel) (by decide +kernel)) (goodIn_sub (fun _ h => List.mem_cons_of_mem _ (List.mem_append_left _ (List.mem_append_right _ h))) (by decide +kernel))) (goodIn_sub (fun _ h => List.mem_cons_of_mem _ (List.mem_append_right _ h)) (by decide +kernel))
set_option maxRecDepth 20000 in
theorem gL_sign_X2_sign : GoodIn wsL_sign (wsV RL 43 RX2 yX2_sign wsX2_sign) := goodIn_app (goodIn_of _ (by decide +kernel)) ggL_sign_X2_sign
theorem dL_sign_0 : decode cL_sign 0 = .ok (.aload 4, 2) := by decide +kernel
theorem dL_sign_2 : decode cL_sign 2 = .ok (.iconst 0, 1) := by decide +kernel
theorem dL_sign_3 : decode cL_sign 3 = .ok (.aload_n 0, 1) := by decide +kernel
theorem dL_sign_4 : decode cL_sign 4 = .ok (.iload_n 1, 1) := by decide +kernel
theorem dL_sign_5 : decode cL_sign 5 = .ok (.iload_n 2, 1) := by decide +kernel
theorem dL_sign_6 : decode cL_sign 6 = .ok (.iload_n 3, 1) := by decide +kernel
theorem dL_sign_7 : decode cL_sign 7 = .ok (.invokevirtual 43, 3) := by decide +kernel
theorem dL_sign_10 : decode cL_sign 10 = .ok (.i2l, 1) := by decide +kernel
theorem dL_sign_11 : decode cL_sign 11 = .ok (.lastore, 1) := by decide +kernel
theorem dL_sign_12 : decode cL_sign 12 = .ok (.goto 11, 3) := by decide +kernel
theorem dL_sign_15 : decode cL_sign 15 = .ok (.astore 5, 2) := by decide +kernel
theorem dL_sign_17 : decode cL_sign 17 = .ok (.iconst 1, 1) := by decide +kernel
theorem dL_sign_18 : decode cL_sign 18 = .ok (.ireturn, 1) := by decide +kernel
theorem dL_sign_19 : decode cL_sign 19 = .ok (.astore 5, 2) := by decide +kernel
theorem dL_sign_21 : decode cL_sign 21 = .ok (.iconst 2, 1) := by decide +kernel
theorem dL_sign_22 : decode cL_sign 22 = .ok (.ireturn, 1) := by decide +kernel
theorem dL_sign_23 : decode cL_sign 23 = .ok (.iconst 0, 1) := by decide +kernel
theorem dL_sign_24 : decode cL_sign 24 = .ok (.ireturn, 1) := by decide +kernel
set_option maxRecDepth 20000 in
theorem ggL_setMark_X2_setMark : GoodIn wsL_setMark wsX2_setMark := goodIn_ca (goodIn_r _ [6, 7, 8, 9, 10, 11, 12, 13, 14, 15] (by decide +kernel) (by decide +kernel)) (goodIn_sub (fun _ h => List.mem_cons_of_mem _ (List.mem_append_right _ h)) (by decide +kernel))
set_option maxRecDepth 20000 in
theorem gL_setMark_X2_setMark : GoodIn wsL_setMark (wsV RL 46 RX2 yX2_setMark wsX2_setMark) := goodIn_app (goodIn_of _ (by decide +kernel)) ggL_setMark_X2_setMark
theorem dL_setMark_0 : decode cL_setMark 0 = .ok (.aload_n 2, 1) := by decide +kernel
theorem dL_setMark_1 : decode cL_setMark 1 = .ok (.iconst 0, 1) := by decide +kernel
theorem dL_setMark_2 : decode cL_setMark 2 = .ok (.aload_n 0, 1) := by decide +kernel
theorem dL_setMark_3 : decode cL_setMark 3 = .ok (.iload_n 1, 1) := by decide +kernel
theorem dL_setMark_4 : decode cL_setMark 4 = .ok (.invokevirtual 46, 3) := by decide +kernel
theorem dL_setMark_7 : decode cL_setMark 7 = .ok (.i2l, 1) := by decide +kernel
theorem dL_setMark_8 : decode cL_setMark 8 = .ok (.lastore, 1) := by decide +kernel
theorem dL_setMark_9 : decode cL_setMark 9 = .ok (.goto 6, 3) := by decide +kernel
theorem dL_setMark_12 : decode cL_setMark 12 = .ok (.astore_n 3, 1) := by decide +kernel
theorem dL_setMark_13 : decode cL_setMark 13 = .ok (.iconst 1, 1) := by decide +kernel
theorem dL_setMark_14 : decode cL_setMark 14 = .ok (.ireturn, 1) := by decide +kernel
theorem dL_setMark_15 : decode cL_setMark 15 = .ok (.iconst 0, 1) := by decide +kernel
theorem dL_setMark_16 : decode cL_setMark 16 = .ok (.ireturn, 1) := by decide +kernel
set_option maxRecDepth 20000 in
theorem ggL_file_X2_file : GoodIn wsL_file wsX2_file := goodIn_ca (goodIn_ca (goodIn_r _ [7, 8, 9, 10, 11, 12, 13, 14, 15, 16, 17, 18, 19, 20, 6, 21, 22, 23, 24, 25, 26, 27, 28, 29, 30, 31, 32, 33, 34, 35, 36, 37, 38, 39, 40, 41, 42, 43, 44, 45, 46, 47, 48, 49, 50, 51, 52, 53, 54, 55, 56, 57, 58, 59, 60, 61, 62, 63, 64, 65, 66, 67, 68, 69, 70, 71, 72, 73, 74, 75, 76, 77, 78, 79, 80, 81, 82, 83, 84, 85, 86, 87, 88, 89, 90, 91, 92, 93, 94, 95, 96, 97, 98, 99, 100, 101, 102, 103, 104, 105, 106, 107, 108, 109, 110, 111, 112, 113, 114, 115, 116, 117, 118, 119, 120, 121, 122, 123, 124, 125, 126] (by decide +kernel) (by decide +kernel)) (goodIn_sub (fun _ h => List.mem_cons_of_mem _ (List.mem_append_left _ (List.mem_append_right _ h))) (by decide +kernel))) (goodIn_sub (fun _ h => List.mem_cons_of_mem _ (List.mem_append_right _ h)) (by decide +kernel))
set_option maxRecDepth 20000 in
theorem gL_file_X2_file : GoodIn wsL_file (wsV RL 49 RX2 yX2_file wsX2_file) := goodIn_app (goodIn_of _ (by decide +kernel)) ggL_file_X2_file
theorem dL_file_0 : decode cL_file 0 = .ok (.aload_n 3, 1) := by decide +kernel
theorem dL_file_1 : decode cL_file 1 = .ok (.iconst 0, 1) := by decide +kernel
theorem dL_file_2 : decode cL_file 2 = .ok (.aload_n 0, 1) := by decide +kernel
theorem dL_file_3 : decode cL_file 3 = .ok (.iload_n 1, 1) := by decide +kernel
theorem dL_file_4 : decode cL_file 4 = .ok (.iload_n 2, 1) := by decide +kernel
theorem dL_file_5 : decode cL_file 5 = .ok (.invokevirtual 49, 3) := by decide +kernel
theorem dL_file_8 : decode cL_file 8 = .ok (.i2l, 1) := by decide +kernel
theorem dL_file_9 : decode cL_file 9 = .ok (.lastore, 1) := by decide +kernel
theorem dL_file_10 : decode cL_file 10 = .ok (.goto 11, 3) := by decide +kernel
theorem dL_file_13 : decode cL_file 13 = .ok (.astore 4, 2) := by decide +kernel
theorem dL_file_15 : decode cL_file 15 = .ok (.iconst 1, 1) := by decide +kernel
theorem dL_file_16 : decode cL_file 16 = .ok (.ireturn, 1) := by decide +kernel
theorem dL_file_17 : decode cL_file 17 = .ok (.astore 4, 2) := by decide +kernel
theorem dL_file_19 : decode cL_file 19 = .ok (.iconst 2, 1) := by decide +kernel
theorem dL_file_20 : decode cL_file 20 = .ok (.ireturn, 1) := by decide +kernel
theorem dL_file_21 : decode cL_file 21 = .ok (.iconst 0, 1) := by decide +kernel
theorem dL_file_22 : decode cL_file 22 = .ok (.ireturn, 1) := by decide +kernel
set_option maxRecDepth 20000 in
theorem ggL_matters_X2_matters : GoodIn wsL_matters wsX2_matters := goodIn_ca (goodIn_r _ [6, 7, 8, 9, 10, 11, 5, 12, 13, 14, 15, 16, 17, 18, 19, 20, 21, 22, 23, 24, 25, 26, 27, 28, 29, 30, 31, 32, 33] (by decide +kernel) (by decide +kernel)) (goodIn_sub (fun _ h => List.mem_cons_of_mem _ (List.mem_append_right _ h)) (by decide +kernel))
set_option maxRecDepth 20000 in
theorem gL_matters_X2_matters : GoodIn wsL_matters (wsV RL 52 RX2 yX2_matters wsX2_matters) := goodIn_app (goodIn_of _ (by decide +kernel)) ggL_matters_X2_matters
theorem dL_matters_0 : decode cL_matters 0 = .ok (.aload_n 2, 1) := by decide +kernel
theorem dL_matters_1 : decode cL_matters 1 = .ok (.iconst 0, 1) := by decide +kernel
theorem dL_matters_2 : decode cL_matters 2 = .ok (.aload_n 0, 1) := by decide +kernel
theorem dL_matters_3 : decode cL_matters 3 = .ok (.iload_n 1, 1) := by decide +kernel
theorem dL_matters_4 : decode cL_matters 4 = .ok (.invokevirtual 52, 3) := by decide +kernel
theorem dL_matters_7 : decode cL_matters 7 = .ok (.i2l, 1) := by decide +kernel
theorem dL_matters_8 : decode cL_matters 8 = .ok (.lastore, 1) := by decide +kernel
theorem dL_matters_9 : decode cL_matters 9 = .ok (.goto 6, 3) := by decide +kernel
theorem dL_matters_12 : decode cL_matters 12 = .ok (.astore_n 3, 1) := by decide +kernel
theorem dL_matters_13 : decode cL_matters 13 = .ok (.iconst 1, 1) := by decide +kernel
theorem dL_matters_14 : decode cL_matters 14 = .ok (.ireturn, 1) := by decide +kernel
theorem dL_matters_15 : decode cL_matters 15 = .ok (.iconst 0, 1) := by decide +kernel
theorem dL_matters_16 : decode cL_matters 16 = .ok (.ireturn, 1) := by decide +kernel
set_option maxRecDepth 20000 in
theorem ggL_tell_X2_tell : GoodIn wsL_tell wsX2_tell := goodIn_ca (goodIn_ca (goodIn_ca (goodIn_r _ [8, 9, 10, 11, 12, 13, 14, 15, 16, 17, 7, 18, 19, 20, 21, 22, 23, 24, 25, 26, 27, 28, 29, 30, 31, 32, 33, 34, 35, 36, 37, 38, 39, 40, 41, 42, 43, 44, 45, 46, 47, 48, 49, 50, 51, 52, 53, 54, 55, 56, 57, 58, 59] (by decide +kernel) (by decide +kernel)) (goodIn_sub (fun _ h => List.mem_cons_of_mem _ (List.mem_append_left _ (List.mem_append_left _ (List.mem_append_right _ h)))) (by decide +kernel))) (goodIn_sub (fun _ h => List.mem_cons_of_mem _ (List.mem_append_left _ (List.mem_append_right _ h))) (by decide +kernel))) (goodIn_sub (fun _ h => List.mem_cons_of_mem _ (List.mem_append_right _ h)) (by decide +kernel))
set_option maxRecDepth 20000 in
theorem gL_tell_X2_tell : GoodIn wsL_tell (wsV RL 55 RX2 yX2_tell wsX2_tell) := goodIn_app (goodIn_of _ (by decide +kernel)) ggL_tell_X2_tell
theorem dL_tell_0 : decode cL_tell 0 = .ok (.aload 4, 2) := by decide +kernel
theorem dL_tell_2 : decode cL_tell 2 = .ok (.iconst 0, 1) := by decide +kernel
theorem dL_tell_3 : decode cL_tell 3 = .ok (.aload_n 0, 1) := by decide +kernel
theorem dL_tell_4 : decode cL_tell 4 = .ok (.iload_n 1, 1) := by decide +kernel
theorem dL_tell_5 : decode cL_tell 5 = .ok (.iload_n 2, 1) := by decide +kernel
theorem dL_tell_6 : decode cL_tell 6 = .ok (.iload_n 3, 1) := by decide +kernel
theorem dL_tell_7 : decode cL_tell 7 = .ok (.invokevirtual 55, 3) := by decide +kernel
theorem dL_tell_10 : decode cL_tell 10 = .ok (.ifCond .eq 7, 3) := by decide +kernel
theorem dL_tell_13 : decode cL_tell 13 = .ok (.lconst 1, 1) := by decide +kernel
theorem dL_tell_14 : decode cL_tell 14 = .ok (.goto 4, 3) := by decide +kernel
theorem dL_tell_17 : decode cL_tell 17 = .ok (.lconst 0, 1) := by decide +kernel
theorem dL_tell_18 : decode cL_tell 18 = .ok (.lastore, 1) := by decide +kernel
theorem dL_tell_19 : decode cL_tell 19 = .ok (.goto 15, 3) := by decide +kernel
theorem dL_tell_22 : decode cL_tell 22 = .ok (.astore 5, 2) := by decide +kernel
theorem dL_tell_24 : decode cL_tell 24 = .ok (.iconst 1, 1) := by decide +kernel
theorem dL_tell_25 : decode cL_tell 25 = .ok (.ireturn, 1) := by decide +kernel
theorem dL_tell_26 : decode cL_tell 26 = .ok (.astore 5, 2) := by decide +kernel
theorem dL_tell_28 : decode cL_tell 28 = .ok (.iconst 2, 1) := by decide +kernel
theorem dL_tell_29 : decode cL_tell 29 = .ok (.ireturn, 1) := by decide +kernel
theorem dL_tell_30 : decode cL_tell 30 = .ok (.astore 5, 2) := by decide +kernel
theorem dL_tell_32 : decode cL_tell 32 = .ok (.iconst 3, 1) := by decide +kernel
theorem dL_tell_33 : decode cL_tell 33 = .ok (.ireturn, 1) := by decide +kernel
theorem dL_tell_34 : decode cL_tell 34 = .ok (.iconst 0, 1) := by decide +kernel
theorem dL_tell_35 : decode cL_tell 35 = .ok (.ireturn, 1) := by decide +kernel
set_option maxRecDepth 20000 in
theorem ggL_compensate_X2_compensate : GoodIn wsL_compensate wsX2_compensate := goodIn_ca (goodIn_r _ [6, 7, 8, 9, 10, 11, 5, 12, 13, 14, 15, 16, 17, 18, 19, 20, 21, 22] (by decide +kernel) (by decide +kernel)) (goodIn_sub (fun _ h => List.mem_cons_of_mem _ (List.mem_append_right _ h)) (by decide +kernel))
set_option maxRecDepth 20000 in
theorem gL_compensate_X2_compensate : GoodIn wsL_compensate (wsV RL 59 RX2 yX2_compensate wsX2_compensate) := goodIn_app (goodIn_of _ (by decide +kernel)) ggL_compensate_X2_compensate
theorem dL_compensate_0 : decode cL_compensate 0 = .ok (.aload_n 3, 1) := by decide +kernel
theorem dL_compensate_1 : decode cL_compensate 1 = .ok (.iconst 0, 1) := by decide +kernel
theorem dL_compensate_2 : decode cL_compensate 2 = .ok (.aload_n 0, 1) := by decide +kernel
theorem dL_compensate_3 : decode cL_compensate 3 = .ok (.iload_n 1, 1) := by decide +kernel
theorem dL_compensate_4 : decode cL_compensate 4 = .ok (.iload_n 2, 1) := by decide +kernel
theorem dL_compensate_5 : decode cL_compensate 5 = .ok (.invokevirtual 59, 3) := by decide +kernel
theorem dL_compensate_8 : decode cL_compensate 8 = .ok (.i2l, 1) := by decide +kernel
theorem dL_compensate_9 : decode cL_compensate 9 = .ok (.lastore, 1) := by decide +kernel
theorem dL_compensate_10 : decode cL_compensate 10 = .ok (.goto 7, 3) := by decide +kernel
theorem dL_compensate_13 : decode cL_compensate 13 = .ok (.astore 4, 2) := by decide +kernel
theorem dL_compensate_15 : decode cL_compensate 15 = .ok (.iconst 1, 1) := by decide +kernel
theorem dL_compensate_16 : decode cL_compensate 16 = .ok (.ireturn, 1) := by decide +kernel
theorem dL_compensate_17 : decode cL_compensate 17 = .ok (.iconst 0, 1) := by decide +kernel
theorem dL_compensate_18 : decode cL_compensate 18 = .ok (.ireturn, 1) := by decide +kernel
set_option maxRecDepth 20000 in
theorem ggL_close_X2_close : GoodIn wsL_close wsX2_close := goodIn_ca (goodIn_ca (goodIn_r _ [7, 8, 9, 10, 11, 12, 13, 14, 6, 15, 16, 17, 18, 19, 20, 21, 22, 23, 24, 25, 26, 27, 28, 29, 30, 31, 32, 33, 34, 35, 36, 37, 38, 39, 40, 41, 42, 43, 44, 45, 46, 47, 48, 49, 50, 51, 52, 53, 54, 55, 56, 57, 58, 59, 60, 61, 62, 63, 64, 65, 66, 67, 68, 69, 70, 71, 72, 73, 74, 75, 76, 77, 78, 79, 80, 81, 82, 83, 84, 85, 86, 87, 88, 89, 90, 91, 92, 93, 94, 95, 96, 97, 98] (by decide +kernel) (by decide +kernel)) (goodIn_sub (fun _ h => List.mem_cons_of_mem _ (List.mem_append_left _ (List.mem_append_right _ h))) (by decide +kernel))) (goodIn_sub (fun _ h => List.mem_cons_of_mem _ (List.mem_append_right _ h)) (by decide +kernel))
set_option maxRecDepth 20000 in
theorem gL_close_X2_close : GoodIn wsL_close (wsV RL 62 RX2 yX2_close wsX2_close) := goodIn_app (goodIn_of _ (by decide +kernel)) ggL_close_X2_close
theorem dL_close_0 : decode cL_close 0 = .ok (.aload_n 2, 1) := by decide +kernel
theorem dL_close_1 : decode cL_close 1 = .ok (.iconst 0, 1) := by decide +kernel
theorem dL_close_2 : decode cL_close 2 = .ok (.aload_n 0, 1) := by decide +kernel
theorem dL_close_3 : decode cL_close 3 = .ok (.iload_n 1, 1) := by decide +kernel
theorem dL_close_4 : decode cL_close 4 = .ok (.invokevirtual 62, 3) := by decide +kernel
theorem dL_close_7 : decode cL_close 7 = .ok (.i2l, 1) := by decide +kernel
theorem dL_close_8 : decode cL_close 8 = .ok (.lastore, 1) := by decide +kernel
theorem dL_close_9 : decode cL_close 9 = .ok (.goto 9, 3) := by decide +kernel
theorem dL_close_12 : decode cL_close 12 = .ok (.astore_n 3, 1) := by decide +kernel
theorem dL_close_13 : decode cL_close 13 = .ok (.iconst 1, 1) := by decide +kernel
theorem dL_close_14 : decode cL_close 14 = .ok (.ireturn, 1) := by decide +kernel
theorem dL_close_15 : decode cL_close 15 = .ok (.astore_n 3, 1) := by decide +kernel
theorem dL_close_16 : decode cL_close 16 = .ok (.iconst 2, 1) := by decide +kernel
theorem dL_close_17 : decode cL_close 17 = .ok (.ireturn, 1) := by decide +kernel
theorem dL_close_18 : decode cL_close 18 = .ok (.iconst 0, 1) := by decide +kernel
theorem dL_close_19 : decode cL_close 19 = .ok (.ireturn, 1) := by decide +kernel
set_option maxRecDepth 20000 in
theorem ggL_fine_X2_fine : GoodIn wsL_fine wsX2_fine := goodIn_ca (goodIn_ca (goodIn_r _ [7, 8, 9, 10, 11, 12, 13, 14, 6, 15, 16, 17, 18, 19, 20, 21, 22, 23, 24, 25, 26, 27, 28, 29, 30, 31, 32, 33, 34, 35, 36, 37, 38, 39, 40, 41, 42, 43, 44] (by decide +kernel) (by decide +kernel)) (goodIn_sub (fun _ h => List.mem_cons_of_mem _ (List.mem_append_left _ (List.mem_append_right _ h))) (by decide +kernel))) (goodIn_sub (fun _ h => List.mem_cons_of_mem _ (List.mem_append_right _ h)) (by decide +kernel))
set_option maxRecDepth 20000 in
theorem gL_fine_X2_fine : GoodIn wsL_fine (wsV RL 65 RX2 yX2_fine wsX2_fine) := goodIn_app (goodIn_of _ (by decide +kernel)) ggL_fine_X2_fine
theorem dL_fine_0 : decode cL_fine 0 = .ok (.aload_n 3, 1) := by decide +kernel
theorem dL_fine_1 : decode cL_fine 1 = .ok (.iconst 0, 1) := by decide +kernel
theorem dL_fine_2 : decode cL_fine 2 = .ok (.aload_n 0, 1) := by decide +kernel
theorem dL_fine_3 : decode cL_fine 3 = .ok (.iload_n 1, 1) := by decide +kernel
theorem dL_fine_4 : decode cL_fine 4 = .ok (.iload_n 2, 1) := by decide +kernel
theorem dL_fine_5 : decode cL_fine 5 = .ok (.invokevirtual 65, 3) := by decide +kernel
theorem dL_fine_8 : decode cL_fine 8 = .ok (.i2l, 1) := by decide +kernel
theorem dL_fine_9 : decode cL_fine 9 = .ok (.lastore, 1) := by decide +kernel
theorem dL_fine_10 : decode cL_fine 10 = .ok (.goto 11, 3) := by decide +kernel
theorem dL_fine_13 : decode cL_fine 13 = .ok (.astore 4, 2) := by decide +kernel
theorem dL_fine_15 : decode cL_fine 15 = .ok (.iconst 1, 1) := by decide +kernel
theorem dL_fine_16 : decode cL_fine 16 = .ok (.ireturn, 1) := by decide +kernel
theorem dL_fine_17 : decode cL_fine 17 = .ok (.astore 4, 2) := by decide +kernel
theorem dL_fine_19 : decode cL_fine 19 = .ok (.iconst 2, 1) := by decide +kernel
theorem dL_fine_20 : decode cL_fine 20 = .ok (.ireturn, 1) := by decide +kernel
theorem dL_fine_21 : decode cL_fine 21 = .ok (.iconst 0, 1) := by decide +kernel
theorem dL_fine_22 : decode cL_fine 22 = .ok (.ireturn, 1) := by decide +kernel
set_option maxRecDepth 20000 in
theorem ggL_firstTeller_X2_firstTeller : GoodIn wsL_firstTeller wsX2_firstTeller := goodIn_ca (goodIn_r _ [6, 7, 8, 9, 10, 11, 5, 12, 13, 14, 15, 16, 17, 18, 19, 20, 21, 22, 23, 24, 25, 26, 27, 28, 29, 30, 31, 32, 33] (by decide +kernel) (by decide +kernel)) (goodIn_sub (fun _ h => List.mem_cons_of_mem _ (List.mem_append_right _ h)) (by decide +kernel))
set_option maxRecDepth 20000 in
theorem gL_firstTeller_X2_firstTeller : GoodIn wsL_firstTeller (wsV RL 68 RX2 yX2_firstTeller wsX2_firstTeller) := goodIn_app (goodIn_of _ (by decide +kernel)) ggL_firstTeller_X2_firstTeller
theorem dL_firstTeller_0 : decode cL_firstTeller 0 = .ok (.aload_n 2, 1) := by decide +kernel
theorem dL_firstTeller_1 : decode cL_firstTeller 1 = .ok (.iconst 0, 1) := by decide +kernel
theorem dL_firstTeller_2 : decode cL_firstTeller 2 = .ok (.aload_n 0, 1) := by decide +kernel
theorem dL_firstTeller_3 : decode cL_firstTeller 3 = .ok (.iload_n 1, 1) := by decide +kernel
theorem dL_firstTeller_4 : decode cL_firstTeller 4 = .ok (.invokevirtual 68, 3) := by decide +kernel
theorem dL_firstTeller_7 : decode cL_firstTeller 7 = .ok (.i2l, 1) := by decide +kernel
theorem dL_firstTeller_8 : decode cL_firstTeller 8 = .ok (.lastore, 1) := by decide +kernel
theorem dL_firstTeller_9 : decode cL_firstTeller 9 = .ok (.goto 6, 3) := by decide +kernel
theorem dL_firstTeller_12 : decode cL_firstTeller 12 = .ok (.astore_n 3, 1) := by decide +kernel
theorem dL_firstTeller_13 : decode cL_firstTeller 13 = .ok (.iconst 1, 1) := by decide +kernel
theorem dL_firstTeller_14 : decode cL_firstTeller 14 = .ok (.ireturn, 1) := by decide +kernel
theorem dL_firstTeller_15 : decode cL_firstTeller 15 = .ok (.iconst 0, 1) := by decide +kernel
theorem dL_firstTeller_16 : decode cL_firstTeller 16 = .ok (.ireturn, 1) := by decide +kernel
set_option maxRecDepth 20000 in
theorem ggL_law_X2_init : GoodIn wsL_law wsX2_init := goodIn_r _ [9, 10, 11, 12, 13, 14, 15, 16, 17, 18, 19, 20, 21, 502, 503, 504, 505, 506, 507] (by decide +kernel) (by decide +kernel)
set_option maxRecDepth 20000 in
theorem gL_law_X2_init : GoodIn wsL_law (wsX2_init) := ggL_law_X2_init
set_option maxRecDepth 20000 in
theorem ggL_law_X3_init : GoodIn wsL_law wsX3_init := goodIn_r _ [24, 25, 11, 12, 19, 26, 27, 28, 29, 30, 31, 32, 33, 34, 35, 36, 37, 38, 39, 40, 41, 42, 508, 509, 510, 511, 512, 513, 514, 515, 516, 517, 518, 519, 520, 521, 522, 523, 524, 525, 526] (by decide +kernel) (by decide +kernel)
set_option maxRecDepth 20000 in
theorem gL_law_X3_init : GoodIn wsL_law (wsX3_init) := ggL_law_X3_init
set_option maxRecDepth 20000 in
theorem ggL_law_L_open : GoodIn wsL_law wsL_open := goodIn_ca (goodIn_r _ [46, 47, 48, 49, 50, 2, 51, 52, 53, 15, 14, 13, 54, 55, 56, 57, 58, 11, 12, 19, 59, 31, 60, 61, 62, 63, 64, 502, 503, 504, 505, 506, 507, 527, 528, 529, 530, 531, 532] (by decide +kernel) (by decide +kernel)) (goodIn_sub (fun _ h => List.mem_append_left _ (List.mem_append_left _ (List.mem_append_right _ h))) (by decide +kernel))
set_option maxRecDepth 20000 in
theorem gL_law_L_open : GoodIn wsL_law (va_wsS RL 75 yL_open wsL_open) := goodIn_app (goodIn_of _ (by decide +kernel)) ggL_law_L_open
set_option maxRecDepth 20000 in
theorem ggL_law_X3_open : GoodIn wsL_law wsX3_open := goodIn_r _ [68, 69, 70, 28, 71, 72, 73, 5, 74, 508, 509, 510, 511, 512, 513, 514, 515, 516, 517, 518, 519, 520, 521, 522, 523, 524, 525, 526] (by decide +kernel) (by decide +kernel)
set_option maxRecDepth 20000 in
theorem gL_law_X3_open : GoodIn wsL_law (wsV RL 80 RX3 yX3_open wsX3_open) := goodIn_app (goodIn_of _ (by decide +kernel)) ggL_law_X3_open
set_option maxRecDepth 20000 in
theorem ggL_law_X3_thrown : GoodIn wsL_law wsX3_thrown := goodIn_r _ [78, 69, 508, 509, 510, 511, 512, 513, 514, 515, 516, 517, 518, 519, 520, 521, 522, 523, 524, 525, 526] (by decide +kernel) (by decide +kernel)
set_option maxRecDepth 20000 in
theorem gL_law_X3_thrown : GoodIn wsL_law (wsV RL 81 RX3 yX3_thrown wsX3_thrown) := goodIn_app (goodIn_of _ (by decide +kernel)) ggL_law_X3_thrown
set_option maxRecDepth 20000 in
theorem ggL_law_L_bid : GoodIn wsL_law wsL_bid := goodIn_ca (goodIn_ca (goodIn_ca (goodIn_r _ [81, 82, 83, 47, 84, 85, 86, 2, 87, 88, 89, 90, 91, 52, 53, 92, 93, 94, 95, 14, 96, 97, 98, 99, 100, 101, 102, 103, 104, 105, 55, 106, 61, 107, 108, 109, 110, 59, 111, 112, 113, 114, 115, 116, 117, 118, 119, 120, 121, 122, 60, 502, 503, 504, 505, 506, 507, 527, 528, 529, 530, 531, 532] (by decide +kernel) (by decide +kernel)) (goodIn_sub (fun _ h => List.mem_append_left _ (List.mem_append_right _ h)) (by decide +kernel))) (goodIn_sub (fun _ h => List.mem_append_right _ h) (by decide +kernel))) (goodIn_sub (fun _ h => List.mem_append_left _ (List.mem_append_left _ (List.mem_append_right _ h))) (by decide +kernel))
set_option maxRecDepth 20000 in
theorem gL_law_L_bid : GoodIn wsL_law (va_wsS RL 84 yL_bid wsL_bid) := goodIn_app (goodIn_of _ (by decide +kernel)) ggL_law_L_bid
set_option maxRecDepth 20000 in
theorem ggL_law_X3_bid : GoodIn wsL_law wsX3_bid := goodIn_r _ [126, 69, 127, 26, 30, 128, 129, 130, 5, 131, 70, 132, 133, 134, 71, 72, 73, 74, 135, 136, 137, 138, 139, 140, 141, 142, 143, 144, 145, 32, 508, 509, 510, 511, 512, 513, 514, 515, 516, 517, 518, 519, 520, 521, 522, 523, 524, 525, 526] (by decide +kernel) (by decide +kernel)
set_option maxRecDepth 20000 in
theorem gL_law_X3_bid : GoodIn wsL_law (wsV RL 87 RX3 yX3_bid wsX3_bid) := goodIn_app (goodIn_of _ (by decide +kernel)) ggL_law_X3_bid
set_option maxRecDepth 20000 in
theorem ggL_law_L_withdraw : GoodIn wsL_law wsL_withdraw := goodIn_ca (goodIn_ca (goodIn_ca (goodIn_r _ [148, 82, 83, 47, 149, 150, 151, 2, 152, 88, 89, 90, 91, 52, 53, 92, 93, 94, 95, 14, 96, 97, 98, 103, 104, 105, 55, 106, 61, 153, 120, 121, 122, 59, 60, 154, 155, 156, 157, 158, 159, 160, 161, 502, 503, 504, 505, 506, 507, 527, 528, 529, 530, 531, 532] (by decide +kernel) (by decide +kernel)) (goodIn_sub (fun _ h => List.mem_append_left _ (List.mem_append_right _ h)) (by decide +kernel))) (goodIn_sub (fun _ h => List.mem_append_right _ h) (by decide +kernel))) (goodIn_sub (fun _ h => List.mem_append_left _ (List.mem_append_left _ (List.mem_append_right _ h))) (by decide +kernel))
set_option maxRecDepth 20000 in
theorem gL_law_L_withdraw : GoodIn wsL_law (va_wsS RL 88 yL_withdraw wsL_withdraw) := goodIn_app (goodIn_of _ (by decide +kernel)) ggL_law_L_withdraw
set_option maxRecDepth 20000 in
theorem ggL_law_X3_withdraw : GoodIn wsL_law wsX3_withdraw := goodIn_r _ [165, 69, 26, 32, 30, 128, 129, 130, 5, 131, 70, 132, 133, 134, 71, 72, 73, 74, 135, 136, 137, 142, 143, 144, 145, 508, 509, 510, 511, 512, 513, 514, 515, 516, 517, 518, 519, 520, 521, 522, 523, 524, 525, 526] (by decide +kernel) (by decide +kernel)
set_option maxRecDepth 20000 in
theorem gL_law_X3_withdraw : GoodIn wsL_law (wsV RL 91 RX3 yX3_withdraw wsX3_withdraw) := goodIn_app (goodIn_of _ (by decide +kernel)) ggL_law_X3_withdraw
set_option maxRecDepth 20000 in
theorem ggL_law_L_award : GoodIn wsL_law wsL_award := goodIn_ca (goodIn_ca (goodIn_r _ [168, 82, 47, 169, 170, 171, 2, 172, 88, 89, 52, 53, 92, 93, 94, 95, 14, 103, 104, 105, 55, 106, 61, 173, 174, 175, 176, 62, 119, 120, 121, 122, 59, 60, 97, 98, 177, 159, 160, 161, 178, 179, 180, 181, 502, 503, 504, 505, 506, 507, 527, 528, 529, 530, 531, 532] (by decide +kernel) (by decide +kernel)) (goodIn_sub (fun _ h => List.mem_append_left _ (List.mem_append_right _ h)) (by decide +kernel))) (goodIn_sub (fun _ h => List.mem_append_left _ (List.mem_append_left _ (List.mem_append_right _ h))) (by decide +kernel))
set_option maxRecDepth 20000 in
theorem gL_law_L_award : GoodIn wsL_law (va_wsS RL 92 yL_award wsL_award) := goodIn_app (goodIn_of _ (by decide +kernel)) ggL_law_L_award
set_option maxRecDepth 20000 in
theorem ggL_law_X3_award : GoodIn wsL_law wsX3_award := goodIn_r _ [185, 69, 26, 30, 27, 128, 129, 130, 5, 131, 70, 132, 133, 134, 71, 72, 73, 74, 142, 143, 144, 145, 32, 508, 509, 510, 511, 512, 513, 514, 515, 516, 517, 518, 519, 520, 521, 522, 523, 524, 525, 526] (by decide +kernel) (by decide +kernel)
set_option maxRecDepth 20000 in
theorem gL_law_X3_award : GoodIn wsL_law (wsV RL 95 RX3 yX3_award wsX3_award) := goodIn_app (goodIn_of _ (by decide +kernel)) ggL_law_X3_award
set_option maxRecDepth 20000 in
theorem ggL_law_L_passOn : GoodIn wsL_law wsL_passOn := goodIn_ca (goodIn_ca (goodIn_ca (goodIn_r _ [188, 82, 47, 83, 189, 190, 191, 2, 192, 88, 89, 52, 53, 90, 91, 92, 93, 94, 95, 14, 193, 194, 195, 55, 196, 62, 197, 198, 199, 200, 63, 178, 179, 180, 181, 96, 97, 98, 158, 159, 160, 161, 59, 201, 202, 203, 204, 64, 502, 503, 504, 505, 506, 507, 527, 528, 529, 530, 531, 532] (by decide +kernel) (by decide +kernel)) (goodIn_sub (fun _ h => List.mem_append_left _ (List.mem_append_right _ h)) (by decide +kernel))) (goodIn_sub (fun _ h => List.mem_append_left _ (List.mem_append_left _ (List.mem_append_right _ h))) (by decide +kernel))) (goodIn_sub (fun _ h => List.mem_append_right _ h) (by decide +kernel))
set_option maxRecDepth 20000 in
theorem gL_law_L_passOn : GoodIn wsL_law (va_wsS RL 96 yL_passOn wsL_passOn) := goodIn_app (goodIn_of _ (by decide +kernel)) ggL_law_L_passOn
set_option maxRecDepth 20000 in
theorem ggL_law_X3_passOn : GoodIn wsL_law wsX3_passOn := goodIn_r _ [208, 69, 26, 28, 27, 29, 128, 129, 130, 5, 131, 70, 132, 133, 134, 71, 72, 73, 74, 135, 136, 137, 209, 210, 211, 212, 30, 508, 509, 510, 511, 512, 513, 514, 515, 516, 517, 518, 519, 520, 521, 522, 523, 524, 525, 526] (by decide +kernel) (by decide +kernel)
set_option maxRecDepth 20000 in
theorem gL_law_X3_passOn : GoodIn wsL_law (wsV RL 98 RX3 yX3_passOn wsX3_passOn) := goodIn_app (goodIn_of _ (by decide +kernel)) ggL_law_X3_passOn
set_option maxRecDepth 20000 in
theorem ggL_law_L_turnover : GoodIn wsL_law wsL_turnover := goodIn_ca (goodIn_r _ [215, 83, 216, 217, 218, 2, 219, 90, 91, 96, 97, 98, 220, 221, 222, 223, 14, 224, 225, 226, 55, 227, 62, 64, 63, 177, 159, 160, 161, 59, 502, 503, 504, 505, 506, 507, 527, 528, 529, 530, 531, 532] (by decide +kernel) (by decide +kernel)) (goodIn_sub (fun _ h => List.mem_append_right _ h) (by decide +kernel))
set_option maxRecDepth 20000 in
theorem gL_law_L_turnover : GoodIn wsL_law (va_wsS RL 99 yL_turnover wsL_turnover) := goodIn_app (goodIn_of _ (by decide +kernel)) ggL_law_L_turnover
set_option maxRecDepth 20000 in
theorem ggL_law_X3_turnover : GoodIn wsL_law wsX3_turnover := goodIn_r _ [231, 69, 135, 136, 5, 137, 132, 133, 134, 232, 233, 234, 235, 70, 26, 27, 29, 28, 209, 210, 211, 212, 30, 71, 72, 73, 74, 508, 509, 510, 511, 512, 513, 514, 515, 516, 517, 518, 519, 520, 521, 522, 523, 524, 525, 526] (by decide +kernel) (by decide +kernel)
set_option maxRecDepth 20000 in
theorem gL_law_X3_turnover : GoodIn wsL_law (wsV RL 101 RX3 yX3_turnover wsX3_turnover) := goodIn_app (goodIn_of _ (by decide +kernel)) ggL_law_X3_turnover
set_option maxRecDepth 20000 in
theorem ggL_law_L_won : GoodIn wsL_law wsL_won := goodIn_ca (goodIn_r _ [238, 83, 239, 240, 241, 2, 242, 90, 91, 14, 96, 97, 98, 178, 179, 180, 55, 181, 62, 502, 503, 504, 505, 506, 507, 527, 528, 529, 530, 531, 532] (by decide +kernel) (by decide +kernel)) (goodIn_sub (fun _ h => List.mem_append_right _ h) (by decide +kernel))
set_option maxRecDepth 20000 in
theorem gL_law_L_won : GoodIn wsL_law (va_wsS RL 102 yL_won wsL_won) := goodIn_app (goodIn_of _ (by decide +kernel)) ggL_law_L_won
set_option maxRecDepth 20000 in
theorem ggL_law_X3_won : GoodIn wsL_law wsX3_won := goodIn_r _ [246, 69, 70, 26, 27, 135, 136, 5, 137, 132, 133, 134, 71, 72, 73, 74, 508, 509, 510, 511, 512, 513, 514, 515, 516, 517, 518, 519, 520, 521, 522, 523, 524, 525, 526] (by decide +kernel) (by decide +kernel)
set_option maxRecDepth 20000 in
theorem gL_law_X3_won : GoodIn wsL_law (wsV RL 104 RX3 yX3_won wsX3_won) := goodIn_app (goodIn_of _ (by decide +kernel)) ggL_law_X3_won
set_option maxRecDepth 20000 in
theorem ggL_law_L_suspicion : GoodIn wsL_law wsL_suspicion := goodIn_ca (goodIn_r _ [249, 83, 250, 251, 252, 2, 253, 90, 91, 254, 255, 256, 96, 97, 98, 257, 258, 259, 260, 14, 261, 262, 263, 264, 92, 93, 94, 95, 178, 179, 180, 55, 181, 62, 265, 266, 267, 268, 63, 119, 120, 121, 122, 59, 60, 177, 159, 160, 161, 269, 270, 271, 272, 273, 108, 109, 110, 274, 275, 276, 277, 153, 278, 279, 280, 281, 193, 194, 195, 196, 502, 503, 504, 505, 506, 507, 527, 528, 529, 530, 531, 532] (by decide +kernel) (by decide +kernel)) (goodIn_sub (fun _ h => List.mem_append_right _ h) (by decide +kernel))
set_option maxRecDepth 20000 in
theorem gL_law_L_suspicion : GoodIn wsL_law (va_wsS RL 105 yL_suspicion wsL_suspicion) := goodIn_app (goodIn_of _ (by decide +kernel)) ggL_law_L_suspicion
set_option maxRecDepth 20000 in
theorem ggL_law_X3_suspicion : GoodIn wsL_law wsX3_suspicion := goodIn_r _ [285, 69, 286, 287, 5, 288, 135, 136, 137, 132, 133, 134, 289, 290, 291, 292, 70, 293, 294, 295, 296, 26, 27, 30, 28, 32, 209, 210, 211, 212, 142, 143, 144, 145, 297, 298, 299, 300, 71, 72, 73, 74, 508, 509, 510, 511, 512, 513, 514, 515, 516, 517, 518, 519, 520, 521, 522, 523, 524, 525, 526] (by decide +kernel) (by decide +kernel)
set_option maxRecDepth 20000 in
theorem gL_law_X3_suspicion : GoodIn wsL_law (wsV RL 107 RX3 yX3_suspicion wsX3_suspicion) := goodIn_app (goodIn_of _ (by decide +kernel)) ggL_law_X3_suspicion
set_option maxRecDepth 20000 in
theorem ggL_law_L_sign : GoodIn wsL_law wsL_sign := goodIn_ca (goodIn_ca (goodIn_r _ [303, 82, 83, 304, 305, 306, 2, 307, 88, 89, 90, 91, 92, 93, 94, 95, 14, 254, 255, 256, 96, 97, 98, 261, 262, 263, 264, 178, 179, 180, 55, 181, 62, 265, 266, 267, 268, 63, 119, 120, 121, 122, 59, 60, 177, 159, 160, 161, 269, 270, 271, 272, 273, 108, 109, 110, 274, 275, 276, 277, 153, 278, 279, 280, 281, 193, 194, 195, 196, 502, 503, 504, 505, 506, 507, 527, 528, 529, 530, 531, 532] (by decide +kernel) (by decide +kernel)) (goodIn_sub (fun _ h => List.mem_append_left _ (List.mem_append_right _ h)) (by decide +kernel))) (goodIn_sub (fun _ h => List.mem_append_right _ h) (by decide +kernel))
set_option maxRecDepth 20000 in
theorem gL_law_L_sign : GoodIn wsL_law (va_wsS RL 108 yL_sign wsL_sign) := goodIn_app (goodIn_of _ (by decide +kernel)) ggL_law_L_sign
set_option maxRecDepth 20000 in
theorem ggL_law_X3_sign : GoodIn wsL_law wsX3_sign := goodIn_r _ [311, 69, 128, 129, 130, 5, 131, 70, 132, 133, 134, 71, 72, 73, 74, 286, 287, 288, 135, 136, 137, 293, 294, 295, 296, 26, 27, 30, 28, 32, 209, 210, 211, 212, 142, 143, 144, 145, 297, 298, 299, 300, 508, 509, 510, 511, 512, 513, 514, 515, 516, 517, 518, 519, 520, 521, 522, 523, 524, 525, 526] (by decide +kernel) (by decide +kernel)
set_option maxRecDepth 20000 in
theorem gL_law_X3_sign : GoodIn wsL_law (wsV RL 110 RX3 yX3_sign wsX3_sign) := goodIn_app (goodIn_of _ (by decide +kernel)) ggL_law_X3_sign
set_option maxRecDepth 20000 in
theorem ggL_law_L_setMark : GoodIn wsL_law wsL_setMark := goodIn_ca (goodIn_r _ [314, 83, 315, 316, 317, 2, 318, 90, 91, 21, 502, 503, 504, 505, 506, 507] (by decide +kernel) (by decide +kernel)) (goodIn_sub (fun _ h => List.mem_append_right _ h) (by decide +kernel))
set_option maxRecDepth 20000 in
theorem gL_law_L_setMark : GoodIn wsL_law (va_wsS RL 111 yL_setMark wsL_setMark) := goodIn_app (goodIn_of _ (by decide +kernel)) ggL_law_L_setMark
set_option maxRecDepth 20000 in
theorem ggL_law_X3_setMark : GoodIn wsL_law wsX3_setMark := goodIn_r _ [322, 69, 33, 132, 133, 5, 134, 71, 72, 73, 74, 508, 509, 510, 511, 512, 513, 514, 515, 516, 517, 518, 519, 520, 521, 522, 523, 524, 525, 526] (by decide +kernel) (by decide +kernel)
set_option maxRecDepth 20000 in
theorem gL_law_X3_setMark : GoodIn wsL_law (wsV RL 113 RX3 yX3_setMark wsX3_setMark) := goodIn_app (goodIn_of _ (by decide +kernel)) ggL_law_X3_setMark
set_option maxRecDepth 20000 in
theorem ggL_law_X2_worst : GoodIn wsL_law wsX2_worst := goodIn_r _ [326, 257, 258, 259, 2, 260, 14, 261, 262, 263, 264, 92, 93, 94, 95, 178, 179, 180, 55, 181, 62, 265, 266, 267, 268, 63, 119, 120, 121, 122, 59, 60, 97, 98, 177, 159, 160, 161, 269, 270, 271, 272, 273, 108, 109, 110, 274, 275, 276, 277, 153, 278, 279, 280, 281, 193, 194, 195, 196, 502, 503, 504, 505, 506, 507, 527, 528, 529, 530, 531, 532] (by decide +kernel) (by decide +kernel)
set_option maxRecDepth 20000 in
theorem gL_law_X2_worst : GoodIn wsL_law (wsV RL 114 RX2 yX2_worst wsX2_worst) := goodIn_app (goodIn_of _ (by decide +kernel)) ggL_law_X2_worst
set_option maxRecDepth 20000 in
theorem ggL_law_X3_worst : GoodIn wsL_law wsX3_worst := goodIn_r _ [330, 69, 289, 290, 291, 5, 292, 70, 293, 294, 295, 296, 26, 27, 30, 28, 32, 209, 210, 211, 212, 142, 143, 144, 145, 297, 298, 299, 300, 508, 509, 510, 511, 512, 513, 514, 515, 516, 517, 518, 519, 520, 521, 522, 523, 524, 525, 526] (by decide +kernel) (by decide +kernel)
set_option maxRecDepth 20000 in
theorem gL_law_X3_worst : GoodIn wsL_law (wsV RL 117 RX3 yX3_worst wsX3_worst) := goodIn_app (goodIn_of _ (by decide +kernel)) ggL_law_X3_worst
set_option maxRecDepth 20000 in
theorem ggL_law_L_file : GoodIn wsL_law wsL_file := goodIn_ca (goodIn_ca (goodIn_r _ [333, 83, 47, 334, 335, 336, 2, 337, 90, 91, 52, 53, 18, 17, 21, 16, 338, 339, 14, 254, 255, 256, 96, 97, 98, 340, 341, 342, 343, 344, 345, 346, 347, 348, 349, 257, 258, 259, 260, 261, 262, 263, 264, 92, 93, 94, 95, 178, 179, 180, 55, 181, 62, 265, 266, 267, 268, 63, 119, 120, 121, 122, 59, 60, 177, 159, 160, 161, 269, 270, 271, 272, 273, 108, 109, 110, 274, 275, 276, 277, 153, 278, 279, 280, 281, 193, 194, 195, 196, 350, 351, 352, 353, 11, 12, 31, 354, 19, 355, 356, 357, 358, 359, 360, 361, 362, 363, 502, 503, 504, 505, 506, 507, 533, 534, 535, 536, 537, 538, 539, 540, 527, 528, 529, 530, 531, 532] (by decide +kernel) (by decide +kernel)) (goodIn_sub (fun _ h => List.mem_append_right _ h) (by decide +kernel))) (goodIn_sub (fun _ h => List.mem_append_left _ (List.mem_append_left _ (List.mem_append_right _ h))) (by decide +kernel))
set_option maxRecDepth 20000 in
theorem gL_law_L_file : GoodIn wsL_law (va_wsS RL 118 yL_file wsL_file) := goodIn_app (goodIn_of _ (by decide +kernel)) ggL_law_L_file
set_option maxRecDepth 20000 in
theorem ggL_law_X3_file : GoodIn wsL_law wsX3_file := goodIn_r _ [367, 69, 368, 34, 35, 33, 38, 70, 36, 286, 287, 5, 288, 135, 136, 137, 132, 133, 134, 71, 72, 73, 74, 289, 290, 291, 292, 293, 294, 295, 296, 26, 27, 30, 28, 32, 209, 210, 211, 212, 142, 143, 144, 145, 297, 298, 299, 300, 508, 509, 510, 511, 512, 513, 514, 515, 516, 517, 518, 519, 520, 521, 522, 523, 524, 525, 526] (by decide +kernel) (by decide +kernel)
set_option maxRecDepth 20000 in
theorem gL_law_X3_file : GoodIn wsL_law (wsV RL 120 RX3 yX3_file wsX3_file) := goodIn_app (goodIn_of _ (by decide +kernel)) ggL_law_X3_file
set_option maxRecDepth 20000 in
theorem ggL_law_L_matters : GoodIn wsL_law wsL_matters := goodIn_ca (goodIn_r _ [371, 82, 372, 373, 374, 2, 375, 88, 89, 376, 377, 378, 379, 17, 380, 381, 382, 339, 383, 357, 502, 503, 504, 505, 506, 507, 533, 534, 535, 536, 537, 538, 539, 540] (by decide +kernel) (by decide +kernel)) (goodIn_sub (fun _ h => List.mem_append_left _ (List.mem_append_right _ h)) (by decide +kernel))
set_option maxRecDepth 20000 in
theorem gL_law_L_matters : GoodIn wsL_law (va_wsS RL 121 yL_matters wsL_matters) := goodIn_app (goodIn_of _ (by decide +kernel)) ggL_law_L_matters
set_option maxRecDepth 20000 in
theorem ggL_law_X3_matters : GoodIn wsL_law wsX3_matters := goodIn_r _ [387, 69, 36, 388, 389, 390, 5, 391, 368, 132, 133, 134, 392, 393, 394, 71, 72, 73, 74, 508, 509, 510, 511, 512, 513, 514, 515, 516, 517, 518, 519, 520, 521, 522, 523, 524, 525, 526] (by decide +kernel) (by decide +kernel)
set_option maxRecDepth 20000 in
theorem gL_law_X3_matters : GoodIn wsL_law (wsV RL 123 RX3 yX3_matters wsX3_matters) := goodIn_app (goodIn_of _ (by decide +kernel)) ggL_law_X3_matters
set_option maxRecDepth 20000 in
theorem ggL_law_L_tell : GoodIn wsL_law wsL_tell := goodIn_ca (goodIn_ca (goodIn_ca (goodIn_r _ [397, 82, 83, 47, 398, 399, 400, 2, 401, 88, 89, 90, 91, 52, 53, 376, 377, 378, 379, 17, 92, 93, 94, 95, 14, 344, 345, 346, 339, 347, 348, 349, 402, 403, 404, 405, 359, 406, 407, 408, 409, 354, 355, 358, 97, 98, 502, 503, 504, 505, 506, 507, 533, 534, 535, 536, 537, 538, 539, 540] (by decide +kernel) (by decide +kernel)) (goodIn_sub (fun _ h => List.mem_append_left _ (List.mem_append_right _ h)) (by decide +kernel))) (goodIn_sub (fun _ h => List.mem_append_right _ h) (by decide +kernel))) (goodIn_sub (fun _ h => List.mem_append_left _ (List.mem_append_left _ (List.mem_append_right _ h))) (by decide +kernel))
set_option maxRecDepth 20000 in
theorem gL_law_L_tell : GoodIn wsL_law (va_wsS RL 124 yL_tell wsL_tell) := goodIn_app (goodIn_of _ (by decide +kernel)) ggL_law_L_tell
set_option maxRecDepth 20000 in
theorem ggL_law_X3_tell : GoodIn wsL_law wsX3_tell := goodIn_r _ [413, 41, 69, 36, 37, 38, 39, 34, 388, 389, 390, 5, 391, 368, 132, 133, 134, 128, 129, 130, 131, 70, 414, 415, 416, 417, 35, 508, 509, 510, 511, 512, 513, 514, 515, 516, 517, 518, 519, 520, 521, 522, 523, 524, 525, 526] (by decide +kernel) (by decide +kernel)
set_option maxRecDepth 20000 in
theorem gL_law_X3_tell : GoodIn wsL_law (wsV RL 126 RX3 yX3_tell wsX3_tell) := goodIn_app (goodIn_of _ (by decide +kernel)) ggL_law_X3_tell
set_option maxRecDepth 20000 in
theorem ggL_law_L_compensate : GoodIn wsL_law wsL_compensate := goodIn_ca (goodIn_r _ [420, 83, 421, 422, 423, 2, 424, 90, 91, 20, 96, 97, 98, 99, 100, 101, 102, 502, 503, 504, 505, 506, 507] (by decide +kernel) (by decide +kernel)) (goodIn_sub (fun _ h => List.mem_append_right _ h) (by decide +kernel))
set_option maxRecDepth 20000 in
theorem gL_law_L_compensate : GoodIn wsL_law (va_wsS RL 127 yL_compensate wsL_compensate) := goodIn_app (goodIn_of _ (by decide +kernel)) ggL_law_L_compensate
set_option maxRecDepth 20000 in
theorem ggL_law_X3_compensate : GoodIn wsL_law wsX3_compensate := goodIn_r _ [428, 69, 127, 42, 135, 136, 5, 137, 132, 133, 134, 71, 72, 73, 74, 508, 509, 510, 511, 512, 513, 514, 515, 516, 517, 518, 519, 520, 521, 522, 523, 524, 525, 526] (by decide +kernel) (by decide +kernel)
set_option maxRecDepth 20000 in
theorem gL_law_X3_compensate : GoodIn wsL_law (wsV RL 129 RX3 yX3_compensate wsX3_compensate) := goodIn_app (goodIn_of _ (by decide +kernel)) ggL_law_X3_compensate
set_option maxRecDepth 20000 in
theorem ggL_law_L_close : GoodIn wsL_law wsL_close := goodIn_ca (goodIn_ca (goodIn_r _ [431, 82, 47, 432, 433, 434, 2, 435, 88, 89, 52, 53, 376, 377, 378, 379, 17, 402, 403, 404, 339, 405, 359, 436, 437, 438, 439, 440, 441, 442, 443, 348, 444, 445, 446, 447, 20, 448, 449, 450, 451, 96, 97, 98, 220, 221, 222, 223, 14, 224, 225, 226, 55, 227, 62, 64, 63, 177, 159, 160, 161, 59, 452, 453, 454, 455, 355, 358, 357, 456, 457, 458, 459, 356, 460, 461, 462, 463, 349, 502, 503, 504, 505, 506, 507, 533, 534, 535, 536, 537, 538, 539, 540, 527, 528, 529, 530, 531, 532] (by decide +kernel) (by decide +kernel)) (goodIn_sub (fun _ h => List.mem_append_left _ (List.mem_append_right _ h)) (by decide +kernel))) (goodIn_sub (fun _ h => List.mem_append_left _ (List.mem_append_left _ (List.mem_append_right _ h))) (by decide +kernel))
set_option maxRecDepth 20000 in
theorem gL_law_L_close : GoodIn wsL_law (va_wsS RL 130 yL_close wsL_close) := goodIn_app (goodIn_of _ (by decide +kernel)) ggL_law_L_close
set_option maxRecDepth 20000 in
theorem ggL_law_X3_close : GoodIn wsL_law wsX3_close := goodIn_r _ [467, 69, 41, 40, 34, 39, 35, 388, 389, 390, 5, 391, 368, 132, 133, 134, 71, 72, 73, 74, 468, 469, 470, 471, 38, 36, 42, 232, 233, 234, 235, 70, 26, 27, 29, 28, 209, 210, 211, 212, 30, 392, 393, 394, 508, 509, 510, 511, 512, 513, 514, 515, 516, 517, 518, 519, 520, 521, 522, 523, 524, 525, 526] (by decide +kernel) (by decide +kernel)
set_option maxRecDepth 20000 in
theorem gL_law_X3_close : GoodIn wsL_law (wsV RL 132 RX3 yX3_close wsX3_close) := goodIn_app (goodIn_of _ (by decide +kernel)) ggL_law_X3_close
set_option maxRecDepth 20000 in
theorem ggL_law_L_fine : GoodIn wsL_law wsL_fine := goodIn_ca (goodIn_ca (goodIn_r _ [474, 82, 83, 475, 476, 477, 2, 478, 88, 89, 90, 91, 376, 377, 378, 379, 17, 344, 345, 346, 339, 347, 348, 349, 479, 480, 481, 482, 356, 97, 98, 502, 503, 504, 505, 506, 507, 533, 534, 535, 536, 537, 538, 539, 540] (by decide +kernel) (by decide +kernel)) (goodIn_sub (fun _ h => List.mem_append_left _ (List.mem_append_right _ h)) (by decide +kernel))) (goodIn_sub (fun _ h => List.mem_append_right _ h) (by decide +kernel))
set_option maxRecDepth 20000 in
theorem gL_law_L_fine : GoodIn wsL_law (va_wsS RL 133 yL_fine wsL_fine) := goodIn_app (goodIn_of _ (by decide +kernel)) ggL_law_L_fine
set_option maxRecDepth 20000 in
theorem ggL_law_X3_fine : GoodIn wsL_law wsX3_fine := goodIn_r _ [486, 69, 40, 34, 388, 389, 390, 5, 391, 368, 132, 133, 134, 71, 72, 73, 74, 414, 415, 416, 417, 35, 508, 509, 510, 511, 512, 513, 514, 515, 516, 517, 518, 519, 520, 521, 522, 523, 524, 525, 526] (by decide +kernel) (by decide +kernel)
set_option maxRecDepth 20000 in
theorem gL_law_X3_fine : GoodIn wsL_law (wsV RL 135 RX3 yX3_fine wsX3_fine) := goodIn_app (goodIn_of _ (by decide +kernel)) ggL_law_X3_fine
end
section
set_option maxRecDepth 20000 in
theorem ggL_law_L_firstTeller : GoodIn wsL_law wsL_firstTeller := goodIn_ca (goodIn_r _ [489, 82, 490, 491, 492, 2, 493, 88, 89, 376, 377, 378, 379, 17, 494, 495, 496, 339, 497, 358, 502, 503, 504, 505, 506, 507, 533, 534, 535, 536, 537, 538, 539, 540] (by decide +kernel) (by decide +kernel)) (goodIn_sub (fun _ h => List.mem_append_left _ (List.mem_append_right _ h)) (by decide +kernel))
set_option maxRecDepth 20000 in
theorem gL_law_L_firstTeller : GoodIn wsL_law (va_wsS RL 136 yL_firstTeller wsL_firstTeller) := goodIn_app (goodIn_of _ (by decide +kernel)) ggL_law_L_firstTeller
set_option maxRecDepth 20000 in
theorem ggL_law_X3_firstTeller : GoodIn wsL_law wsX3_firstTeller := goodIn_r _ [501, 69, 38, 388, 389, 390, 5, 391, 368, 132, 133, 134, 71, 72, 73, 74, 508, 509, 510, 511, 512, 513, 514, 515, 516, 517, 518, 519, 520, 521, 522, 523, 524, 525, 526] (by decide +kernel) (by decide +kernel)
set_option maxRecDepth 20000 in
theorem gL_law_X3_firstTeller : GoodIn wsL_law (wsV RL 138 RX3 yX3_firstTeller wsX3_firstTeller) := goodIn_app (goodIn_of _ (by decide +kernel)) ggL_law_X3_firstTeller
theorem dL_law_0 : decode cL_law 0 = .ok (.new 8, 3) := by decide +kernel
theorem dL_law_3 : decode cL_law 3 = .ok (.dup, 1) := by decide +kernel
theorem dL_law_4 : decode cL_law 4 = .ok (.invokespecial 71, 3) := by decide +kernel
theorem dL_law_7 : decode cL_law 7 = .ok (.astore_n 1, 1) := by decide +kernel
theorem dL_law_8 : decode cL_law 8 = .ok (.new 72, 3) := by decide +kernel
theorem dL_law_11 : decode cL_law 11 = .ok (.dup, 1) := by decide +kernel
theorem dL_law_12 : decode cL_law 12 = .ok (.invokespecial 74, 3) := by decide +kernel
theorem dL_law_15 : decode cL_law 15 = .ok (.astore_n 2, 1) := by decide +kernel
theorem dL_law_16 : decode cL_law 16 = .ok (.iconst 1, 1) := by decide +kernel
theorem dL_law_17 : decode cL_law 17 = .ok (.newarray .long, 2) := by decide +kernel
theorem dL_law_19 : decode cL_law 19 = .ok (.astore_n 3, 1) := by decide +kernel
theorem dL_law_20 : decode cL_law 20 = .ok (.iconst 0, 1) := by decide +kernel
theorem dL_law_21 : decode cL_law 21 = .ok (.istore 4, 2) := by decide +kernel
theorem dL_law_23 : decode cL_law 23 = .ok (.iload 4, 2) := by decide +kernel
theorem dL_law_25 : decode cL_law 25 = .ok (.aload_n 0, 1) := by decide +kernel
theorem dL_law_26 : decode cL_law 26 = .ok (.arraylength, 1) := by decide +kernel
theorem dL_law_27 : decode cL_law 27 = .ok (.iconst 4, 1) := by decide +kernel
theorem dL_law_28 : decode cL_law 28 = .ok (.isub, 1) := by decide +kernel
theorem dL_law_29 : decode cL_law 29 = .ok (.if_icmp .gt 1217, 3) := by decide +kernel
theorem dL_law_32 : decode cL_law 32 = .ok (.aload_n 0, 1) := by decide +kernel
theorem dL_law_33 : decode cL_law 33 = .ok (.iload 4, 2) := by decide +kernel
theorem dL_law_35 : decode cL_law 35 = .ok (.iaload, 1) := by decide +kernel
theorem dL_law_36 : decode cL_law 36 = .ok (.bipush 31, 2) := by decide +kernel
theorem dL_law_38 : decode cL_law 38 = .ok (.iand, 1) := by decide +kernel
theorem dL_law_39 : decode cL_law 39 = .ok (.tableswitch 1201 0 17 #[85, 129, 209, 277, 333, 413, 469, 525, 593, 673, 729, 742, 810, 866, 953, 1021, 1077, 1145], 85) := by decide +kernel
theorem dL_law_124 : decode cL_law 124 = .ok (.aload_n 1, 1) := by decide +kernel
theorem dL_law_125 : decode cL_law 125 = .ok (.aload_n 3, 1) := by decide +kernel
theorem dL_law_126 : decode cL_law 126 = .ok (.invokestatic 75, 3) := by decide +kernel
theorem dL_law_129 : decode cL_law 129 = .ok (.istore 5, 2) := by decide +kernel
theorem dL_law_131 : decode cL_law 131 = .ok (.aload_n 2, 1) := by decide +kernel
theorem dL_law_132 : decode cL_law 132 = .ok (.invokevirtual 80, 3) := by decide +kernel
theorem dL_law_135 : decode cL_law 135 = .ok (.istore 6, 2) := by decide +kernel
theorem dL_law_137 : decode cL_law 137 = .ok (.aload_n 2, 1) := by decide +kernel
theorem dL_law_138 : decode cL_law 138 = .ok (.invokevirtual 81, 3) := by decide +kernel
theorem dL_law_141 : decode cL_law 141 = .ok (.iload 5, 2) := by decide +kernel
theorem dL_law_143 : decode cL_law 143 = .ok (.if_icmp .eq 5, 3) := by decide +kernel
theorem dL_law_146 : decode cL_law 146 = .ok (.iconst 0, 1) := by decide +kernel
theorem dL_law_147 : decode cL_law 147 = .ok (.ireturn, 1) := by decide +kernel
theorem dL_law_148 : decode cL_law 148 = .ok (.iload 5, 2) := by decide +kernel
theorem dL_law_150 : decode cL_law 150 = .ok (.ifCond .ne 15, 3) := by decide +kernel
theorem dL_law_153 : decode cL_law 153 = .ok (.aload_n 3, 1) := by decide +kernel
theorem dL_law_154 : decode cL_law 154 = .ok (.iconst 0, 1) := by decide +kernel
theorem dL_law_155 : decode cL_law 155 = .ok (.laload, 1) := by decide +kernel
theorem dL_law_156 : decode cL_law 156 = .ok (.iload 6, 2) := by decide +kernel
theorem dL_law_158 : decode cL_law 158 = .ok (.i2l, 1) := by decide +kernel
theorem dL_law_159 : decode cL_law 159 = .ok (.lcmp, 1) := by decide +kernel
theorem dL_law_160 : decode cL_law 160 = .ok (.ifCond .eq 5, 3) := by decide +kernel
theorem dL_law_163 : decode cL_law 163 = .ok (.iconst 0, 1) := by decide +kernel
theorem dL_law_164 : decode cL_law 164 = .ok (.ireturn, 1) := by decide +kernel
theorem dL_law_165 : decode cL_law 165 = .ok (.goto 1075, 3) := by decide +kernel
theorem dL_law_168 : decode cL_law 168 = .ok (.aload_n 1, 1) := by decide +kernel
theorem dL_law_169 : decode cL_law 169 = .ok (.aload_n 0, 1) := by decide +kernel
theorem dL_law_170 : decode cL_law 170 = .ok (.iload 4, 2) := by decide +kernel
theorem dL_law_172 : decode cL_law 172 = .ok (.iconst 1, 1) := by decide +kernel
theorem dL_law_173 : decode cL_law 173 = .ok (.iadd, 1) := by decide +kernel
theorem dL_law_174 : decode cL_law 174 = .ok (.iaload, 1) := by decide +kernel
theorem dL_law_175 : decode cL_law 175 = .ok (.aload_n 0, 1) := by decide +kernel
theorem dL_law_176 : decode cL_law 176 = .ok (.iload 4, 2) := by decide +kernel
theorem dL_law_178 : decode cL_law 178 = .ok (.iconst 2, 1) := by decide +kernel
theorem dL_law_179 : decode cL_law 179 = .ok (.iadd, 1) := by decide +kernel
theorem dL_law_180 : decode cL_law 180 = .ok (.iaload, 1) := by decide +kernel
theorem dL_law_181 : decode cL_law 181 = .ok (.aload_n 0, 1) := by decide +kernel
theorem dL_law_182 : decode cL_law 182 = .ok (.iload 4, 2) := by decide +kernel
theorem dL_law_184 : decode cL_law 184 = .ok (.iconst 3, 1) := by decide +kernel
theorem dL_law_185 : decode cL_law 185 = .ok (.iadd, 1) := by decide +kernel
theorem dL_law_186 : decode cL_law 186 = .ok (.iaload, 1) := by decide +kernel
theorem dL_law_187 : decode cL_law 187 = .ok (.aload_n 3, 1) := by decide +kernel
theorem dL_law_188 : decode cL_law 188 = .ok (.invokestatic 84, 3) := by decide +kernel
theorem dL_law_191 : decode cL_law 191 = .ok (.istore 5, 2) := by decide +kernel
theorem dL_law_193 : decode cL_law 193 = .ok (.aload_n 2, 1) := by decide +kernel
theorem dL_law_194 : decode cL_law 194 = .ok (.aload_n 0, 1) := by decide +kernel
theorem dL_law_195 : decode cL_law 195 = .ok (.iload 4, 2) := by decide +kernel
theorem dL_law_197 : decode cL_law 197 = .ok (.iconst 1, 1) := by decide +kernel
theorem dL_law_198 : decode cL_law 198 = .ok (.iadd, 1) := by decide +kernel
theorem dL_law_199 : decode cL_law 199 = .ok (.iaload, 1) := by decide +kernel
theorem dL_law_200 : decode cL_law 200 = .ok (.aload_n 0, 1) := by decide +kernel
theorem dL_law_201 : decode cL_law 201 = .ok (.iload 4, 2) := by decide +kernel
theorem dL_law_203 : decode cL_law 203 = .ok (.iconst 2, 1) := by decide +kernel
theorem dL_law_204 : decode cL_law 204 = .ok (.iadd, 1) := by decide +kernel
theorem dL_law_205 : decode cL_law 205 = .ok (.iaload, 1) := by decide +kernel
theorem dL_law_206 : decode cL_law 206 = .ok (.aload_n 0, 1) := by decide +kernel
theorem dL_law_207 : decode cL_law 207 = .ok (.iload 4, 2) := by decide +kernel
theorem dL_law_209 : decode cL_law 209 = .ok (.iconst 3, 1) := by decide +kernel
theorem dL_law_210 : decode cL_law 210 = .ok (.iadd, 1) := by decide +kernel
theorem dL_law_211 : decode cL_law 211 = .ok (.iaload, 1) := by decide +kernel
theorem dL_law_212 : decode cL_law 212 = .ok (.invokevirtual 87, 3) := by decide +kernel
theorem dL_law_215 : decode cL_law 215 = .ok (.istore 6, 2) := by decide +kernel
theorem dL_law_217 : decode cL_law 217 = .ok (.aload_n 2, 1) := by decide +kernel
theorem dL_law_218 : decode cL_law 218 = .ok (.invokevirtual 81, 3) := by decide +kernel
theorem dL_law_221 : decode cL_law 221 = .ok (.iload 5, 2) := by decide +kernel
theorem dL_law_223 : decode cL_law 223 = .ok (.if_icmp .eq 5, 3) := by decide +kernel
theorem dL_law_226 : decode cL_law 226 = .ok (.iconst 0, 1) := by decide +kernel
theorem dL_law_227 : decode cL_law 227 = .ok (.ireturn, 1) := by decide +kernel
theorem dL_law_228 : decode cL_law 228 = .ok (.iload 5, 2) := by decide +kernel
theorem dL_law_230 : decode cL_law 230 = .ok (.ifCond .ne 15, 3) := by decide +kernel
theorem dL_law_233 : decode cL_law 233 = .ok (.aload_n 3, 1) := by decide +kernel
theorem dL_law_234 : decode cL_law 234 = .ok (.iconst 0, 1) := by decide +kernel
theorem dL_law_235 : decode cL_law 235 = .ok (.laload, 1) := by decide +kernel
theorem dL_law_236 : decode cL_law 236 = .ok (.iload 6, 2) := by decide +kernel
theorem dL_law_238 : decode cL_law 238 = .ok (.i2l, 1) := by decide +kernel
theorem dL_law_239 : decode cL_law 239 = .ok (.lcmp, 1) := by decide +kernel
theorem dL_law_240 : decode cL_law 240 = .ok (.ifCond .eq 5, 3) := by decide +kernel
theorem dL_law_243 : decode cL_law 243 = .ok (.iconst 0, 1) := by decide +kernel
theorem dL_law_244 : decode cL_law 244 = .ok (.ireturn, 1) := by decide +kernel
theorem dL_law_245 : decode cL_law 245 = .ok (.goto 995, 3) := by decide +kernel
theorem dL_law_248 : decode cL_law 248 = .ok (.aload_n 1, 1) := by decide +kernel
theorem dL_law_249 : decode cL_law 249 = .ok (.aload_n 0, 1) := by decide +kernel
theorem dL_law_250 : decode cL_law 250 = .ok (.iload 4, 2) := by decide +kernel
theorem dL_law_252 : decode cL_law 252 = .ok (.iconst 1, 1) := by decide +kernel
theorem dL_law_253 : decode cL_law 253 = .ok (.iadd, 1) := by decide +kernel
theorem dL_law_254 : decode cL_law 254 = .ok (.iaload, 1) := by decide +kernel
theorem dL_law_255 : decode cL_law 255 = .ok (.aload_n 0, 1) := by decide +kernel
theorem dL_law_256 : decode cL_law 256 = .ok (.iload 4, 2) := by decide +kernel
theorem dL_law_258 : decode cL_law 258 = .ok (.iconst 2, 1) := by decide +kernel
theorem dL_law_259 : decode cL_law 259 = .ok (.iadd, 1) := by decide +kernel
theorem dL_law_260 : decode cL_law 260 = .ok (.iaload, 1) := by decide +kernel
theorem dL_law_261 : decode cL_law 261 = .ok (.aload_n 3, 1) := by decide +kernel
theorem dL_law_262 : decode cL_law 262 = .ok (.invokestatic 88, 3) := by decide +kernel
theorem dL_law_265 : decode cL_law 265 = .ok (.istore 5, 2) := by decide +kernel
theorem dL_law_267 : decode cL_law 267 = .ok (.aload_n 2, 1) := by decide +kernel
theorem dL_law_268 : decode cL_law 268 = .ok (.aload_n 0, 1) := by decide +kernel
theorem dL_law_269 : decode cL_law 269 = .ok (.iload 4, 2) := by decide +kernel
theorem dL_law_271 : decode cL_law 271 = .ok (.iconst 1, 1) := by decide +kernel
theorem dL_law_272 : decode cL_law 272 = .ok (.iadd, 1) := by decide +kernel
theorem dL_law_273 : decode cL_law 273 = .ok (.iaload, 1) := by decide +kernel
theorem dL_law_274 : decode cL_law 274 = .ok (.aload_n 0, 1) := by decide +kernel
theorem dL_law_275 : decode cL_law 275 = .ok (.iload 4, 2) := by decide +kernel
theorem dL_law_277 : decode cL_law 277 = .ok (.iconst 2, 1) := by decide +kernel
theorem dL_law_278 : decode cL_law 278 = .ok (.iadd, 1) := by decide +kernel
theorem dL_law_279 : decode cL_law 279 = .ok (.iaload, 1) := by decide +kernel
theorem dL_law_280 : decode cL_law 280 = .ok (.invokevirtual 91, 3) := by decide +kernel
theorem dL_law_283 : decode cL_law 283 = .ok (.istore 6, 2) := by decide +kernel
theorem dL_law_285 : decode cL_law 285 = .ok (.aload_n 2, 1) := by decide +kernel
theorem dL_law_286 : decode cL_law 286 = .ok (.invokevirtual 81, 3) := by decide +kernel
theorem dL_law_289 : decode cL_law 289 = .ok (.iload 5, 2) := by decide +kernel
theorem dL_law_291 : decode cL_law 291 = .ok (.if_icmp .eq 5, 3) := by decide +kernel
theorem dL_law_294 : decode cL_law 294 = .ok (.iconst 0, 1) := by decide +kernel
theorem dL_law_295 : decode cL_law 295 = .ok (.ireturn, 1) := by decide +kernel
theorem dL_law_296 : decode cL_law 296 = .ok (.iload 5, 2) := by decide +kernel
theorem dL_law_298 : decode cL_law 298 = .ok (.ifCond .ne 15, 3) := by decide +kernel
theorem dL_law_301 : decode cL_law 301 = .ok (.aload_n 3, 1) := by decide +kernel
theorem dL_law_302 : decode cL_law 302 = .ok (.iconst 0, 1) := by decide +kernel
theorem dL_law_303 : decode cL_law 303 = .ok (.laload, 1) := by decide +kernel
theorem dL_law_304 : decode cL_law 304 = .ok (.iload 6, 2) := by decide +kernel
theorem dL_law_306 : decode cL_law 306 = .ok (.i2l, 1) := by decide +kernel
theorem dL_law_307 : decode cL_law 307 = .ok (.lcmp, 1) := by decide +kernel
theorem dL_law_308 : decode cL_law 308 = .ok (.ifCond .eq 5, 3) := by decide +kernel
theorem dL_law_311 : decode cL_law 311 = .ok (.iconst 0, 1) := by decide +kernel
theorem dL_law_312 : decode cL_law 312 = .ok (.ireturn, 1) := by decide +kernel
theorem dL_law_313 : decode cL_law 313 = .ok (.goto 927, 3) := by decide +kernel
theorem dL_law_316 : decode cL_law 316 = .ok (.aload_n 1, 1) := by decide +kernel
theorem dL_law_317 : decode cL_law 317 = .ok (.aload_n 0, 1) := by decide +kernel
theorem dL_law_318 : decode cL_law 318 = .ok (.iload 4, 2) := by decide +kernel
theorem dL_law_320 : decode cL_law 320 = .ok (.iconst 1, 1) := by decide +kernel
theorem dL_law_321 : decode cL_law 321 = .ok (.iadd, 1) := by decide +kernel
theorem dL_law_322 : decode cL_law 322 = .ok (.iaload, 1) := by decide +kernel
theorem dL_law_323 : decode cL_law 323 = .ok (.aload_n 3, 1) := by decide +kernel
theorem dL_law_324 : decode cL_law 324 = .ok (.invokestatic 92, 3) := by decide +kernel
theorem dL_law_327 : decode cL_law 327 = .ok (.istore 5, 2) := by decide +kernel
theorem dL_law_329 : decode cL_law 329 = .ok (.aload_n 2, 1) := by decide +kernel
theorem dL_law_330 : decode cL_law 330 = .ok (.aload_n 0, 1) := by decide +kernel
theorem dL_law_331 : decode cL_law 331 = .ok (.iload 4, 2) := by decide +kernel
theorem dL_law_333 : decode cL_law 333 = .ok (.iconst 1, 1) := by decide +kernel
theorem dL_law_334 : decode cL_law 334 = .ok (.iadd, 1) := by decide +kernel
theorem dL_law_335 : decode cL_law 335 = .ok (.iaload, 1) := by decide +kernel
theorem dL_law_336 : decode cL_law 336 = .ok (.invokevirtual 95, 3) := by decide +kernel
theorem dL_law_339 : decode cL_law 339 = .ok (.istore 6, 2) := by decide +kernel
theorem dL_law_341 : decode cL_law 341 = .ok (.aload_n 2, 1) := by decide +kernel
theorem dL_law_342 : decode cL_law 342 = .ok (.invokevirtual 81, 3) := by decide +kernel
theorem dL_law_345 : decode cL_law 345 = .ok (.iload 5, 2) := by decide +kernel
theorem dL_law_347 : decode cL_law 347 = .ok (.if_icmp .eq 5, 3) := by decide +kernel
theorem dL_law_350 : decode cL_law 350 = .ok (.iconst 0, 1) := by decide +kernel
theorem dL_law_351 : decode cL_law 351 = .ok (.ireturn, 1) := by decide +kernel
theorem dL_law_352 : decode cL_law 352 = .ok (.iload 5, 2) := by decide +kernel
theorem dL_law_354 : decode cL_law 354 = .ok (.ifCond .ne 15, 3) := by decide +kernel
theorem dL_law_357 : decode cL_law 357 = .ok (.aload_n 3, 1) := by decide +kernel
theorem dL_law_358 : decode cL_law 358 = .ok (.iconst 0, 1) := by decide +kernel
theorem dL_law_359 : decode cL_law 359 = .ok (.laload, 1) := by decide +kernel
theorem dL_law_360 : decode cL_law 360 = .ok (.iload 6, 2) := by decide +kernel
theorem dL_law_362 : decode cL_law 362 = .ok (.i2l, 1) := by decide +kernel
theorem dL_law_363 : decode cL_law 363 = .ok (.lcmp, 1) := by decide +kernel
theorem dL_law_364 : decode cL_law 364 = .ok (.ifCond .eq 5, 3) := by decide +kernel
theorem dL_law_367 : decode cL_law 367 = .ok (.iconst 0, 1) := by decide +kernel
theorem dL_law_368 : decode cL_law 368 = .ok (.ireturn, 1) := by decide +kernel
theorem dL_law_369 : decode cL_law 369 = .ok (.goto 871, 3) := by decide +kernel
theorem dL_law_372 : decode cL_law 372 = .ok (.aload_n 1, 1) := by decide +kernel
theorem dL_law_373 : decode cL_law 373 = .ok (.aload_n 0, 1) := by decide +kernel
theorem dL_law_374 : decode cL_law 374 = .ok (.iload 4, 2) := by decide +kernel
theorem dL_law_376 : decode cL_law 376 = .ok (.iconst 1, 1) := by decide +kernel
theorem dL_law_377 : decode cL_law 377 = .ok (.iadd, 1) := by decide +kernel
theorem dL_law_378 : decode cL_law 378 = .ok (.iaload, 1) := by decide +kernel
theorem dL_law_379 : decode cL_law 379 = .ok (.aload_n 0, 1) := by decide +kernel
theorem dL_law_380 : decode cL_law 380 = .ok (.iload 4, 2) := by decide +kernel
theorem dL_law_382 : decode cL_law 382 = .ok (.iconst 2, 1) := by decide +kernel
theorem dL_law_383 : decode cL_law 383 = .ok (.iadd, 1) := by decide +kernel
theorem dL_law_384 : decode cL_law 384 = .ok (.iaload, 1) := by decide +kernel
theorem dL_law_385 : decode cL_law 385 = .ok (.aload_n 0, 1) := by decide +kernel
theorem dL_law_386 : decode cL_law 386 = .ok (.iload 4, 2) := by decide +kernel
theorem dL_law_388 : decode cL_law 388 = .ok (.iconst 3, 1) := by decide +kernel
theorem dL_law_389 : decode cL_law 389 = .ok (.iadd, 1) := by decide +kernel
theorem dL_law_390 : decode cL_law 390 = .ok (.iaload, 1) := by decide +kernel
theorem dL_law_391 : decode cL_law 391 = .ok (.aload_n 3, 1) := by decide +kernel
theorem dL_law_392 : decode cL_law 392 = .ok (.invokestatic 96, 3) := by decide +kernel
theorem dL_law_395 : decode cL_law 395 = .ok (.istore 5, 2) := by decide +kernel
theorem dL_law_397 : decode cL_law 397 = .ok (.aload_n 2, 1) := by decide +kernel
theorem dL_law_398 : decode cL_law 398 = .ok (.aload_n 0, 1) := by decide +kernel
theorem dL_law_399 : decode cL_law 399 = .ok (.iload 4, 2) := by decide +kernel
theorem dL_law_401 : decode cL_law 401 = .ok (.iconst 1, 1) := by decide +kernel
theorem dL_law_402 : decode cL_law 402 = .ok (.iadd, 1) := by decide +kernel
theorem dL_law_403 : decode cL_law 403 = .ok (.iaload, 1) := by decide +kernel
theorem dL_law_404 : decode cL_law 404 = .ok (.aload_n 0, 1) := by decide +kernel
theorem dL_law_405 : decode cL_law 405 = .ok (.iload 4, 2) := by decide +kernel
theorem dL_law_407 : decode cL_law 407 = .ok (.iconst 2, 1) := by decide +kernel
theorem dL_law_408 : decode cL_law 408 = .ok (.iadd, 1) := by decide +kernel
theorem dL_law_409 : decode cL_law 409 = .ok (.iaload, 1) := by decide +kernel
theorem dL_law_410 : decode cL_law 410 = .ok (.aload_n 0, 1) := by decide +kernel
theorem dL_law_411 : decode cL_law 411 = .ok (.iload 4, 2) := by decide +kernel
theorem dL_law_413 : decode cL_law 413 = .ok (.iconst 3, 1) := by decide +kernel
theorem dL_law_414 : decode cL_law 414 = .ok (.iadd, 1) := by decide +kernel
theorem dL_law_415 : decode cL_law 415 = .ok (.iaload, 1) := by decide +kernel
theorem dL_law_416 : decode cL_law 416 = .ok (.invokevirtual 98, 3) := by decide +kernel
theorem dL_law_419 : decode cL_law 419 = .ok (.istore 6, 2) := by decide +kernel
theorem dL_law_421 : decode cL_law 421 = .ok (.aload_n 2, 1) := by decide +kernel
theorem dL_law_422 : decode cL_law 422 = .ok (.invokevirtual 81, 3) := by decide +kernel
theorem dL_law_425 : decode cL_law 425 = .ok (.iload 5, 2) := by decide +kernel
theorem dL_law_427 : decode cL_law 427 = .ok (.if_icmp .eq 5, 3) := by decide +kernel
theorem dL_law_430 : decode cL_law 430 = .ok (.iconst 0, 1) := by decide +kernel
theorem dL_law_431 : decode cL_law 431 = .ok (.ireturn, 1) := by decide +kernel
theorem dL_law_432 : decode cL_law 432 = .ok (.iload 5, 2) := by decide +kernel
theorem dL_law_434 : decode cL_law 434 = .ok (.ifCond .ne 15, 3) := by decide +kernel
theorem dL_law_437 : decode cL_law 437 = .ok (.aload_n 3, 1) := by decide +kernel
theorem dL_law_438 : decode cL_law 438 = .ok (.iconst 0, 1) := by decide +kernel
theorem dL_law_439 : decode cL_law 439 = .ok (.laload, 1) := by decide +kernel
theorem dL_law_440 : decode cL_law 440 = .ok (.iload 6, 2) := by decide +kernel
theorem dL_law_442 : decode cL_law 442 = .ok (.i2l, 1) := by decide +kernel
theorem dL_law_443 : decode cL_law 443 = .ok (.lcmp, 1) := by decide +kernel
theorem dL_law_444 : decode cL_law 444 = .ok (.ifCond .eq 5, 3) := by decide +kernel
theorem dL_law_447 : decode cL_law 447 = .ok (.iconst 0, 1) := by decide +kernel
theorem dL_law_448 : decode cL_law 448 = .ok (.ireturn, 1) := by decide +kernel
theorem dL_law_449 : decode cL_law 449 = .ok (.goto 791, 3) := by decide +kernel
theorem dL_law_452 : decode cL_law 452 = .ok (.aload_n 1, 1) := by decide +kernel
theorem dL_law_453 : decode cL_law 453 = .ok (.aload_n 0, 1) := by decide +kernel
theorem dL_law_454 : decode cL_law 454 = .ok (.iload 4, 2) := by decide +kernel
theorem dL_law_456 : decode cL_law 456 = .ok (.iconst 1, 1) := by decide +kernel
theorem dL_law_457 : decode cL_law 457 = .ok (.iadd, 1) := by decide +kernel
theorem dL_law_458 : decode cL_law 458 = .ok (.iaload, 1) := by decide +kernel
theorem dL_law_459 : decode cL_law 459 = .ok (.aload_n 3, 1) := by decide +kernel
theorem dL_law_460 : decode cL_law 460 = .ok (.invokestatic 99, 3) := by decide +kernel
theorem dL_law_463 : decode cL_law 463 = .ok (.istore 5, 2) := by decide +kernel
theorem dL_law_465 : decode cL_law 465 = .ok (.aload_n 2, 1) := by decide +kernel
theorem dL_law_466 : decode cL_law 466 = .ok (.aload_n 0, 1) := by decide +kernel
theorem dL_law_467 : decode cL_law 467 = .ok (.iload 4, 2) := by decide +kernel
theorem dL_law_469 : decode cL_law 469 = .ok (.iconst 1, 1) := by decide +kernel
theorem dL_law_470 : decode cL_law 470 = .ok (.iadd, 1) := by decide +kernel
theorem dL_law_471 : decode cL_law 471 = .ok (.iaload, 1) := by decide +kernel
theorem dL_law_472 : decode cL_law 472 = .ok (.invokevirtual 101, 3) := by decide +kernel
theorem dL_law_475 : decode cL_law 475 = .ok (.istore 6, 2) := by decide +kernel
theorem dL_law_477 : decode cL_law 477 = .ok (.aload_n 2, 1) := by decide +kernel
theorem dL_law_478 : decode cL_law 478 = .ok (.invokevirtual 81, 3) := by decide +kernel
theorem dL_law_481 : decode cL_law 481 = .ok (.iload 5, 2) := by decide +kernel
theorem dL_law_483 : decode cL_law 483 = .ok (.if_icmp .eq 5, 3) := by decide +kernel
theorem dL_law_486 : decode cL_law 486 = .ok (.iconst 0, 1) := by decide +kernel
theorem dL_law_487 : decode cL_law 487 = .ok (.ireturn, 1) := by decide +kernel
theorem dL_law_488 : decode cL_law 488 = .ok (.iload 5, 2) := by decide +kernel
theorem dL_law_490 : decode cL_law 490 = .ok (.ifCond .ne 15, 3) := by decide +kernel
theorem dL_law_493 : decode cL_law 493 = .ok (.aload_n 3, 1) := by decide +kernel
theorem dL_law_494 : decode cL_law 494 = .ok (.iconst 0, 1) := by decide +kernel
theorem dL_law_495 : decode cL_law 495 = .ok (.laload, 1) := by decide +kernel
theorem dL_law_496 : decode cL_law 496 = .ok (.iload 6, 2) := by decide +kernel
theorem dL_law_498 : decode cL_law 498 = .ok (.i2l, 1) := by decide +kernel
theorem dL_law_499 : decode cL_law 499 = .ok (.lcmp, 1) := by decide +kernel
theorem dL_law_500 : decode cL_law 500 = .ok (.ifCond .eq 5, 3) := by decide +kernel
theorem dL_law_503 : decode cL_law 503 = .ok (.iconst 0, 1) := by decide +kernel
theorem dL_law_504 : decode cL_law 504 = .ok (.ireturn, 1) := by decide +kernel
theorem dL_law_505 : decode cL_law 505 = .ok (.goto 735, 3) := by decide +kernel
theorem dL_law_508 : decode cL_law 508 = .ok (.aload_n 1, 1) := by decide +kernel
theorem dL_law_509 : decode cL_law 509 = .ok (.aload_n 0, 1) := by decide +kernel
theorem dL_law_510 : decode cL_law 510 = .ok (.iload 4, 2) := by decide +kernel
theorem dL_law_512 : decode cL_law 512 = .ok (.iconst 1, 1) := by decide +kernel
theorem dL_law_513 : decode cL_law 513 = .ok (.iadd, 1) := by decide +kernel
theorem dL_law_514 : decode cL_law 514 = .ok (.iaload, 1) := by decide +kernel
theorem dL_law_515 : decode cL_law 515 = .ok (.aload_n 3, 1) := by decide +kernel
theorem dL_law_516 : decode cL_law 516 = .ok (.invokestatic 102, 3) := by decide +kernel
theorem dL_law_519 : decode cL_law 519 = .ok (.istore 5, 2) := by decide +kernel
theorem dL_law_521 : decode cL_law 521 = .ok (.aload_n 2, 1) := by decide +kernel
theorem dL_law_522 : decode cL_law 522 = .ok (.aload_n 0, 1) := by decide +kernel
theorem dL_law_523 : decode cL_law 523 = .ok (.iload 4, 2) := by decide +kernel
theorem dL_law_525 : decode cL_law 525 = .ok (.iconst 1, 1) := by decide +kernel
theorem dL_law_526 : decode cL_law 526 = .ok (.iadd, 1) := by decide +kernel
theorem dL_law_527 : decode cL_law 527 = .ok (.iaload, 1) := by decide +kernel
theorem dL_law_528 : decode cL_law 528 = .ok (.invokevirtual 104, 3) := by decide +kernel
theorem dL_law_531 : decode cL_law 531 = .ok (.istore 6, 2) := by decide +kernel
theorem dL_law_533 : decode cL_law 533 = .ok (.aload_n 2, 1) := by decide +kernel
theorem dL_law_534 : decode cL_law 534 = .ok (.invokevirtual 81, 3) := by decide +kernel
theorem dL_law_537 : decode cL_law 537 = .ok (.iload 5, 2) := by decide +kernel
theorem dL_law_539 : decode cL_law 539 = .ok (.if_icmp .eq 5, 3) := by decide +kernel
theorem dL_law_542 : decode cL_law 542 = .ok (.iconst 0, 1) := by decide +kernel
theorem dL_law_543 : decode cL_law 543 = .ok (.ireturn, 1) := by decide +kernel
theorem dL_law_544 : decode cL_law 544 = .ok (.iload 5, 2) := by decide +kernel
theorem dL_law_546 : decode cL_law 546 = .ok (.ifCond .ne 15, 3) := by decide +kernel
theorem dL_law_549 : decode cL_law 549 = .ok (.aload_n 3, 1) := by decide +kernel
theorem dL_law_550 : decode cL_law 550 = .ok (.iconst 0, 1) := by decide +kernel
theorem dL_law_551 : decode cL_law 551 = .ok (.laload, 1) := by decide +kernel
theorem dL_law_552 : decode cL_law 552 = .ok (.iload 6, 2) := by decide +kernel
theorem dL_law_554 : decode cL_law 554 = .ok (.i2l, 1) := by decide +kernel
theorem dL_law_555 : decode cL_law 555 = .ok (.lcmp, 1) := by decide +kernel
theorem dL_law_556 : decode cL_law 556 = .ok (.ifCond .eq 5, 3) := by decide +kernel
theorem dL_law_559 : decode cL_law 559 = .ok (.iconst 0, 1) := by decide +kernel
theorem dL_law_560 : decode cL_law 560 = .ok (.ireturn, 1) := by decide +kernel
theorem dL_law_561 : decode cL_law 561 = .ok (.goto 679, 3) := by decide +kernel
theorem dL_law_564 : decode cL_law 564 = .ok (.aload_n 1, 1) := by decide +kernel
theorem dL_law_565 : decode cL_law 565 = .ok (.aload_n 0, 1) := by decide +kernel
theorem dL_law_566 : decode cL_law 566 = .ok (.iload 4, 2) := by decide +kernel
theorem dL_law_568 : decode cL_law 568 = .ok (.iconst 1, 1) := by decide +kernel
theorem dL_law_569 : decode cL_law 569 = .ok (.iadd, 1) := by decide +kernel
theorem dL_law_570 : decode cL_law 570 = .ok (.iaload, 1) := by decide +kernel
theorem dL_law_571 : decode cL_law 571 = .ok (.aload_n 0, 1) := by decide +kernel
theorem dL_law_572 : decode cL_law 572 = .ok (.iload 4, 2) := by decide +kernel
theorem dL_law_574 : decode cL_law 574 = .ok (.iconst 2, 1) := by decide +kernel
theorem dL_law_575 : decode cL_law 575 = .ok (.iadd, 1) := by decide +kernel
theorem dL_law_576 : decode cL_law 576 = .ok (.iaload, 1) := by decide +kernel
theorem dL_law_577 : decode cL_law 577 = .ok (.aload_n 3, 1) := by decide +kernel
theorem dL_law_578 : decode cL_law 578 = .ok (.invokestatic 105, 3) := by decide +kernel
theorem dL_law_581 : decode cL_law 581 = .ok (.istore 5, 2) := by decide +kernel
theorem dL_law_583 : decode cL_law 583 = .ok (.aload_n 2, 1) := by decide +kernel
theorem dL_law_584 : decode cL_law 584 = .ok (.aload_n 0, 1) := by decide +kernel
theorem dL_law_585 : decode cL_law 585 = .ok (.iload 4, 2) := by decide +kernel
theorem dL_law_587 : decode cL_law 587 = .ok (.iconst 1, 1) := by decide +kernel
theorem dL_law_588 : decode cL_law 588 = .ok (.iadd, 1) := by decide +kernel
theorem dL_law_589 : decode cL_law 589 = .ok (.iaload, 1) := by decide +kernel
theorem dL_law_590 : decode cL_law 590 = .ok (.aload_n 0, 1) := by decide +kernel
theorem dL_law_591 : decode cL_law 591 = .ok (.iload 4, 2) := by decide +kernel
theorem dL_law_593 : decode cL_law 593 = .ok (.iconst 2, 1) := by decide +kernel
theorem dL_law_594 : decode cL_law 594 = .ok (.iadd, 1) := by decide +kernel
theorem dL_law_595 : decode cL_law 595 = .ok (.iaload, 1) := by decide +kernel
theorem dL_law_596 : decode cL_law 596 = .ok (.invokevirtual 107, 3) := by decide +kernel
theorem dL_law_599 : decode cL_law 599 = .ok (.istore 6, 2) := by decide +kernel
theorem dL_law_601 : decode cL_law 601 = .ok (.aload_n 2, 1) := by decide +kernel
theorem dL_law_602 : decode cL_law 602 = .ok (.invokevirtual 81, 3) := by decide +kernel
theorem dL_law_605 : decode cL_law 605 = .ok (.iload 5, 2) := by decide +kernel
theorem dL_law_607 : decode cL_law 607 = .ok (.if_icmp .eq 5, 3) := by decide +kernel
theorem dL_law_610 : decode cL_law 610 = .ok (.iconst 0, 1) := by decide +kernel
theorem dL_law_611 : decode cL_law 611 = .ok (.ireturn, 1) := by decide +kernel
theorem dL_law_612 : decode cL_law 612 = .ok (.iload 5, 2) := by decide +kernel
theorem dL_law_614 : decode cL_law 614 = .ok (.ifCond .ne 15, 3) := by decide +kernel
theorem dL_law_617 : decode cL_law 617 = .ok (.aload_n 3, 1) := by decide +kernel
theorem dL_law_618 : decode cL_law 618 = .ok (.iconst 0, 1) := by decide +kernel
theorem dL_law_619 : decode cL_law 619 = .ok (.laload, 1) := by decide +kernel
theorem dL_law_620 : decode cL_law 620 = .ok (.iload 6, 2) := by decide +kernel
theorem dL_law_622 : decode cL_law 622 = .ok (.i2l, 1) := by decide +kernel
theorem dL_law_623 : decode cL_law 623 = .ok (.lcmp, 1) := by decide +kernel
theorem dL_law_624 : decode cL_law 624 = .ok (.ifCond .eq 5, 3) := by decide +kernel
theorem dL_law_627 : decode cL_law 627 = .ok (.iconst 0, 1) := by decide +kernel
theorem dL_law_628 : decode cL_law 628 = .ok (.ireturn, 1) := by decide +kernel
theorem dL_law_629 : decode cL_law 629 = .ok (.goto 611, 3) := by decide +kernel
theorem dL_law_632 : decode cL_law 632 = .ok (.aload_n 1, 1) := by decide +kernel
theorem dL_law_633 : decode cL_law 633 = .ok (.aload_n 0, 1) := by decide +kernel
theorem dL_law_634 : decode cL_law 634 = .ok (.iload 4, 2) := by decide +kernel
theorem dL_law_636 : decode cL_law 636 = .ok (.iconst 1, 1) := by decide +kernel
theorem dL_law_637 : decode cL_law 637 = .ok (.iadd, 1) := by decide +kernel
theorem dL_law_638 : decode cL_law 638 = .ok (.iaload, 1) := by decide +kernel
theorem dL_law_639 : decode cL_law 639 = .ok (.aload_n 0, 1) := by decide +kernel
theorem dL_law_640 : decode cL_law 640 = .ok (.iload 4, 2) := by decide +kernel
theorem dL_law_642 : decode cL_law 642 = .ok (.iconst 2, 1) := by decide +kernel
theorem dL_law_643 : decode cL_law 643 = .ok (.iadd, 1) := by decide +kernel
theorem dL_law_644 : decode cL_law 644 = .ok (.iaload, 1) := by decide +kernel
theorem dL_law_645 : decode cL_law 645 = .ok (.aload_n 0, 1) := by decide +kernel
theorem dL_law_646 : decode cL_law 646 = .ok (.iload 4, 2) := by decide +kernel
theorem dL_law_648 : decode cL_law 648 = .ok (.iconst 3, 1) := by decide +kernel
theorem dL_law_649 : decode cL_law 649 = .ok (.iadd, 1) := by decide +kernel
theorem dL_law_650 : decode cL_law 650 = .ok (.iaload, 1) := by decide +kernel
theorem dL_law_651 : decode cL_law 651 = .ok (.aload_n 3, 1) := by decide +kernel
theorem dL_law_652 : decode cL_law 652 = .ok (.invokestatic 108, 3) := by decide +kernel
theorem dL_law_655 : decode cL_law 655 = .ok (.istore 5, 2) := by decide +kernel
theorem dL_law_657 : decode cL_law 657 = .ok (.aload_n 2, 1) := by decide +kernel
theorem dL_law_658 : decode cL_law 658 = .ok (.aload_n 0, 1) := by decide +kernel
theorem dL_law_659 : decode cL_law 659 = .ok (.iload 4, 2) := by decide +kernel
theorem dL_law_661 : decode cL_law 661 = .ok (.iconst 1, 1) := by decide +kernel
theorem dL_law_662 : decode cL_law 662 = .ok (.iadd, 1) := by decide +kernel
theorem dL_law_663 : decode cL_law 663 = .ok (.iaload, 1) := by decide +kernel
theorem dL_law_664 : decode cL_law 664 = .ok (.aload_n 0, 1) := by decide +kernel
theorem dL_law_665 : decode cL_law 665 = .ok (.iload 4, 2) := by decide +kernel
theorem dL_law_667 : decode cL_law 667 = .ok (.iconst 2, 1) := by decide +kernel
theorem dL_law_668 : decode cL_law 668 = .ok (.iadd, 1) := by decide +kernel
theorem dL_law_669 : decode cL_law 669 = .ok (.iaload, 1) := by decide +kernel
theorem dL_law_670 : decode cL_law 670 = .ok (.aload_n 0, 1) := by decide +kernel
theorem dL_law_671 : decode cL_law 671 = .ok (.iload 4, 2) := by decide +kernel
theorem dL_law_673 : decode cL_law 673 = .ok (.iconst 3, 1) := by decide +kernel
theorem dL_law_674 : decode cL_law 674 = .ok (.iadd, 1) := by decide +kernel
theorem dL_law_675 : decode cL_law 675 = .ok (.iaload, 1) := by decide +kernel
theorem dL_law_676 : decode cL_law 676 = .ok (.invokevirtual 110, 3) := by decide +kernel
theorem dL_law_679 : decode cL_law 679 = .ok (.istore 6, 2) := by decide +kernel
theorem dL_law_681 : decode cL_law 681 = .ok (.aload_n 2, 1) := by decide +kernel
theorem dL_law_682 : decode cL_law 682 = .ok (.invokevirtual 81, 3) := by decide +kernel
theorem dL_law_685 : decode cL_law 685 = .ok (.iload 5, 2) := by decide +kernel
theorem dL_law_687 : decode cL_law 687 = .ok (.if_icmp .eq 5, 3) := by decide +kernel
theorem dL_law_690 : decode cL_law 690 = .ok (.iconst 0, 1) := by decide +kernel
theorem dL_law_691 : decode cL_law 691 = .ok (.ireturn, 1) := by decide +kernel
theorem dL_law_692 : decode cL_law 692 = .ok (.iload 5, 2) := by decide +kernel
theorem dL_law_694 : decode cL_law 694 = .ok (.ifCond .ne 15, 3) := by decide +kernel
theorem dL_law_697 : decode cL_law 697 = .ok (.aload_n 3, 1) := by decide +kernel
theorem dL_law_698 : decode cL_law 698 = .ok (.iconst 0, 1) := by decide +kernel
theorem dL_law_699 : decode cL_law 699 = .ok (.laload, 1) := by decide +kernel
theorem dL_law_700 : decode cL_law 700 = .ok (.iload 6, 2) := by decide +kernel
theorem dL_law_702 : decode cL_law 702 = .ok (.i2l, 1) := by decide +kernel
theorem dL_law_703 : decode cL_law 703 = .ok (.lcmp, 1) := by decide +kernel
theorem dL_law_704 : decode cL_law 704 = .ok (.ifCond .eq 5, 3) := by decide +kernel
theorem dL_law_707 : decode cL_law 707 = .ok (.iconst 0, 1) := by decide +kernel
theorem dL_law_708 : decode cL_law 708 = .ok (.ireturn, 1) := by decide +kernel
theorem dL_law_709 : decode cL_law 709 = .ok (.goto 531, 3) := by decide +kernel
theorem dL_law_712 : decode cL_law 712 = .ok (.aload_n 1, 1) := by decide +kernel
theorem dL_law_713 : decode cL_law 713 = .ok (.aload_n 0, 1) := by decide +kernel
theorem dL_law_714 : decode cL_law 714 = .ok (.iload 4, 2) := by decide +kernel
theorem dL_law_716 : decode cL_law 716 = .ok (.iconst 1, 1) := by decide +kernel
theorem dL_law_717 : decode cL_law 717 = .ok (.iadd, 1) := by decide +kernel
theorem dL_law_718 : decode cL_law 718 = .ok (.iaload, 1) := by decide +kernel
theorem dL_law_719 : decode cL_law 719 = .ok (.aload_n 3, 1) := by decide +kernel
theorem dL_law_720 : decode cL_law 720 = .ok (.invokestatic 111, 3) := by decide +kernel
theorem dL_law_723 : decode cL_law 723 = .ok (.istore 5, 2) := by decide +kernel
theorem dL_law_725 : decode cL_law 725 = .ok (.aload_n 2, 1) := by decide +kernel
theorem dL_law_726 : decode cL_law 726 = .ok (.aload_n 0, 1) := by decide +kernel
theorem dL_law_727 : decode cL_law 727 = .ok (.iload 4, 2) := by decide +kernel
theorem dL_law_729 : decode cL_law 729 = .ok (.iconst 1, 1) := by decide +kernel
theorem dL_law_730 : decode cL_law 730 = .ok (.iadd, 1) := by decide +kernel
theorem dL_law_731 : decode cL_law 731 = .ok (.iaload, 1) := by decide +kernel
theorem dL_law_732 : decode cL_law 732 = .ok (.invokevirtual 113, 3) := by decide +kernel
theorem dL_law_735 : decode cL_law 735 = .ok (.istore 6, 2) := by decide +kernel
theorem dL_law_737 : decode cL_law 737 = .ok (.aload_n 2, 1) := by decide +kernel
theorem dL_law_738 : decode cL_law 738 = .ok (.invokevirtual 81, 3) := by decide +kernel
theorem dL_law_741 : decode cL_law 741 = .ok (.iload 5, 2) := by decide +kernel
theorem dL_law_743 : decode cL_law 743 = .ok (.if_icmp .eq 5, 3) := by decide +kernel
theorem dL_law_746 : decode cL_law 746 = .ok (.iconst 0, 1) := by decide +kernel
theorem dL_law_747 : decode cL_law 747 = .ok (.ireturn, 1) := by decide +kernel
theorem dL_law_748 : decode cL_law 748 = .ok (.iload 5, 2) := by decide +kernel
theorem dL_law_750 : decode cL_law 750 = .ok (.ifCond .ne 15, 3) := by decide +kernel
theorem dL_law_753 : decode cL_law 753 = .ok (.aload_n 3, 1) := by decide +kernel
theorem dL_law_754 : decode cL_law 754 = .ok (.iconst 0, 1) := by decide +kernel
theorem dL_law_755 : decode cL_law 755 = .ok (.laload, 1) := by decide +kernel
theorem dL_law_756 : decode cL_law 756 = .ok (.iload 6, 2) := by decide +kernel
theorem dL_law_758 : decode cL_law 758 = .ok (.i2l, 1) := by decide +kernel
theorem dL_law_759 : decode cL_law 759 = .ok (.lcmp, 1) := by decide +kernel
theorem dL_law_760 : decode cL_law 760 = .ok (.ifCond .eq 5, 3) := by decide +kernel
theorem dL_law_763 : decode cL_law 763 = .ok (.iconst 0, 1) := by decide +kernel
theorem dL_law_764 : decode cL_law 764 = .ok (.ireturn, 1) := by decide +kernel
theorem dL_law_765 : decode cL_law 765 = .ok (.goto 475, 3) := by decide +kernel
theorem dL_law_768 : decode cL_law 768 = .ok (.aload_n 1, 1) := by decide +kernel
theorem dL_law_769 : decode cL_law 769 = .ok (.invokevirtual 114, 3) := by decide +kernel
theorem dL_law_772 : decode cL_law 772 = .ok (.aload_n 2, 1) := by decide +kernel
theorem dL_law_773 : decode cL_law 773 = .ok (.invokevirtual 117, 3) := by decide +kernel
theorem dL_law_776 : decode cL_law 776 = .ok (.if_icmp .eq 464, 3) := by decide +kernel
theorem dL_law_779 : decode cL_law 779 = .ok (.iconst 0, 1) := by decide +kernel
theorem dL_law_780 : decode cL_law 780 = .ok (.ireturn, 1) := by decide +kernel
theorem dL_law_781 : decode cL_law 781 = .ok (.aload_n 1, 1) := by decide +kernel
theorem dL_law_782 : decode cL_law 782 = .ok (.aload_n 0, 1) := by decide +kernel
theorem dL_law_783 : decode cL_law 783 = .ok (.iload 4, 2) := by decide +kernel
theorem dL_law_785 : decode cL_law 785 = .ok (.iconst 1, 1) := by decide +kernel
theorem dL_law_786 : decode cL_law 786 = .ok (.iadd, 1) := by decide +kernel
theorem dL_law_787 : decode cL_law 787 = .ok (.iaload, 1) := by decide +kernel
theorem dL_law_788 : decode cL_law 788 = .ok (.aload_n 0, 1) := by decide +kernel
theorem dL_law_789 : decode cL_law 789 = .ok (.iload 4, 2) := by decide +kernel
theorem dL_law_791 : decode cL_law 791 = .ok (.iconst 2, 1) := by decide +kernel
theorem dL_law_792 : decode cL_law 792 = .ok (.iadd, 1) := by decide +kernel
theorem dL_law_793 : decode cL_law 793 = .ok (.iaload, 1) := by decide +kernel
theorem dL_law_794 : decode cL_law 794 = .ok (.aload_n 3, 1) := by decide +kernel
theorem dL_law_795 : decode cL_law 795 = .ok (.invokestatic 118, 3) := by decide +kernel
theorem dL_law_798 : decode cL_law 798 = .ok (.istore 5, 2) := by decide +kernel
theorem dL_law_800 : decode cL_law 800 = .ok (.aload_n 2, 1) := by decide +kernel
theorem dL_law_801 : decode cL_law 801 = .ok (.aload_n 0, 1) := by decide +kernel
theorem dL_law_802 : decode cL_law 802 = .ok (.iload 4, 2) := by decide +kernel
theorem dL_law_804 : decode cL_law 804 = .ok (.iconst 1, 1) := by decide +kernel
theorem dL_law_805 : decode cL_law 805 = .ok (.iadd, 1) := by decide +kernel
theorem dL_law_806 : decode cL_law 806 = .ok (.iaload, 1) := by decide +kernel
theorem dL_law_807 : decode cL_law 807 = .ok (.aload_n 0, 1) := by decide +kernel
theorem dL_law_808 : decode cL_law 808 = .ok (.iload 4, 2) := by decide +kernel
theorem dL_law_810 : decode cL_law 810 = .ok (.iconst 2, 1) := by decide +kernel
theorem dL_law_811 : decode cL_law 811 = .ok (.iadd, 1) := by decide +kernel
theorem dL_law_812 : decode cL_law 812 = .ok (.iaload, 1) := by decide +kernel
theorem dL_law_813 : decode cL_law 813 = .ok (.invokevirtual 120, 3) := by decide +kernel
theorem dL_law_816 : decode cL_law 816 = .ok (.istore 6, 2) := by decide +kernel
theorem dL_law_818 : decode cL_law 818 = .ok (.aload_n 2, 1) := by decide +kernel
theorem dL_law_819 : decode cL_law 819 = .ok (.invokevirtual 81, 3) := by decide +kernel
theorem dL_law_822 : decode cL_law 822 = .ok (.iload 5, 2) := by decide +kernel
theorem dL_law_824 : decode cL_law 824 = .ok (.if_icmp .eq 5, 3) := by decide +kernel
theorem dL_law_827 : decode cL_law 827 = .ok (.iconst 0, 1) := by decide +kernel
theorem dL_law_828 : decode cL_law 828 = .ok (.ireturn, 1) := by decide +kernel
theorem dL_law_829 : decode cL_law 829 = .ok (.iload 5, 2) := by decide +kernel
theorem dL_law_831 : decode cL_law 831 = .ok (.ifCond .ne 15, 3) := by decide +kernel
theorem dL_law_834 : decode cL_law 834 = .ok (.aload_n 3, 1) := by decide +kernel
theorem dL_law_835 : decode cL_law 835 = .ok (.iconst 0, 1) := by decide +kernel
theorem dL_law_836 : decode cL_law 836 = .ok (.laload, 1) := by decide +kernel
theorem dL_law_837 : decode cL_law 837 = .ok (.iload 6, 2) := by decide +kernel
theorem dL_law_839 : decode cL_law 839 = .ok (.i2l, 1) := by decide +kernel
theorem dL_law_840 : decode cL_law 840 = .ok (.lcmp, 1) := by decide +kernel
theorem dL_law_841 : decode cL_law 841 = .ok (.ifCond .eq 5, 3) := by decide +kernel
theorem dL_law_844 : decode cL_law 844 = .ok (.iconst 0, 1) := by decide +kernel
theorem dL_law_845 : decode cL_law 845 = .ok (.ireturn, 1) := by decide +kernel
theorem dL_law_846 : decode cL_law 846 = .ok (.goto 394, 3) := by decide +kernel
theorem dL_law_849 : decode cL_law 849 = .ok (.aload_n 1, 1) := by decide +kernel
theorem dL_law_850 : decode cL_law 850 = .ok (.aload_n 0, 1) := by decide +kernel
theorem dL_law_851 : decode cL_law 851 = .ok (.iload 4, 2) := by decide +kernel
theorem dL_law_853 : decode cL_law 853 = .ok (.iconst 1, 1) := by decide +kernel
theorem dL_law_854 : decode cL_law 854 = .ok (.iadd, 1) := by decide +kernel
theorem dL_law_855 : decode cL_law 855 = .ok (.iaload, 1) := by decide +kernel
theorem dL_law_856 : decode cL_law 856 = .ok (.aload_n 3, 1) := by decide +kernel
theorem dL_law_857 : decode cL_law 857 = .ok (.invokestatic 121, 3) := by decide +kernel
theorem dL_law_860 : decode cL_law 860 = .ok (.istore 5, 2) := by decide +kernel
theorem dL_law_862 : decode cL_law 862 = .ok (.aload_n 2, 1) := by decide +kernel
theorem dL_law_863 : decode cL_law 863 = .ok (.aload_n 0, 1) := by decide +kernel
theorem dL_law_864 : decode cL_law 864 = .ok (.iload 4, 2) := by decide +kernel
theorem dL_law_866 : decode cL_law 866 = .ok (.iconst 1, 1) := by decide +kernel
theorem dL_law_867 : decode cL_law 867 = .ok (.iadd, 1) := by decide +kernel
theorem dL_law_868 : decode cL_law 868 = .ok (.iaload, 1) := by decide +kernel
theorem dL_law_869 : decode cL_law 869 = .ok (.invokevirtual 123, 3) := by decide +kernel
theorem dL_law_872 : decode cL_law 872 = .ok (.istore 6, 2) := by decide +kernel
theorem dL_law_874 : decode cL_law 874 = .ok (.aload_n 2, 1) := by decide +kernel
theorem dL_law_875 : decode cL_law 875 = .ok (.invokevirtual 81, 3) := by decide +kernel
theorem dL_law_878 : decode cL_law 878 = .ok (.iload 5, 2) := by decide +kernel
theorem dL_law_880 : decode cL_law 880 = .ok (.if_icmp .eq 5, 3) := by decide +kernel
theorem dL_law_883 : decode cL_law 883 = .ok (.iconst 0, 1) := by decide +kernel
theorem dL_law_884 : decode cL_law 884 = .ok (.ireturn, 1) := by decide +kernel
theorem dL_law_885 : decode cL_law 885 = .ok (.iload 5, 2) := by decide +kernel
theorem dL_law_887 : decode cL_law 887 = .ok (.ifCond .ne 15, 3) := by decide +kernel
theorem dL_law_890 : decode cL_law 890 = .ok (.aload_n 3, 1) := by decide +kernel
theorem dL_law_891 : decode cL_law 891 = .ok (.iconst 0, 1) := by decide +kernel
theorem dL_law_892 : decode cL_law 892 = .ok (.laload, 1) := by decide +kernel
theorem dL_law_893 : decode cL_law 893 = .ok (.iload 6, 2) := by decide +kernel
theorem dL_law_895 : decode cL_law 895 = .ok (.i2l, 1) := by decide +kernel
theorem dL_law_896 : decode cL_law 896 = .ok (.lcmp, 1) := by decide +kernel
theorem dL_law_897 : decode cL_law 897 = .ok (.ifCond .eq 5, 3) := by decide +kernel
theorem dL_law_900 : decode cL_law 900 = .ok (.iconst 0, 1) := by decide +kernel
theorem dL_law_901 : decode cL_law 901 = .ok (.ireturn, 1) := by decide +kernel
theorem dL_law_902 : decode cL_law 902 = .ok (.goto 338, 3) := by decide +kernel
theorem dL_law_905 : decode cL_law 905 = .ok (.aload_n 1, 1) := by decide +kernel
theorem dL_law_906 : decode cL_law 906 = .ok (.aload_n 0, 1) := by decide +kernel
theorem dL_law_907 : decode cL_law 907 = .ok (.iload 4, 2) := by decide +kernel
theorem dL_law_909 : decode cL_law 909 = .ok (.iconst 1, 1) := by decide +kernel
theorem dL_law_910 : decode cL_law 910 = .ok (.iadd, 1) := by decide +kernel
theorem dL_law_911 : decode cL_law 911 = .ok (.iaload, 1) := by decide +kernel
theorem dL_law_912 : decode cL_law 912 = .ok (.aload_n 0, 1) := by decide +kernel
theorem dL_law_913 : decode cL_law 913 = .ok (.iload 4, 2) := by decide +kernel
theorem dL_law_915 : decode cL_law 915 = .ok (.iconst 2, 1) := by decide +kernel
theorem dL_law_916 : decode cL_law 916 = .ok (.iadd, 1) := by decide +kernel
theorem dL_law_917 : decode cL_law 917 = .ok (.iaload, 1) := by decide +kernel
theorem dL_law_918 : decode cL_law 918 = .ok (.aload_n 0, 1) := by decide +kernel
theorem dL_law_919 : decode cL_law 919 = .ok (.iload 4, 2) := by decide +kernel
theorem dL_law_921 : decode cL_law 921 = .ok (.iconst 3, 1) := by decide +kernel
theorem dL_law_922 : decode cL_law 922 = .ok (.iadd, 1) := by decide +kernel
theorem dL_law_923 : decode cL_law 923 = .ok (.iaload, 1) := by decide +kernel
theorem dL_law_924 : decode cL_law 924 = .ok (.aload_n 3, 1) := by decide +kernel
theorem dL_law_925 : decode cL_law 925 = .ok (.invokestatic 124, 3) := by decide +kernel
theorem dL_law_928 : decode cL_law 928 = .ok (.istore 5, 2) := by decide +kernel
theorem dL_law_930 : decode cL_law 930 = .ok (.aload_n 2, 1) := by decide +kernel
theorem dL_law_931 : decode cL_law 931 = .ok (.aload_n 0, 1) := by decide +kernel
theorem dL_law_932 : decode cL_law 932 = .ok (.iload 4, 2) := by decide +kernel
theorem dL_law_934 : decode cL_law 934 = .ok (.iconst 1, 1) := by decide +kernel
theorem dL_law_935 : decode cL_law 935 = .ok (.iadd, 1) := by decide +kernel
theorem dL_law_936 : decode cL_law 936 = .ok (.iaload, 1) := by decide +kernel
theorem dL_law_937 : decode cL_law 937 = .ok (.aload_n 0, 1) := by decide +kernel
theorem dL_law_938 : decode cL_law 938 = .ok (.iload 4, 2) := by decide +kernel
theorem dL_law_940 : decode cL_law 940 = .ok (.iconst 2, 1) := by decide +kernel
theorem dL_law_941 : decode cL_law 941 = .ok (.iadd, 1) := by decide +kernel
theorem dL_law_942 : decode cL_law 942 = .ok (.iaload, 1) := by decide +kernel
theorem dL_law_943 : decode cL_law 943 = .ok (.aload_n 0, 1) := by decide +kernel
theorem dL_law_944 : decode cL_law 944 = .ok (.iload 4, 2) := by decide +kernel
theorem dL_law_946 : decode cL_law 946 = .ok (.iconst 3, 1) := by decide +kernel
theorem dL_law_947 : decode cL_law 947 = .ok (.iadd, 1) := by decide +kernel
theorem dL_law_948 : decode cL_law 948 = .ok (.iaload, 1) := by decide +kernel
theorem dL_law_949 : decode cL_law 949 = .ok (.invokevirtual 126, 3) := by decide +kernel
theorem dL_law_952 : decode cL_law 952 = .ok (.istore 6, 2) := by decide +kernel
theorem dL_law_954 : decode cL_law 954 = .ok (.aload_n 2, 1) := by decide +kernel
theorem dL_law_955 : decode cL_law 955 = .ok (.invokevirtual 81, 3) := by decide +kernel
theorem dL_law_958 : decode cL_law 958 = .ok (.iload 5, 2) := by decide +kernel
theorem dL_law_960 : decode cL_law 960 = .ok (.if_icmp .eq 5, 3) := by decide +kernel
theorem dL_law_963 : decode cL_law 963 = .ok (.iconst 0, 1) := by decide +kernel
theorem dL_law_964 : decode cL_law 964 = .ok (.ireturn, 1) := by decide +kernel
theorem dL_law_965 : decode cL_law 965 = .ok (.iload 5, 2) := by decide +kernel
theorem dL_law_967 : decode cL_law 967 = .ok (.ifCond .ne 22, 3) := by decide +kernel
theorem dL_law_970 : decode cL_law 970 = .ok (.aload_n 3, 1) := by decide +kernel
theorem dL_law_971 : decode cL_law 971 = .ok (.iconst 0, 1) := by decide +kernel
theorem dL_law_972 : decode cL_law 972 = .ok (.laload, 1) := by decide +kernel
theorem dL_law_973 : decode cL_law 973 = .ok (.iload 6, 2) := by decide +kernel
theorem dL_law_975 : decode cL_law 975 = .ok (.ifCond .eq 7, 3) := by decide +kernel
theorem dL_law_978 : decode cL_law 978 = .ok (.lconst 1, 1) := by decide +kernel
theorem dL_law_979 : decode cL_law 979 = .ok (.goto 4, 3) := by decide +kernel
theorem dL_law_982 : decode cL_law 982 = .ok (.lconst 0, 1) := by decide +kernel
theorem dL_law_983 : decode cL_law 983 = .ok (.lcmp, 1) := by decide +kernel
theorem dL_law_984 : decode cL_law 984 = .ok (.ifCond .eq 5, 3) := by decide +kernel
theorem dL_law_987 : decode cL_law 987 = .ok (.iconst 0, 1) := by decide +kernel
theorem dL_law_988 : decode cL_law 988 = .ok (.ireturn, 1) := by decide +kernel
theorem dL_law_989 : decode cL_law 989 = .ok (.goto 251, 3) := by decide +kernel
theorem dL_law_992 : decode cL_law 992 = .ok (.aload_n 1, 1) := by decide +kernel
theorem dL_law_993 : decode cL_law 993 = .ok (.aload_n 0, 1) := by decide +kernel
theorem dL_law_994 : decode cL_law 994 = .ok (.iload 4, 2) := by decide +kernel
theorem dL_law_996 : decode cL_law 996 = .ok (.iconst 1, 1) := by decide +kernel
theorem dL_law_997 : decode cL_law 997 = .ok (.iadd, 1) := by decide +kernel
theorem dL_law_998 : decode cL_law 998 = .ok (.iaload, 1) := by decide +kernel
theorem dL_law_999 : decode cL_law 999 = .ok (.aload_n 0, 1) := by decide +kernel
theorem dL_law_1000 : decode cL_law 1000 = .ok (.iload 4, 2) := by decide +kernel
theorem dL_law_1002 : decode cL_law 1002 = .ok (.iconst 2, 1) := by decide +kernel
theorem dL_law_1003 : decode cL_law 1003 = .ok (.iadd, 1) := by decide +kernel
theorem dL_law_1004 : decode cL_law 1004 = .ok (.iaload, 1) := by decide +kernel
theorem dL_law_1005 : decode cL_law 1005 = .ok (.aload_n 3, 1) := by decide +kernel
theorem dL_law_1006 : decode cL_law 1006 = .ok (.invokestatic 127, 3) := by decide +kernel
theorem dL_law_1009 : decode cL_law 1009 = .ok (.istore 5, 2) := by decide +kernel
theorem dL_law_1011 : decode cL_law 1011 = .ok (.aload_n 2, 1) := by decide +kernel
theorem dL_law_1012 : decode cL_law 1012 = .ok (.aload_n 0, 1) := by decide +kernel
theorem dL_law_1013 : decode cL_law 1013 = .ok (.iload 4, 2) := by decide +kernel
theorem dL_law_1015 : decode cL_law 1015 = .ok (.iconst 1, 1) := by decide +kernel
theorem dL_law_1016 : decode cL_law 1016 = .ok (.iadd, 1) := by decide +kernel
theorem dL_law_1017 : decode cL_law 1017 = .ok (.iaload, 1) := by decide +kernel
theorem dL_law_1018 : decode cL_law 1018 = .ok (.aload_n 0, 1) := by decide +kernel
theorem dL_law_1019 : decode cL_law 1019 = .ok (.iload 4, 2) := by decide +kernel
theorem dL_law_1021 : decode cL_law 1021 = .ok (.iconst 2, 1) := by decide +kernel
theorem dL_law_1022 : decode cL_law 1022 = .ok (.iadd, 1) := by decide +kernel
theorem dL_law_1023 : decode cL_law 1023 = .ok (.iaload, 1) := by decide +kernel
theorem dL_law_1024 : decode cL_law 1024 = .ok (.invokevirtual 129, 3) := by decide +kernel
theorem dL_law_1027 : decode cL_law 1027 = .ok (.istore 6, 2) := by decide +kernel
theorem dL_law_1029 : decode cL_law 1029 = .ok (.aload_n 2, 1) := by decide +kernel
theorem dL_law_1030 : decode cL_law 1030 = .ok (.invokevirtual 81, 3) := by decide +kernel
theorem dL_law_1033 : decode cL_law 1033 = .ok (.iload 5, 2) := by decide +kernel
theorem dL_law_1035 : decode cL_law 1035 = .ok (.if_icmp .eq 5, 3) := by decide +kernel
theorem dL_law_1038 : decode cL_law 1038 = .ok (.iconst 0, 1) := by decide +kernel
theorem dL_law_1039 : decode cL_law 1039 = .ok (.ireturn, 1) := by decide +kernel
theorem dL_law_1040 : decode cL_law 1040 = .ok (.iload 5, 2) := by decide +kernel
theorem dL_law_1042 : decode cL_law 1042 = .ok (.ifCond .ne 15, 3) := by decide +kernel
theorem dL_law_1045 : decode cL_law 1045 = .ok (.aload_n 3, 1) := by decide +kernel
theorem dL_law_1046 : decode cL_law 1046 = .ok (.iconst 0, 1) := by decide +kernel
theorem dL_law_1047 : decode cL_law 1047 = .ok (.laload, 1) := by decide +kernel
theorem dL_law_1048 : decode cL_law 1048 = .ok (.iload 6, 2) := by decide +kernel
theorem dL_law_1050 : decode cL_law 1050 = .ok (.i2l, 1) := by decide +kernel
theorem dL_law_1051 : decode cL_law 1051 = .ok (.lcmp, 1) := by decide +kernel
theorem dL_law_1052 : decode cL_law 1052 = .ok (.ifCond .eq 5, 3) := by decide +kernel
theorem dL_law_1055 : decode cL_law 1055 = .ok (.iconst 0, 1) := by decide +kernel
theorem dL_law_1056 : decode cL_law 1056 = .ok (.ireturn, 1) := by decide +kernel
theorem dL_law_1057 : decode cL_law 1057 = .ok (.goto 183, 3) := by decide +kernel
theorem dL_law_1060 : decode cL_law 1060 = .ok (.aload_n 1, 1) := by decide +kernel
theorem dL_law_1061 : decode cL_law 1061 = .ok (.aload_n 0, 1) := by decide +kernel
theorem dL_law_1062 : decode cL_law 1062 = .ok (.iload 4, 2) := by decide +kernel
theorem dL_law_1064 : decode cL_law 1064 = .ok (.iconst 1, 1) := by decide +kernel
theorem dL_law_1065 : decode cL_law 1065 = .ok (.iadd, 1) := by decide +kernel
theorem dL_law_1066 : decode cL_law 1066 = .ok (.iaload, 1) := by decide +kernel
theorem dL_law_1067 : decode cL_law 1067 = .ok (.aload_n 3, 1) := by decide +kernel
theorem dL_law_1068 : decode cL_law 1068 = .ok (.invokestatic 130, 3) := by decide +kernel
theorem dL_law_1071 : decode cL_law 1071 = .ok (.istore 5, 2) := by decide +kernel
theorem dL_law_1073 : decode cL_law 1073 = .ok (.aload_n 2, 1) := by decide +kernel
theorem dL_law_1074 : decode cL_law 1074 = .ok (.aload_n 0, 1) := by decide +kernel
theorem dL_law_1075 : decode cL_law 1075 = .ok (.iload 4, 2) := by decide +kernel
theorem dL_law_1077 : decode cL_law 1077 = .ok (.iconst 1, 1) := by decide +kernel
theorem dL_law_1078 : decode cL_law 1078 = .ok (.iadd, 1) := by decide +kernel
theorem dL_law_1079 : decode cL_law 1079 = .ok (.iaload, 1) := by decide +kernel
theorem dL_law_1080 : decode cL_law 1080 = .ok (.invokevirtual 132, 3) := by decide +kernel
theorem dL_law_1083 : decode cL_law 1083 = .ok (.istore 6, 2) := by decide +kernel
theorem dL_law_1085 : decode cL_law 1085 = .ok (.aload_n 2, 1) := by decide +kernel
theorem dL_law_1086 : decode cL_law 1086 = .ok (.invokevirtual 81, 3) := by decide +kernel
theorem dL_law_1089 : decode cL_law 1089 = .ok (.iload 5, 2) := by decide +kernel
theorem dL_law_1091 : decode cL_law 1091 = .ok (.if_icmp .eq 5, 3) := by decide +kernel
theorem dL_law_1094 : decode cL_law 1094 = .ok (.iconst 0, 1) := by decide +kernel
theorem dL_law_1095 : decode cL_law 1095 = .ok (.ireturn, 1) := by decide +kernel
theorem dL_law_1096 : decode cL_law 1096 = .ok (.iload 5, 2) := by decide +kernel
theorem dL_law_1098 : decode cL_law 1098 = .ok (.ifCond .ne 15, 3) := by decide +kernel
theorem dL_law_1101 : decode cL_law 1101 = .ok (.aload_n 3, 1) := by decide +kernel
theorem dL_law_1102 : decode cL_law 1102 = .ok (.iconst 0, 1) := by decide +kernel
theorem dL_law_1103 : decode cL_law 1103 = .ok (.laload, 1) := by decide +kernel
theorem dL_law_1104 : decode cL_law 1104 = .ok (.iload 6, 2) := by decide +kernel
theorem dL_law_1106 : decode cL_law 1106 = .ok (.i2l, 1) := by decide +kernel
theorem dL_law_1107 : decode cL_law 1107 = .ok (.lcmp, 1) := by decide +kernel
theorem dL_law_1108 : decode cL_law 1108 = .ok (.ifCond .eq 5, 3) := by decide +kernel
theorem dL_law_1111 : decode cL_law 1111 = .ok (.iconst 0, 1) := by decide +kernel
theorem dL_law_1112 : decode cL_law 1112 = .ok (.ireturn, 1) := by decide +kernel
theorem dL_law_1113 : decode cL_law 1113 = .ok (.goto 127, 3) := by decide +kernel
theorem dL_law_1116 : decode cL_law 1116 = .ok (.aload_n 1, 1) := by decide +kernel
theorem dL_law_1117 : decode cL_law 1117 = .ok (.aload_n 0, 1) := by decide +kernel
theorem dL_law_1118 : decode cL_law 1118 = .ok (.iload 4, 2) := by decide +kernel
theorem dL_law_1120 : decode cL_law 1120 = .ok (.iconst 1, 1) := by decide +kernel
theorem dL_law_1121 : decode cL_law 1121 = .ok (.iadd, 1) := by decide +kernel
theorem dL_law_1122 : decode cL_law 1122 = .ok (.iaload, 1) := by decide +kernel
theorem dL_law_1123 : decode cL_law 1123 = .ok (.aload_n 0, 1) := by decide +kernel
theorem dL_law_1124 : decode cL_law 1124 = .ok (.iload 4, 2) := by decide +kernel
theorem dL_law_1126 : decode cL_law 1126 = .ok (.iconst 2, 1) := by decide +kernel
theorem dL_law_1127 : decode cL_law 1127 = .ok (.iadd, 1) := by decide +kernel
theorem dL_law_1128 : decode cL_law 1128 = .ok (.iaload, 1) := by decide +kernel
theorem dL_law_1129 : decode cL_law 1129 = .ok (.aload_n 3, 1) := by decide +kernel
theorem dL_law_1130 : decode cL_law 1130 = .ok (.invokestatic 133, 3) := by decide +kernel
theorem dL_law_1133 : decode cL_law 1133 = .ok (.istore 5, 2) := by decide +kernel
theorem dL_law_1135 : decode cL_law 1135 = .ok (.aload_n 2, 1) := by decide +kernel
theorem dL_law_1136 : decode cL_law 1136 = .ok (.aload_n 0, 1) := by decide +kernel
theorem dL_law_1137 : decode cL_law 1137 = .ok (.iload 4, 2) := by decide +kernel
theorem dL_law_1139 : decode cL_law 1139 = .ok (.iconst 1, 1) := by decide +kernel
theorem dL_law_1140 : decode cL_law 1140 = .ok (.iadd, 1) := by decide +kernel
theorem dL_law_1141 : decode cL_law 1141 = .ok (.iaload, 1) := by decide +kernel
theorem dL_law_1142 : decode cL_law 1142 = .ok (.aload_n 0, 1) := by decide +kernel
theorem dL_law_1143 : decode cL_law 1143 = .ok (.iload 4, 2) := by decide +kernel
theorem dL_law_1145 : decode cL_law 1145 = .ok (.iconst 2, 1) := by decide +kernel
theorem dL_law_1146 : decode cL_law 1146 = .ok (.iadd, 1) := by decide +kernel
theorem dL_law_1147 : decode cL_law 1147 = .ok (.iaload, 1) := by decide +kernel
theorem dL_law_1148 : decode cL_law 1148 = .ok (.invokevirtual 135, 3) := by decide +kernel
theorem dL_law_1151 : decode cL_law 1151 = .ok (.istore 6, 2) := by decide +kernel
theorem dL_law_1153 : decode cL_law 1153 = .ok (.aload_n 2, 1) := by decide +kernel
theorem dL_law_1154 : decode cL_law 1154 = .ok (.invokevirtual 81, 3) := by decide +kernel
theorem dL_law_1157 : decode cL_law 1157 = .ok (.iload 5, 2) := by decide +kernel
theorem dL_law_1159 : decode cL_law 1159 = .ok (.if_icmp .eq 5, 3) := by decide +kernel
theorem dL_law_1162 : decode cL_law 1162 = .ok (.iconst 0, 1) := by decide +kernel
theorem dL_law_1163 : decode cL_law 1163 = .ok (.ireturn, 1) := by decide +kernel
theorem dL_law_1164 : decode cL_law 1164 = .ok (.iload 5, 2) := by decide +kernel
theorem dL_law_1166 : decode cL_law 1166 = .ok (.ifCond .ne 15, 3) := by decide +kernel
theorem dL_law_1169 : decode cL_law 1169 = .ok (.aload_n 3, 1) := by decide +kernel
theorem dL_law_1170 : decode cL_law 1170 = .ok (.iconst 0, 1) := by decide +kernel
theorem dL_law_1171 : decode cL_law 1171 = .ok (.laload, 1) := by decide +kernel
theorem dL_law_1172 : decode cL_law 1172 = .ok (.iload 6, 2) := by decide +kernel
theorem dL_law_1174 : decode cL_law 1174 = .ok (.i2l, 1) := by decide +kernel
theorem dL_law_1175 : decode cL_law 1175 = .ok (.lcmp, 1) := by decide +kernel
theorem dL_law_1176 : decode cL_law 1176 = .ok (.ifCond .eq 5, 3) := by decide +kernel
theorem dL_law_1179 : decode cL_law 1179 = .ok (.iconst 0, 1) := by decide +kernel
theorem dL_law_1180 : decode cL_law 1180 = .ok (.ireturn, 1) := by decide +kernel
theorem dL_law_1181 : decode cL_law 1181 = .ok (.goto 59, 3) := by decide +kernel
theorem dL_law_1184 : decode cL_law 1184 = .ok (.aload_n 1, 1) := by decide +kernel
theorem dL_law_1185 : decode cL_law 1185 = .ok (.aload_n 0, 1) := by decide +kernel
theorem dL_law_1186 : decode cL_law 1186 = .ok (.iload 4, 2) := by decide +kernel
theorem dL_law_1188 : decode cL_law 1188 = .ok (.iconst 1, 1) := by decide +kernel
theorem dL_law_1189 : decode cL_law 1189 = .ok (.iadd, 1) := by decide +kernel
theorem dL_law_1190 : decode cL_law 1190 = .ok (.iaload, 1) := by decide +kernel
theorem dL_law_1191 : decode cL_law 1191 = .ok (.aload_n 3, 1) := by decide +kernel
theorem dL_law_1192 : decode cL_law 1192 = .ok (.invokestatic 136, 3) := by decide +kernel
theorem dL_law_1195 : decode cL_law 1195 = .ok (.istore 5, 2) := by decide +kernel
theorem dL_law_1197 : decode cL_law 1197 = .ok (.aload_n 2, 1) := by decide +kernel
theorem dL_law_1198 : decode cL_law 1198 = .ok (.aload_n 0, 1) := by decide +kernel
theorem dL_law_1199 : decode cL_law 1199 = .ok (.iload 4, 2) := by decide +kernel
theorem dL_law_1201 : decode cL_law 1201 = .ok (.iconst 1, 1) := by decide +kernel
theorem dL_law_1202 : decode cL_law 1202 = .ok (.iadd, 1) := by decide +kernel
theorem dL_law_1203 : decode cL_law 1203 = .ok (.iaload, 1) := by decide +kernel
theorem dL_law_1204 : decode cL_law 1204 = .ok (.invokevirtual 138, 3) := by decide +kernel
theorem dL_law_1207 : decode cL_law 1207 = .ok (.istore 6, 2) := by decide +kernel
theorem dL_law_1209 : decode cL_law 1209 = .ok (.aload_n 2, 1) := by decide +kernel
theorem dL_law_1210 : decode cL_law 1210 = .ok (.invokevirtual 81, 3) := by decide +kernel
theorem dL_law_1213 : decode cL_law 1213 = .ok (.iload 5, 2) := by decide +kernel
theorem dL_law_1215 : decode cL_law 1215 = .ok (.if_icmp .eq 5, 3) := by decide +kernel
theorem dL_law_1218 : decode cL_law 1218 = .ok (.iconst 0, 1) := by decide +kernel
theorem dL_law_1219 : decode cL_law 1219 = .ok (.ireturn, 1) := by decide +kernel
theorem dL_law_1220 : decode cL_law 1220 = .ok (.iload 5, 2) := by decide +kernel
theorem dL_law_1222 : decode cL_law 1222 = .ok (.ifCond .ne 15, 3) := by decide +kernel
theorem dL_law_1225 : decode cL_law 1225 = .ok (.aload_n 3, 1) := by decide +kernel
theorem dL_law_1226 : decode cL_law 1226 = .ok (.iconst 0, 1) := by decide +kernel
end
section
theorem dL_law_1227 : decode cL_law 1227 = .ok (.laload, 1) := by decide +kernel
theorem dL_law_1228 : decode cL_law 1228 = .ok (.iload 6, 2) := by decide +kernel
theorem dL_law_1230 : decode cL_law 1230 = .ok (.i2l, 1) := by decide +kernel
theorem dL_law_1231 : decode cL_law 1231 = .ok (.lcmp, 1) := by decide +kernel
theorem dL_law_1232 : decode cL_law 1232 = .ok (.ifCond .eq 5, 3) := by decide +kernel
theorem dL_law_1235 : decode cL_law 1235 = .ok (.iconst 0, 1) := by decide +kernel
theorem dL_law_1236 : decode cL_law 1236 = .ok (.ireturn, 1) := by decide +kernel
theorem dL_law_1237 : decode cL_law 1237 = .ok (.goto 3, 3) := by decide +kernel
theorem dL_law_1240 : decode cL_law 1240 = .ok (.iinc 4 4, 3) := by decide +kernel
theorem dL_law_1243 : decode cL_law 1243 = .ok (.goto (-1220), 3) := by decide +kernel
theorem dL_law_1246 : decode cL_law 1246 = .ok (.iconst 1, 1) := by decide +kernel
theorem dL_law_1247 : decode cL_law 1247 = .ok (.ireturn, 1) := by decide +kernel
abbrev vwCl : List vw_C := [(RX0, TX0, 8), (RX1, TX1, 6), (RX2, TX2, 6), (RX3, TX3, 19)]
end
section
/-! the base of all contracts: a method that reads alone is one instruction to its caller -/
def bI (b : Bool) : Int32 := match b with | true => 1 | false => 0
theorem bI_eq {a b : Bool} (h : a = b) : bI a = bI b := congrArg bI h
theorem bI_f {b : Bool} (h : bI b = 0) : b = false := by cases b <;> first | rfl | exact absurd h (by decide)
theorem bI_t {b : Bool} (h : ¬ bI b = 0) : b = true := by cases b <;> first | rfl | exact absurd (by rfl) h
theorem bI_nar (b : Bool) : narrow .boolean (.int (bI b)) = .int (bI b) := by cases b <;> rfl
def QcV (v : Value) : Array Value → State → Outcome → State → Prop := fun _ st o t => o = .returned (some v) ∧ t.heap = st.heap
/-- the class links between nest mates -/
def EV (U : State) : Prop := va_Nw (.methodLinkNest RX1 33 yX2_isBidder RX2) U ∧ va_Nw (.methodLinkNest RX0 39 yX2_isBidder RX2) U ∧ va_Nw (.methodLinkNest RX2 42 yX1_init RX2) U
theorem EV.warm {s U : State} (hW : s.WarmedH U.vm) (h : EV s) : EV U := ⟨va_Nw.warmM hW h.1, va_Nw.warmM hW h.2.1, va_Nw.warmM hW h.2.2⟩
theorem EV.same {u U : State} (h : u.vm = U.vm) (hE : EV u) : EV U := ⟨va_Nw.same rfl h hE.1, va_Nw.same rfl h hE.2.1, va_Nw.same rfl h hE.2.2⟩
abbrev TYS (K : Nat → ClassId) : List (ClassId × FieldType) := [(K 0, .int), (K 1, .boolean), (K 2, .object RX0), (K 3, .object RX1)]
def PK (D : va_G) (K : Nat → ClassId) (B : Heap → Prop) : State → Prop := fun U => B U.heap ∧ va_K D vwCl (TYS K) U ∧ EV U
theorem PK_blind {D : va_G} {K : Nat → ClassId} {B : Heap → Prop} {av : List Value} : FrameBlind (va_Pc av (PK D K B)) := fun _ U g mk q => ⟨q.1, q.2.1, va_K.moved (u := U) (U := U.calling g mk _) (Vm.Alike.refl U.vm) q.2.2.1, EV.same (u := U) (U := U.calling g mk _) rfl q.2.2.2⟩
theorem PK_at {D : va_G} {K : Nat → ClassId} {B : Heap → Prop} {av : List Value} {s : State} {H : Heap} (hB : B H) (hK : va_K D vwCl (TYS K) s) (hE : EV s) : ∀ U : State, U.heap = H → s.WarmedH U.vm → va_Pc av (PK D K B) av.toArray U := fun U hU hW => ⟨rfl, by rw [hU]; exact hB, va_K.moved hW.alike hK, EV.warm hW hE⟩
/-- a method that reads alone: from any heap with B it returns v, and the heap is as it was -/
def PU (l : Launch) (y : MethodName) (ws : List Cond) (fr lo : Nat) (D : va_G) (K : Nat → ClassId) (av : List Value) (B : Heap → Prop) (v : Value) : Prop :=
  Met l y ws ({ frames := fr, cells := 0, slots := 0, locals := lo }) (va_Pc av (PK D K B)) (QcV v) 0 0 (fun _ => False)
section PUS
variable {p : Program} {l : Launch} {e : Env} {R : Room} {s : State} {m : MethodId} {args : Array Value} {below : List Frame} {meth : Method} {c : Code} {H : Heap} {locs : List Loc} {cells slots : Nat} {Q : State → Prop}
theorem pu_call {v : Value} {a : Array Value} {g : JFrame} {rest : List Value} (hr : va_Run p l e R s m args below meth c H locs cells slots 0 0 g rest (QcV v a) (fun _ => False))
    (kk : W p l e R s m args below meth c H locs cells slots Q { g with pc := g.pc + 3, stack := v :: rest }) : W p l e R s m args below meth c H locs cells slots Q g := by
  intro T hT X
  obtain ⟨w, st₀, t, T', L, h0, X', hL, e1, e2, ⟨hv, hh⟩, st⟩ := hr T hT X
  cases hv
  obtain ⟨t2, a1, b1⟩ := kk T' (by rw [e1, hh, h0]) (Stand.forget X' (fun q h => (hL q h).elim))
  exact ⟨t2, st t2 a1, b1⟩
variable {y : MethodName} {bytes cc : ByteArray} {maxL nL n index fr lo : Nat} {ret : Option FieldType} {ws Ts : List Cond} {D : va_G} {K : Nat → ClassId} {B : Heap → Prop} {own C host : String} {b : Nat} {As rest st0 : List Value} {v : Value} {pc : Nat} {ls : Array Slot}
theorem pu_V (S : CallFix p m c cc nL s args Ts own) (hM : PU l y ws fr lo D K (.ref b :: As) B v) (cw : CallW R s args own C index y bytes maxL ret ws ({ frames := fr, cells := 0, slots := 0, locals := lo }) 0 0 n)
    (hB : B H) (hK : va_K D vwCl (TYS K) s) (hE : EV s) (hrecv : ∃ cell : Cell, H[b]? = some cell ∧ cell.vm.isStatics = false ∧ s.vm.findClass C = some cell.cls)
    (hst : st0 = As.reverse ++ .ref b :: rest) (hn : As.length = n) (hsz : ls.size = nL) (hW : (rest.map fun v => v.category).sum ≤ 8) (hdg : decode cc pc = .ok (.invokevirtual index, 3)) (hf : cells ≤ R.cells ∧ slots ≤ R.slots)
    (kk : W p l e R s m args below meth c H locs cells slots Q (F0 m (pc + 3) ls (v :: rest))) : W p l e R s m args below meth c H locs cells slots Q (F0 m pc ls st0) :=
  pu_call (va_runV (g := F0 m pc ls st0) S hM cw ⟨PK_blind, hrecv, PK_at hB hK hE⟩ rfl hn hsz hst (lv_room hW) hdg hf) kk
theorem pu_S (S : CallFix p m c cc nL s args Ts own) (hM : PU l y ws fr lo D K As B v) (cw : CallB R s args own index y bytes maxL ret ws ({ frames := fr, cells := 0, slots := 0, locals := lo }) 0 0 n ∧ (Cond.static y).before args s = true)
    (hB : B H) (hK : va_K D vwCl (TYS K) s) (hE : EV s)
    (hst : st0 = As.reverse ++ rest) (hn : As.length = n) (hsz : ls.size = nL) (hW : (rest.map fun v => v.category).sum ≤ 8) (hdg : decode cc pc = .ok (.invokestatic index, 3)) (hf : cells ≤ R.cells ∧ slots ≤ R.slots)
    (kk : W p l e R s m args below meth c H locs cells slots Q (F0 m (pc + 3) ls (v :: rest))) : W p l e R s m args below meth c H locs cells slots Q (F0 m pc ls st0) :=
  pu_call (va_runS (g := F0 m pc ls st0) S hM cw ⟨PK_blind, PK_at hB hK hE⟩ rfl hn hsz hst (lv_room hW) hdg hf) kk
theorem pu_SN (S : CallFix p m c cc nL s args Ts own) (hM : PU l y ws fr lo D K As B v) (cw : va_CN R s args own index y host bytes maxL ret ws ({ frames := fr, cells := 0, slots := 0, locals := lo }) 0 0 n ∧ (Cond.static y).before args s = true ∧ True)
    (hB : B H) (hK : va_K D vwCl (TYS K) s) (hE : EV s)
    (hst : st0 = As.reverse ++ rest) (hn : As.length = n) (hsz : ls.size = nL) (hW : (rest.map fun v => v.category).sum ≤ 8) (hdg : decode cc pc = .ok (.invokestatic index, 3)) (hf : cells ≤ R.cells ∧ slots ≤ R.slots)
    (kk : W p l e R s m args below meth c H locs cells slots Q (F0 m (pc + 3) ls (v :: rest))) : W p l e R s m args below meth c H locs cells slots Q (F0 m pc ls st0) :=
  pu_call (va_runSN (g := F0 m pc ls st0) S hM cw ⟨PK_blind, PK_at hB hK hE⟩ rfl hn hsz hst (lv_room hW) hdg hf) kk
variable {cc0 : ByteArray}
theorem pu_iret {r w : Int32} (hexec : p.tables.exec = Jvm.exec) (hb : c.code = cc) (hr : meth.sig.returnType = some .int) (hlocks : meth.locks = false) (hdg : decode cc pc = .ok (.ireturn, 1)) (h : r = w) : W p l e R s m args below meth c s.heap [] 0 0 (MQ below (QcV (.int w)) args s 0 0 (fun _ => False)) (F0 m pc ls [.int r]) := by
  subst h
  exact W.iret hexec hb hr (fun t ht _ => ⟨rfl, ht⟩) (fun _ h => by cases h) hdg hlocks
theorem pu_zret {r w : Int32} (hexec : p.tables.exec = Jvm.exec) (hb : c.code = cc) (hr : meth.sig.returnType = some .boolean) (hlocks : meth.locks = false) (hdg : decode cc pc = .ok (.ireturn, 1)) (hn : narrow .boolean (.int w) = .int w) (h : r = w) : W p l e R s m args below meth c s.heap [] 0 0 (MQ below (QcV (.int w)) args s 0 0 (fun _ => False)) (F0 m pc ls [.int r]) := by
  subst h
  exact W.zret hexec hb hr hn (fun t ht _ => ⟨rfl, ht⟩) (fun _ h => by cases h) hdg hlocks
theorem pu_aret {o o' : Option Nat} {rn : String} (hexec : p.tables.exec = Jvm.exec) (hb : c.code = cc) (hr : meth.sig.returnType = some (.object rn)) (hlocks : meth.locks = false) (hdg : decode cc pc = .ok (.areturn, 1)) (h : o = o') : W p l e R s m args below meth c s.heap [] 0 0 (MQ below (QcV (va_rf o')) args s 0 0 (fun _ => False)) (F0 m pc ls [va_rf o]) := by
  subst h
  exact W.aret hexec hb hr (Or.inl ⟨_, rfl⟩) (va_rf_or _) (fun t ht _ => ⟨rfl, ht⟩) (fun _ h => by cases h) hdg hlocks
/-- a branch on a boolean -/
theorem lb_eq (hexec : p.tables.exec = Jvm.exec) (hb : c.code = cc) {x : Bool} {off : Int} {tgt : Nat} (hdg : decode cc pc = .ok (.ifCond .eq off, 3)) (ht : (pc : Int) + off = (tgt : Int))
    (kt : x = false → W p l e R s m args below meth c H locs cells slots Q (F0 m tgt ls rest)) (kf : x = true → W p l e R s m args below meth c H locs cells slots Q (F0 m (pc + 3) ls rest)) : W p l e R s m args below meth c H locs cells slots Q (F0 m pc ls (.int (bI x) :: rest)) :=
  lv_if_eq hexec hb hdg ht (fun h => kt (bI_f h)) (fun h => kf (bI_t h))
theorem lb_ne (hexec : p.tables.exec = Jvm.exec) (hb : c.code = cc) {x : Bool} {off : Int} {tgt : Nat} (hdg : decode cc pc = .ok (.ifCond .ne off, 3)) (ht : (pc : Int) + off = (tgt : Int))
    (kt : x = true → W p l e R s m args below meth c H locs cells slots Q (F0 m tgt ls rest)) (kf : x = false → W p l e R s m args below meth c H locs cells slots Q (F0 m (pc + 3) ls rest)) : W p l e R s m args below meth c H locs cells slots Q (F0 m pc ls (.int (bI x) :: rest)) :=
  lv_if_ne hexec hb hdg ht (fun h => kt (bI_t h)) (fun h => kf (bI_f h))
end PUS
/-- a method that writes its own world, makes nothing and throws nothing -/
def EFi (l : Launch) (y : MethodName) (ws : List Cond) (fr lo : Nat) (D : va_G) (K : Nat → ClassId) (av : List Value) (sz : Nat) (W1 W2 : va_W) (r : Int32) : Prop :=
  Met l y ws ({ frames := fr, cells := 0, slots := 0, locals := lo }) (va_Pc av (fun U => U.heap.size = sz ∧ va_D (fun _ => True) W1 ∧ PK D K (fun H => va_P D vwCl W1 H) U)) (va_Qi (fun x (_ : Unit) => x = r) (fun _ t => va_P D vwCl W2 t.heap ∧ va_D (va_A W1 sz) W2) (va_A W1 sz)) 0 0 (va_A W1 sz)
def EFv (l : Launch) (y : MethodName) (ws : List Cond) (fr lo : Nat) (D : va_G) (K : Nat → ClassId) (av : List Value) (sz : Nat) (W1 W2 : va_W) : Prop :=
  Met l y ws ({ frames := fr, cells := 0, slots := 0, locals := lo }) (va_Pc av (fun U => U.heap.size = sz ∧ va_D (fun _ => True) W1 ∧ PK D K (fun H => va_P D vwCl W1 H) U)) (va_Qv (fun (_ : Unit) => True) (fun _ t => va_P D vwCl W2 t.heap ∧ va_D (va_A W1 sz) W2) (va_A W1 sz)) 0 0 (va_A W1 sz)
theorem EF_blind {D : va_G} {K : Nat → ClassId} {sz : Nat} {W1 : va_W} {av : List Value} : FrameBlind (va_Pc av (fun U => U.heap.size = sz ∧ va_D (fun _ => True) W1 ∧ PK D K (fun H => va_P D vwCl W1 H) U)) := fun _ U g mk q => ⟨q.1, q.2.1, q.2.2.1, (PK_blind (av := av) _ U g mk ⟨q.1, q.2.2.2⟩).2⟩
theorem EF_at {D : va_G} {K : Nat → ClassId} {W1 : va_W} {av : List Value} {s : State} {H : Heap} (hP : va_P D vwCl W1 H) (hD : va_D (fun _ => True) W1) (hK : va_K D vwCl (TYS K) s) (hE : EV s) : ∀ U : State, U.heap = H → s.WarmedH U.vm → va_Pc av (fun U => U.heap.size = H.size ∧ va_D (fun _ => True) W1 ∧ PK D K (fun H => va_P D vwCl W1 H) U) av.toArray U := fun U hU hW => ⟨rfl, by rw [hU], hD, by rw [hU]; exact hP, va_K.moved hW.alike hK, EV.warm hW hE⟩
section EFS
variable {p : Program} {l : Launch} {e : Env} {R : Room} {s : State} {m : MethodId} {args : Array Value} {below : List Frame} {meth : Method} {c : Code} {H : Heap} {locs : List Loc} {cells slots : Nat} {Q : State → Prop}
variable {y : MethodName} {bytes cc : ByteArray} {maxL nL n index fr lo : Nat} {ret : Option FieldType} {ws Ts : List Cond} {D : va_G} {K : Nat → ClassId} {W1 W2 : va_W} {own C : String} {b : Nat} {As rest st0 : List Value} {r : Int32} {pc : Nat} {ls : Array Slot} {A0 : Nat → Prop} {H0 : Heap}
theorem ef_Vi (S : CallFix p m c cc nL s args Ts own) (hM : EFi l y ws fr lo D K (.ref b :: As) H.size W1 W2 r) (cw : CallW R s args own C index y bytes maxL ret ws ({ frames := fr, cells := 0, slots := 0, locals := lo }) 0 0 n)
    (hP : va_P D vwCl W1 H) (hD : va_D (fun _ => True) W1) (hK : va_K D vwCl (TYS K) s) (hE : EV s) (hrecv : ∃ cell : Cell, H[b]? = some cell ∧ cell.vm.isStatics = false ∧ s.vm.findClass C = some cell.cls)
    (hst : st0 = As.reverse ++ .ref b :: rest) (hn : As.length = n) (hsz : ls.size = nL) (hW : (rest.map fun v => v.category).sum ≤ 8) (hdg : decode cc pc = .ok (.invokevirtual index, 3)) (hf : cells ≤ R.cells ∧ slots ≤ R.slots)
    (hS : va_S A0 H0 H locs) (hF : ∀ q, va_A W1 H.size q → A0 q)
    (kk : ∀ (H1 : Heap) (locs1 : List Loc), va_P D vwCl W2 H1 → va_D (va_A W1 H.size) W2 → H.size ≤ H1.size → (∀ q : Nat, q < H.size → ¬ va_A W1 H.size q → H1[q]? = H[q]?) → va_S A0 H0 H1 locs1 → W p l e R s m args below meth c H1 locs1 cells slots Q (F0 m (pc + 3) ls (.int r :: rest))) : W p l e R s m args below meth c H locs cells slots Q (F0 m pc ls st0) := by
  refine va_calli (va_runV (g := F0 m pc ls st0) S hM cw ⟨EF_blind, hrecv, EF_at hP hD hK hE⟩ rfl hn hsz hst (lv_room hW) hdg hf) hS (fun q _ h => hF q h) hF (fun x u t H1 locs1 ht _ hx hB hz hk hS1 => ?_)
  subst hx
  rw [ht] at hB
  exact kk H1 locs1 hB.1 hB.2 hz hk hS1
theorem ef_Vv (S : CallFix p m c cc nL s args Ts own) (hM : EFv l y ws fr lo D K (.ref b :: As) H.size W1 W2) (cw : CallW R s args own C index y bytes maxL ret ws ({ frames := fr, cells := 0, slots := 0, locals := lo }) 0 0 n)
    (hP : va_P D vwCl W1 H) (hD : va_D (fun _ => True) W1) (hK : va_K D vwCl (TYS K) s) (hE : EV s) (hrecv : ∃ cell : Cell, H[b]? = some cell ∧ cell.vm.isStatics = false ∧ s.vm.findClass C = some cell.cls)
    (hst : st0 = As.reverse ++ .ref b :: rest) (hn : As.length = n) (hsz : ls.size = nL) (hW : (rest.map fun v => v.category).sum ≤ 8) (hdg : decode cc pc = .ok (.invokevirtual index, 3)) (hf : cells ≤ R.cells ∧ slots ≤ R.slots)
    (hS : va_S A0 H0 H locs) (hF : ∀ q, va_A W1 H.size q → A0 q)
    (kk : ∀ (H1 : Heap) (locs1 : List Loc), va_P D vwCl W2 H1 → va_D (va_A W1 H.size) W2 → H.size ≤ H1.size → (∀ q : Nat, q < H.size → ¬ va_A W1 H.size q → H1[q]? = H[q]?) → va_S A0 H0 H1 locs1 → W p l e R s m args below meth c H1 locs1 cells slots Q (F0 m (pc + 3) ls rest)) : W p l e R s m args below meth c H locs cells slots Q (F0 m pc ls st0) := by
  refine va_callv (va_runV (g := F0 m pc ls st0) S hM cw ⟨EF_blind, hrecv, EF_at hP hD hK hE⟩ rfl hn hsz hst (lv_room hW) hdg hf) hS (fun q _ h => hF q h) hF (fun u t H1 locs1 ht _ _ hB hz hk hS1 => ?_)
  rw [ht] at hB
  exact kk H1 locs1 hB.1 hB.2 hz hk hS1
end EFS
theorem va_K_uniq {D : va_G} {cl : List vw_C} {tys : List (ClassId × FieldType)} {s : State} {i j : Nat} {cA cB : ClassId} {ty : FieldType} (hK : va_K D cl tys s) (hi : tys[i]? = some (cA, ty)) (hj : tys[j]? = some (cB, ty)) : cA = cB := by
  have h1 := (hK.2 i _ hi).2
  have h2 := (hK.2 j _ hj).2
  cases ty with
  | object C =>
    obtain ⟨_, _, _, _, _, a⟩ := h1
    obtain ⟨_, _, _, _, _, b⟩ := h2
    exact Option.some.inj (a.symm.trans b)
  | _ => exact Option.some.inj (Eq.trans (Eq.symm h1) h2)
theorem vin_nn {x : Int32} {n : Nat} (h : vp_in x n) : ¬ x < 0 := fun q => h (Or.inl q)
theorem vin_ge {x y : Int32} {n : Nat} (h : vp_in x n) (hn : n < 2 ^ 31) (hy : y = nI n) : ¬ y ≤ x := by
  obtain ⟨j, hj, rfl⟩ := vp_in_of h hn
  rw [hy]
  exact nI_ge hj hn
/-- a constructor: it makes mc cells of ms slots in all -/
def EFn (l : Launch) (y : MethodName) (ws : List Cond) (fr lo mc ms : Nat) (D : va_G) (K : Nat → ClassId) (av : List Value) (sz : Nat) (W1 : va_W) (B : Heap → Prop) : Prop :=
  Met l y ws ({ frames := fr, cells := mc, slots := ms, locals := lo }) (va_Pc av (fun U => U.heap.size = sz ∧ va_D (fun _ => True) W1 ∧ PK D K (fun H => va_P D vwCl W1 H) U)) (va_Qv (fun (_ : Unit) => True) (fun _ t => B t.heap) (va_A W1 sz)) mc ms (va_A W1 sz)
end
section
theorem ntr {b : Bool} (h : b = false) : ¬ b = true := by rw [h]; exact Bool.false_ne_true
abbrev tW (K : Nat → ClassId) (q sa wa : Nat) (su go : Nat → Int32) (dec win par prt : Int32) : va_W := [(q, .inr (1, [.ref sa, .ref wa, .int dec, .int win, .int par, .int prt])), (sa, .inl (K 0, 7, .inl su)), (wa, .inl (K 1, 7, .inl go))]
abbrev dW (K : Nat → ClassId) (q ua na fa : Nat) (one oth : Int32) (un nw fi : Nat → Int32) (mc fst cl : Int32) : va_W := [(q, .inr (0, [.int one, .int oth, .ref ua, .ref na, .ref fa, .int mc, .int fst, .int cl])), (ua, .inl (K 1, 30, .inl un)), (na, .inl (K 0, 7, .inl nw)), (fa, .inl (K 0, 7, .inl fi))]

def sp_X2_isBidder (p0 : Int32) : Bool := if p0 < 0 then false else (if 7 ≤ p0 then false else true)
set_option maxHeartbeats 4000000 in
set_option maxRecDepth 100000 in
theorem c_X2_isBidder (l : Launch) (D : va_G) (K : Nat → ClassId) (p0 : Int32) : PU l yX2_isBidder wsX2_isBidder 0 0 D K [.int p0] (fun H => True) (.int (bI (sp_X2_isBidder p0))) := by
  refine Met.ofW (cc := cX2_isBidder) (maxL := 1) (ret := (some .boolean)) (by decide) rfl ?_
  intro p e s m args below meth c s₁ B hml hv
  obtain ⟨rfl, hP, hK, hE⟩ := hv
  have hx := B.exec
  have hb := B.bytes
  have hr := B.returns
  have hts := atoms_spec (ws := wsX2_isBidder) B.pre
  have hown : s.vm.findClass RX2 = some m.cls := findClass_of_methodNamed B.named
  have hlocks := B.notSynchronized
  have hc : CallFix p m c cX2_isBidder 1 s ([.int p0] : List Value).toArray wsX2_isBidder RX2 := ⟨hx, hb, hml, hown, hts⟩
  have hl := lv_entry ([.int p0]) (n := 1) (Nat.le_of_ble_eq_true rfl)
  rw [lg_entry_eq]
  generalize (lg_sl ([.int p0]) ++ List.replicate (1 - (lg_sl ([.int p0])).length) Slot.unset).toArray = ls at hl ⊢
  have hl : lv_has ls 1 [(0, .int p0)] := hl
  refine lv_iload_n hx hb dX2_isBidder_0 rfl (lv_at hl 0 rfl) ?_
  refine lv_if_lt (tgt := 14) hx hb dX2_isBidder_1 (by decide) (fun c_1 => ?_) (fun c_1 => ?_)
  · skip
    refine lv_iconst (v := 0) hx hb dX2_isBidder_14 (by decide) ?_
    exact pu_zret hx hb hr hlocks dX2_isBidder_15 (bI_nar _) (bI_eq (a := false) (Eq.symm (Eq.trans (if_pos c_1) (rfl))))
  · skip
    refine lv_iload_n hx hb dX2_isBidder_4 rfl (lv_at hl 0 rfl) ?_
    refine lv_bipush (v := 7) hx hb dX2_isBidder_5 (by decide) ?_
    refine lv_icmp_ge (tgt := 14) hx hb dX2_isBidder_7 (by decide) (fun c_7 => ?_) (fun c_7 => ?_)
    · skip
      refine lv_iconst (v := 0) hx hb dX2_isBidder_14 (by decide) ?_
      exact pu_zret hx hb hr hlocks dX2_isBidder_15 (bI_nar _) (bI_eq (a := false) (Eq.symm (Eq.trans (if_neg c_1) (Eq.trans (if_pos c_7) (rfl)))))
    · skip
      refine lv_iconst (v := 1) hx hb dX2_isBidder_10 (by decide) ?_
      refine lv_goto (tgt := 15) hx hb dX2_isBidder_11 (by decide) ?_
      exact pu_zret hx hb hr hlocks dX2_isBidder_15 (bI_nar _) (bI_eq (a := true) (Eq.symm (Eq.trans (if_neg c_1) (Eq.trans (if_neg c_7) (rfl)))))

theorem isB_iff {x : Int32} : sp_X2_isBidder x = true ↔ 0 ≤ x.toInt ∧ x.toInt < 7 := by
  unfold sp_X2_isBidder
  simp only [Int32.lt_iff_toInt_lt, Int32.le_iff_toInt_le]
  have h0 : (0 : Int32).toInt = 0 := by decide
  have h7 : (7 : Int32).toInt = 7 := by decide
  rw [h0, h7]
  split <;> (try split) <;> simp <;> omega
theorem in7 {x : Int32} (h : sp_X2_isBidder x = true) : vp_in x 7 := vp_in_iff.mpr (isB_iff.mp h)

def sp_X2_isMoney (p0 : Int32) : Bool := if p0 < 1 then false else (if 100000 < p0 then false else true)
set_option maxHeartbeats 4000000 in
set_option maxRecDepth 100000 in
theorem c_X2_isMoney (l : Launch) (D : va_G) (K : Nat → ClassId) (p0 : Int32) : PU l yX2_isMoney wsX2_isMoney 0 0 D K [.int p0] (fun H => True) (.int (bI (sp_X2_isMoney p0))) := by
  refine Met.ofW (cc := cX2_isMoney) (maxL := 1) (ret := (some .boolean)) (by decide) rfl ?_
  intro p e s m args below meth c s₁ B hml hv
  obtain ⟨rfl, hP, hK, hE⟩ := hv
  have hx := B.exec
  have hb := B.bytes
  have hr := B.returns
  have hts := atoms_spec (ws := wsX2_isMoney) B.pre
  have hown : s.vm.findClass RX2 = some m.cls := findClass_of_methodNamed B.named
  have hlocks := B.notSynchronized
  have hc : CallFix p m c cX2_isMoney 1 s ([.int p0] : List Value).toArray wsX2_isMoney RX2 := ⟨hx, hb, hml, hown, hts⟩
  have hl := lv_entry ([.int p0]) (n := 1) (Nat.le_of_ble_eq_true rfl)
  rw [lg_entry_eq]
  generalize (lg_sl ([.int p0]) ++ List.replicate (1 - (lg_sl ([.int p0])).length) Slot.unset).toArray = ls at hl ⊢
  have hl : lv_has ls 1 [(0, .int p0)] := hl
  refine lv_iload_n hx hb dX2_isMoney_0 rfl (lv_at hl 0 rfl) ?_
  refine lv_iconst (v := 1) hx hb dX2_isMoney_1 (by decide) ?_
  refine lv_icmp_lt (tgt := 15) hx hb dX2_isMoney_2 (by decide) (fun c_2 => ?_) (fun c_2 => ?_)
  · skip
    refine lv_iconst (v := 0) hx hb dX2_isMoney_15 (by decide) ?_
    exact pu_zret hx hb hr hlocks dX2_isMoney_16 (bI_nar _) (bI_eq (a := false) (Eq.symm (Eq.trans (if_pos c_2) (rfl))))
  · skip
    refine lv_iload_n hx hb dX2_isMoney_5 rfl (lv_at hl 0 rfl) ?_
    refine lv_ldc hx hb hown (hts (.constant RX2 191 (100000)) (by decide +kernel)) dX2_isMoney_6 ?_
    refine lv_icmp_gt (tgt := 15) hx hb dX2_isMoney_8 (by decide) (fun c_8 => ?_) (fun c_8 => ?_)
    · skip
      refine lv_iconst (v := 0) hx hb dX2_isMoney_15 (by decide) ?_
      exact pu_zret hx hb hr hlocks dX2_isMoney_16 (bI_nar _) (bI_eq (a := false) (Eq.symm (Eq.trans (if_neg c_2) (Eq.trans (if_pos c_8) (rfl)))))
    · skip
      refine lv_iconst (v := 1) hx hb dX2_isMoney_11 (by decide) ?_
      refine lv_goto (tgt := 16) hx hb dX2_isMoney_12 (by decide) ?_
      exact pu_zret hx hb hr hlocks dX2_isMoney_16 (bI_nar _) (bI_eq (a := true) (Eq.symm (Eq.trans (if_neg c_2) (Eq.trans (if_neg c_8) (rfl)))))

def sp_X2_isPair (p0 : Int32) (p1 : Int32) : Bool := if sp_X2_isBidder p0 = true then (if sp_X2_isBidder p1 = true then (if p0 = p1 then false else true) else false) else false
set_option maxHeartbeats 4000000 in
set_option maxRecDepth 100000 in
theorem c_X2_isPair (l : Launch) (D : va_G) (K : Nat → ClassId) (p0 p1 : Int32) : PU l yX2_isPair wsX2_isPair 1 20 D K [.int p0, .int p1] (fun H => True) (.int (bI (sp_X2_isPair p0 p1))) := by
  refine Met.ofW (cc := cX2_isPair) (maxL := 2) (ret := (some .boolean)) (by decide) rfl ?_
  intro p e s m args below meth c s₁ B hml hv
  obtain ⟨rfl, hP, hK, hE⟩ := hv
  have hx := B.exec
  have hb := B.bytes
  have hr := B.returns
  have hts := atoms_spec (ws := wsX2_isPair) B.pre
  have hown : s.vm.findClass RX2 = some m.cls := findClass_of_methodNamed B.named
  have hlocks := B.notSynchronized
  have hc : CallFix p m c cX2_isPair 2 s ([.int p0, .int p1] : List Value).toArray wsX2_isPair RX2 := ⟨hx, hb, hml, hown, hts⟩
  have hl := lv_entry ([.int p0, .int p1]) (n := 2) (Nat.le_of_ble_eq_true rfl)
  rw [lg_entry_eq]
  generalize (lg_sl ([.int p0, .int p1]) ++ List.replicate (2 - (lg_sl ([.int p0, .int p1])).length) Slot.unset).toArray = ls at hl ⊢
  have hl : lv_has ls 2 [(0, .int p0), (1, .int p1)] := hl
  refine lv_iload_n hx hb dX2_isPair_0 rfl (lv_at hl 0 rfl) ?_
  refine pu_S (As := [.int p0]) (rest := []) hc (c_X2_isBidder l D K p0) (va_cwS 1 hts gX2_isPair_X2_isBidder rfl rfl rfl (by decide +kernel) ⟨Nat.le_of_ble_eq_true rfl, Nat.le_of_ble_eq_true rfl⟩) trivial hK hE rfl rfl hl.1 (Nat.le_of_ble_eq_true rfl) dX2_isPair_1 ⟨Nat.le_of_ble_eq_true rfl, Nat.le_of_ble_eq_true rfl⟩ ?_
  refine lb_eq (tgt := 23) hx hb dX2_isPair_4 (by decide) (fun c_4 => ?_) (fun c_4 => ?_)
  · skip
    refine lv_iconst (v := 0) hx hb dX2_isPair_23 (by decide) ?_
    exact pu_zret hx hb hr hlocks dX2_isPair_24 (bI_nar _) (bI_eq (a := false) (Eq.symm (Eq.trans (if_neg (ntr c_4)) (rfl))))
  · skip
    refine lv_iload_n hx hb dX2_isPair_7 rfl (lv_at hl 1 rfl) ?_
    refine pu_S (As := [.int p1]) (rest := []) hc (c_X2_isBidder l D K p1) (va_cwS 1 hts gX2_isPair_X2_isBidder rfl rfl rfl (by decide +kernel) ⟨Nat.le_of_ble_eq_true rfl, Nat.le_of_ble_eq_true rfl⟩) trivial hK hE rfl rfl hl.1 (Nat.le_of_ble_eq_true rfl) dX2_isPair_8 ⟨Nat.le_of_ble_eq_true rfl, Nat.le_of_ble_eq_true rfl⟩ ?_
    refine lb_eq (tgt := 23) hx hb dX2_isPair_11 (by decide) (fun c_11 => ?_) (fun c_11 => ?_)
    · skip
      refine lv_iconst (v := 0) hx hb dX2_isPair_23 (by decide) ?_
      exact pu_zret hx hb hr hlocks dX2_isPair_24 (bI_nar _) (bI_eq (a := false) (Eq.symm (Eq.trans (if_pos c_4) (Eq.trans (if_neg (ntr c_11)) (rfl)))))
    · skip
      refine lv_iload_n hx hb dX2_isPair_14 rfl (lv_at hl 0 rfl) ?_
      refine lv_iload_n hx hb dX2_isPair_15 rfl (lv_at hl 1 rfl) ?_
      refine lv_icmp_eq (tgt := 23) hx hb dX2_isPair_16 (by decide) (fun c_16 => ?_) (fun c_16 => ?_)
      · skip
        refine lv_iconst (v := 0) hx hb dX2_isPair_23 (by decide) ?_
        exact pu_zret hx hb hr hlocks dX2_isPair_24 (bI_nar _) (bI_eq (a := false) (Eq.symm (Eq.trans (if_pos c_4) (Eq.trans (if_pos c_11) (Eq.trans (if_pos c_16) (rfl))))))
      · skip
        refine lv_iconst (v := 1) hx hb dX2_isPair_19 (by decide) ?_
        refine lv_goto (tgt := 24) hx hb dX2_isPair_20 (by decide) ?_
        exact pu_zret hx hb hr hlocks dX2_isPair_24 (bI_nar _) (bI_eq (a := true) (Eq.symm (Eq.trans (if_pos c_4) (Eq.trans (if_pos c_11) (Eq.trans (if_neg c_16) (rfl))))))

def sp_X1_isOpen (dec : Int32) : Bool := if dec = 0 then true else false
set_option maxHeartbeats 4000000 in
set_option maxRecDepth 100000 in
theorem c_X1_isOpen (l : Launch) (D : va_G) (K : Nat → ClassId) (q sa wa : Nat) (su go : Nat → Int32) (dec win par prt : Int32) : PU l yX1_isOpen wsX1_isOpen 0 0 D K [.ref q] (fun H => va_P D vwCl (tW K q sa wa su go dec win par prt) H) (.int (bI (sp_X1_isOpen dec))) := by
  refine Met.ofW (cc := cX1_isOpen) (maxL := 1) (ret := (some .boolean)) (by decide) rfl ?_
  intro p e s m args below meth c s₁ B hml hv
  obtain ⟨rfl, hP, hK, hE⟩ := hv
  have hx := B.exec
  have hb := B.bytes
  have hr := B.returns
  have hts := atoms_spec (ws := wsX1_isOpen) B.pre
  have hown : s.vm.findClass RX1 = some m.cls := findClass_of_methodNamed B.named
  have hlocks := B.notSynchronized
  have hc : CallFix p m c cX1_isOpen 1 s ([.ref q] : List Value).toArray wsX1_isOpen RX1 := ⟨hx, hb, hml, hown, hts⟩
  have hin1 : ∀ w ∈ u_ws RX1 TX1 6, w ∈ wsX1_isOpen := by decide +kernel
  have hP : va_P D vwCl (tW K q sa wa su go dec win par prt) s.heap := hP
  have hl := lv_entry ([.ref q]) (n := 1) (Nat.le_of_ble_eq_true rfl)
  rw [lg_entry_eq]
  generalize (lg_sl ([.ref q]) ++ List.replicate (1 - (lg_sl ([.ref q])).length) Slot.unset).toArray = ls at hl ⊢
  have hl : lv_has ls 1 [(0, .ref q)] := hl
  refine lv_aload_n hx hb dX1_isOpen_0 rfl (lv_at hl 0 rfl) ?_
  refine va_get (D := D) (ci := 1) (v := .int dec) (C := RX1) (T := TX1) (N := 6) hx hb hts hin1 hown hK hP 0 rfl rfl 2 (by decide) (hts (.fieldLink RX1 19 "CartelWatch$Tender" "decided" "Z") (by decide +kernel)) (fun _ h9 => h9) rfl dX1_isOpen_1 ?_
  refine lv_if_ne (tgt := 11) hx hb dX1_isOpen_4 (by decide) (fun c_4 => ?_) (fun c_4 => ?_)
  · skip
    refine lv_iconst (v := 0) hx hb dX1_isOpen_11 (by decide) ?_
    exact pu_zret hx hb hr hlocks dX1_isOpen_12 (bI_nar _) (bI_eq (a := false) (Eq.symm (Eq.trans (if_neg c_4) (rfl))))
  · skip
    refine lv_iconst (v := 1) hx hb dX1_isOpen_7 (by decide) ?_
    refine lv_goto (tgt := 12) hx hb dX1_isOpen_8 (by decide) ?_
    exact pu_zret hx hb hr hlocks dX1_isOpen_12 (bI_nar _) (bI_eq (a := true) (Eq.symm (Eq.trans (if_pos c_4) (rfl))))

def sp_X1_isAwarded (win : Int32) : Bool := if win = (-1) then false else true
set_option maxHeartbeats 4000000 in
set_option maxRecDepth 100000 in
theorem c_X1_isAwarded (l : Launch) (D : va_G) (K : Nat → ClassId) (q sa wa : Nat) (su go : Nat → Int32) (dec win par prt : Int32) : PU l yX1_isAwarded wsX1_isAwarded 0 0 D K [.ref q] (fun H => va_P D vwCl (tW K q sa wa su go dec win par prt) H) (.int (bI (sp_X1_isAwarded win))) := by
  refine Met.ofW (cc := cX1_isAwarded) (maxL := 1) (ret := (some .boolean)) (by decide) rfl ?_
  intro p e s m args below meth c s₁ B hml hv
  obtain ⟨rfl, hP, hK, hE⟩ := hv
  have hx := B.exec
  have hb := B.bytes
  have hr := B.returns
  have hts := atoms_spec (ws := wsX1_isAwarded) B.pre
  have hown : s.vm.findClass RX1 = some m.cls := findClass_of_methodNamed B.named
  have hlocks := B.notSynchronized
  have hc : CallFix p m c cX1_isAwarded 1 s ([.ref q] : List Value).toArray wsX1_isAwarded RX1 := ⟨hx, hb, hml, hown, hts⟩
  have hin1 : ∀ w ∈ u_ws RX1 TX1 6, w ∈ wsX1_isAwarded := by decide +kernel
  have hP : va_P D vwCl (tW K q sa wa su go dec win par prt) s.heap := hP
  have hl := lv_entry ([.ref q]) (n := 1) (Nat.le_of_ble_eq_true rfl)
  rw [lg_entry_eq]
  generalize (lg_sl ([.ref q]) ++ List.replicate (1 - (lg_sl ([.ref q])).length) Slot.unset).toArray = ls at hl ⊢
  have hl : lv_has ls 1 [(0, .ref q)] := hl
  refine lv_aload_n hx hb dX1_isAwarded_0 rfl (lv_at hl 0 rfl) ?_
  refine va_get (D := D) (ci := 1) (v := .int win) (C := RX1) (T := TX1) (N := 6) hx hb hts hin1 hown hK hP 0 rfl rfl 3 (by decide) (hts (.fieldLink RX1 23 "CartelWatch$Tender" "winner" "I") (by decide +kernel)) (fun _ h9 => h9) rfl dX1_isAwarded_1 ?_
  refine lv_iconst (v := -1) hx hb dX1_isAwarded_4 (by decide) ?_
  refine lv_icmp_eq (tgt := 12) hx hb dX1_isAwarded_5 (by decide) (fun c_5 => ?_) (fun c_5 => ?_)
  · skip
    refine lv_iconst (v := 0) hx hb dX1_isAwarded_12 (by decide) ?_
    exact pu_zret hx hb hr hlocks dX1_isAwarded_13 (bI_nar _) (bI_eq (a := false) (Eq.symm (Eq.trans (if_pos c_5) (rfl))))
  · skip
    refine lv_iconst (v := 1) hx hb dX1_isAwarded_8 (by decide) ?_
    refine lv_goto (tgt := 13) hx hb dX1_isAwarded_9 (by decide) ?_
    exact pu_zret hx hb hr hlocks dX1_isAwarded_13 (bI_nar _) (bI_eq (a := true) (Eq.symm (Eq.trans (if_neg c_5) (rfl))))

def sp_X1_isPassedOn (par : Int32) : Bool := if par = (-1) then false else true
set_option maxHeartbeats 4000000 in
set_option maxRecDepth 100000 in
theorem c_X1_isPassedOn (l : Launch) (D : va_G) (K : Nat → ClassId) (q sa wa : Nat) (su go : Nat → Int32) (dec win par prt : Int32) : PU l yX1_isPassedOn wsX1_isPassedOn 0 0 D K [.ref q] (fun H => va_P D vwCl (tW K q sa wa su go dec win par prt) H) (.int (bI (sp_X1_isPassedOn par))) := by
  refine Met.ofW (cc := cX1_isPassedOn) (maxL := 1) (ret := (some .boolean)) (by decide) rfl ?_
  intro p e s m args below meth c s₁ B hml hv
  obtain ⟨rfl, hP, hK, hE⟩ := hv
  have hx := B.exec
  have hb := B.bytes
  have hr := B.returns
  have hts := atoms_spec (ws := wsX1_isPassedOn) B.pre
  have hown : s.vm.findClass RX1 = some m.cls := findClass_of_methodNamed B.named
  have hlocks := B.notSynchronized
  have hc : CallFix p m c cX1_isPassedOn 1 s ([.ref q] : List Value).toArray wsX1_isPassedOn RX1 := ⟨hx, hb, hml, hown, hts⟩
  have hin1 : ∀ w ∈ u_ws RX1 TX1 6, w ∈ wsX1_isPassedOn := by decide +kernel
  have hP : va_P D vwCl (tW K q sa wa su go dec win par prt) s.heap := hP
  have hl := lv_entry ([.ref q]) (n := 1) (Nat.le_of_ble_eq_true rfl)
  rw [lg_entry_eq]
  generalize (lg_sl ([.ref q]) ++ List.replicate (1 - (lg_sl ([.ref q])).length) Slot.unset).toArray = ls at hl ⊢
  have hl : lv_has ls 1 [(0, .ref q)] := hl
  refine lv_aload_n hx hb dX1_isPassedOn_0 rfl (lv_at hl 0 rfl) ?_
  refine va_get (D := D) (ci := 1) (v := .int par) (C := RX1) (T := TX1) (N := 6) hx hb hts hin1 hown hK hP 0 rfl rfl 4 (by decide) (hts (.fieldLink RX1 27 "CartelWatch$Tender" "partner" "I") (by decide +kernel)) (fun _ h9 => h9) rfl dX1_isPassedOn_1 ?_
  refine lv_iconst (v := -1) hx hb dX1_isPassedOn_4 (by decide) ?_
  refine lv_icmp_eq (tgt := 12) hx hb dX1_isPassedOn_5 (by decide) (fun c_5 => ?_) (fun c_5 => ?_)
  · skip
    refine lv_iconst (v := 0) hx hb dX1_isPassedOn_12 (by decide) ?_
    exact pu_zret hx hb hr hlocks dX1_isPassedOn_13 (bI_nar _) (bI_eq (a := false) (Eq.symm (Eq.trans (if_pos c_5) (rfl))))
  · skip
    refine lv_iconst (v := 1) hx hb dX1_isPassedOn_8 (by decide) ?_
    refine lv_goto (tgt := 13) hx hb dX1_isPassedOn_9 (by decide) ?_
    exact pu_zret hx hb hr hlocks dX1_isPassedOn_13 (bI_nar _) (bI_eq (a := true) (Eq.symm (Eq.trans (if_neg c_5) (rfl))))

def sp_X1_winner (win : Int32) : Int32 := win
set_option maxHeartbeats 4000000 in
set_option maxRecDepth 100000 in
theorem c_X1_winner (l : Launch) (D : va_G) (K : Nat → ClassId) (q sa wa : Nat) (su go : Nat → Int32) (dec win par prt : Int32) : PU l yX1_winner wsX1_winner 0 0 D K [.ref q] (fun H => va_P D vwCl (tW K q sa wa su go dec win par prt) H) (.int (sp_X1_winner win)) := by
  refine Met.ofW (cc := cX1_winner) (maxL := 1) (ret := (some .int)) (by decide) rfl ?_
  intro p e s m args below meth c s₁ B hml hv
  obtain ⟨rfl, hP, hK, hE⟩ := hv
  have hx := B.exec
  have hb := B.bytes
  have hr := B.returns
  have hts := atoms_spec (ws := wsX1_winner) B.pre
  have hown : s.vm.findClass RX1 = some m.cls := findClass_of_methodNamed B.named
  have hlocks := B.notSynchronized
  have hc : CallFix p m c cX1_winner 1 s ([.ref q] : List Value).toArray wsX1_winner RX1 := ⟨hx, hb, hml, hown, hts⟩
  have hin1 : ∀ w ∈ u_ws RX1 TX1 6, w ∈ wsX1_winner := by decide +kernel
  have hP : va_P D vwCl (tW K q sa wa su go dec win par prt) s.heap := hP
  have hl := lv_entry ([.ref q]) (n := 1) (Nat.le_of_ble_eq_true rfl)
  rw [lg_entry_eq]
  generalize (lg_sl ([.ref q]) ++ List.replicate (1 - (lg_sl ([.ref q])).length) Slot.unset).toArray = ls at hl ⊢
  have hl : lv_has ls 1 [(0, .ref q)] := hl
  refine lv_aload_n hx hb dX1_winner_0 rfl (lv_at hl 0 rfl) ?_
  refine va_get (D := D) (ci := 1) (v := .int win) (C := RX1) (T := TX1) (N := 6) hx hb hts hin1 hown hK hP 0 rfl rfl 3 (by decide) (hts (.fieldLink RX1 23 "CartelWatch$Tender" "winner" "I") (by decide +kernel)) (fun _ h9 => h9) rfl dX1_winner_1 ?_
  exact pu_iret hx hb hr hlocks dX1_winner_4 (Eq.symm (rfl))

def sp_X1_sumOf (su : Nat → Int32) (p0 : Int32) : Int32 := if sp_X2_isBidder p0 = true then (su p0.toNatClampNeg) else 0
set_option maxHeartbeats 4000000 in
set_option maxRecDepth 100000 in
theorem c_X1_sumOf (l : Launch) (D : va_G) (K : Nat → ClassId) (q sa wa : Nat) (su go : Nat → Int32) (dec win par prt p0 : Int32) : PU l yX1_sumOf wsX1_sumOf 1 20 D K [.ref q, .int p0] (fun H => va_P D vwCl (tW K q sa wa su go dec win par prt) H) (.int (sp_X1_sumOf su p0)) := by
  refine Met.ofW (cc := cX1_sumOf) (maxL := 2) (ret := (some .int)) (by decide) rfl ?_
  intro p e s m args below meth c s₁ B hml hv
  obtain ⟨rfl, hP, hK, hE⟩ := hv
  have hx := B.exec
  have hb := B.bytes
  have hr := B.returns
  have hts := atoms_spec (ws := wsX1_sumOf) B.pre
  have hown : s.vm.findClass RX1 = some m.cls := findClass_of_methodNamed B.named
  have hlocks := B.notSynchronized
  have hc : CallFix p m c cX1_sumOf 2 s ([.ref q, .int p0] : List Value).toArray wsX1_sumOf RX1 := ⟨hx, hb, hml, hown, hts⟩
  have hin1 : ∀ w ∈ u_ws RX1 TX1 6, w ∈ wsX1_sumOf := by decide +kernel
  have hP : va_P D vwCl (tW K q sa wa su go dec win par prt) s.heap := hP
  have hl := lv_entry ([.ref q, .int p0]) (n := 2) (Nat.le_of_ble_eq_true rfl)
  rw [lg_entry_eq]
  generalize (lg_sl ([.ref q, .int p0]) ++ List.replicate (2 - (lg_sl ([.ref q, .int p0])).length) Slot.unset).toArray = ls at hl ⊢
  have hl : lv_has ls 2 [(0, .ref q), (1, .int p0)] := hl
  refine lv_iload_n hx hb dX1_sumOf_0 rfl (lv_at hl 1 rfl) ?_
  refine pu_SN (As := [.int p0]) (rest := []) hc (c_X2_isBidder l D K p0) ⟨va_cnB (own := RX1) (index := 33) (host := RX2) 1 hts gX1_sumOf_X2_isBidder_n33 rfl rfl rfl hE.1 (hts (.initialized RX2) (by decide +kernel)) (by decide +kernel) ⟨Nat.le_of_ble_eq_true rfl, Nat.le_of_ble_eq_true rfl⟩, (hts (.static yX2_isBidder) (by decide +kernel)), trivial⟩ trivial hK hE rfl rfl hl.1 (Nat.le_of_ble_eq_true rfl) dX1_sumOf_1 ⟨Nat.le_of_ble_eq_true rfl, Nat.le_of_ble_eq_true rfl⟩ ?_
  refine lb_eq (tgt := 16) hx hb dX1_sumOf_4 (by decide) (fun c_4 => ?_) (fun c_4 => ?_)
  · skip
    refine lv_iconst (v := 0) hx hb dX1_sumOf_16 (by decide) ?_
    exact pu_iret hx hb hr hlocks dX1_sumOf_17 (Eq.symm (Eq.trans (if_neg (ntr c_4)) (rfl)))
  · skip
    refine lv_aload_n hx hb dX1_sumOf_7 rfl (lv_at hl 0 rfl) ?_
    refine va_get (D := D) (ci := 1) (v := .ref sa) (C := RX1) (T := TX1) (N := 6) hx hb hts hin1 hown hK hP 0 rfl rfl 0 (by decide) (hts (.fieldLink RX1 9 "CartelWatch$Tender" "sums" "[I") (by decide +kernel)) (fun _ h9 => h9) rfl dX1_sumOf_8 ?_
    refine lv_iload_n hx hb dX1_sumOf_11 rfl (lv_at hl 1 rfl) ?_
    refine va_iald hx hb hK hP 1 0 (cA := K 0) rfl rfl (in7 c_4) dX1_sumOf_12 ?_
    refine lv_goto (tgt := 17) hx hb dX1_sumOf_13 (by decide) ?_
    exact pu_iret hx hb hr hlocks dX1_sumOf_17 (Eq.symm (Eq.trans (if_pos c_4) (rfl)))

def sp_X1_hasBidOf (su : Nat → Int32) (p0 : Int32) : Bool := if sp_X2_isBidder p0 = true then (if (su p0.toNatClampNeg) ≤ 0 then false else true) else false
set_option maxHeartbeats 4000000 in
set_option maxRecDepth 100000 in
theorem c_X1_hasBidOf (l : Launch) (D : va_G) (K : Nat → ClassId) (q sa wa : Nat) (su go : Nat → Int32) (dec win par prt p0 : Int32) : PU l yX1_hasBidOf wsX1_hasBidOf 1 20 D K [.ref q, .int p0] (fun H => va_P D vwCl (tW K q sa wa su go dec win par prt) H) (.int (bI (sp_X1_hasBidOf su p0))) := by
  refine Met.ofW (cc := cX1_hasBidOf) (maxL := 2) (ret := (some .boolean)) (by decide) rfl ?_
  intro p e s m args below meth c s₁ B hml hv
  obtain ⟨rfl, hP, hK, hE⟩ := hv
  have hx := B.exec
  have hb := B.bytes
  have hr := B.returns
  have hts := atoms_spec (ws := wsX1_hasBidOf) B.pre
  have hown : s.vm.findClass RX1 = some m.cls := findClass_of_methodNamed B.named
  have hlocks := B.notSynchronized
  have hc : CallFix p m c cX1_hasBidOf 2 s ([.ref q, .int p0] : List Value).toArray wsX1_hasBidOf RX1 := ⟨hx, hb, hml, hown, hts⟩
  have hin1 : ∀ w ∈ u_ws RX1 TX1 6, w ∈ wsX1_hasBidOf := by decide +kernel
  have hP : va_P D vwCl (tW K q sa wa su go dec win par prt) s.heap := hP
  have hl := lv_entry ([.ref q, .int p0]) (n := 2) (Nat.le_of_ble_eq_true rfl)
  rw [lg_entry_eq]
  generalize (lg_sl ([.ref q, .int p0]) ++ List.replicate (2 - (lg_sl ([.ref q, .int p0])).length) Slot.unset).toArray = ls at hl ⊢
  have hl : lv_has ls 2 [(0, .ref q), (1, .int p0)] := hl
  refine lv_iload_n hx hb dX1_hasBidOf_0 rfl (lv_at hl 1 rfl) ?_
  refine pu_SN (As := [.int p0]) (rest := []) hc (c_X2_isBidder l D K p0) ⟨va_cnB (own := RX1) (index := 33) (host := RX2) 1 hts gX1_hasBidOf_X2_isBidder_n33 rfl rfl rfl hE.1 (hts (.initialized RX2) (by decide +kernel)) (by decide +kernel) ⟨Nat.le_of_ble_eq_true rfl, Nat.le_of_ble_eq_true rfl⟩, (hts (.static yX2_isBidder) (by decide +kernel)), trivial⟩ trivial hK hE rfl rfl hl.1 (Nat.le_of_ble_eq_true rfl) dX1_hasBidOf_1 ⟨Nat.le_of_ble_eq_true rfl, Nat.le_of_ble_eq_true rfl⟩ ?_
  refine lb_eq (tgt := 20) hx hb dX1_hasBidOf_4 (by decide) (fun c_4 => ?_) (fun c_4 => ?_)
  · skip
    refine lv_iconst (v := 0) hx hb dX1_hasBidOf_20 (by decide) ?_
    exact pu_zret hx hb hr hlocks dX1_hasBidOf_21 (bI_nar _) (bI_eq (a := false) (Eq.symm (Eq.trans (if_neg (ntr c_4)) (rfl))))
  · skip
    refine lv_aload_n hx hb dX1_hasBidOf_7 rfl (lv_at hl 0 rfl) ?_
    refine va_get (D := D) (ci := 1) (v := .ref sa) (C := RX1) (T := TX1) (N := 6) hx hb hts hin1 hown hK hP 0 rfl rfl 0 (by decide) (hts (.fieldLink RX1 9 "CartelWatch$Tender" "sums" "[I") (by decide +kernel)) (fun _ h9 => h9) rfl dX1_hasBidOf_8 ?_
    refine lv_iload_n hx hb dX1_hasBidOf_11 rfl (lv_at hl 1 rfl) ?_
    refine va_iald hx hb hK hP 1 0 (cA := K 0) rfl rfl (in7 c_4) dX1_hasBidOf_12 ?_
    refine lv_if_le (tgt := 20) hx hb dX1_hasBidOf_13 (by decide) (fun c_13 => ?_) (fun c_13 => ?_)
    · skip
      refine lv_iconst (v := 0) hx hb dX1_hasBidOf_20 (by decide) ?_
      exact pu_zret hx hb hr hlocks dX1_hasBidOf_21 (bI_nar _) (bI_eq (a := false) (Eq.symm (Eq.trans (if_pos c_4) (Eq.trans (if_pos c_13) (rfl)))))
    · skip
      refine lv_iconst (v := 1) hx hb dX1_hasBidOf_16 (by decide) ?_
      refine lv_goto (tgt := 21) hx hb dX1_hasBidOf_17 (by decide) ?_
      exact pu_zret hx hb hr hlocks dX1_hasBidOf_21 (bI_nar _) (bI_eq (a := true) (Eq.symm (Eq.trans (if_pos c_4) (Eq.trans (if_neg c_13) (rfl)))))

def sp_X1_hasWithdrawn (go : Nat → Int32) (p0 : Int32) : Bool := if sp_X2_isBidder p0 = true then (if (go p0.toNatClampNeg) = 0 then false else true) else false
set_option maxHeartbeats 4000000 in
set_option maxRecDepth 100000 in
theorem c_X1_hasWithdrawn (l : Launch) (D : va_G) (K : Nat → ClassId) (q sa wa : Nat) (su go : Nat → Int32) (dec win par prt p0 : Int32) : PU l yX1_hasWithdrawn wsX1_hasWithdrawn 1 20 D K [.ref q, .int p0] (fun H => va_P D vwCl (tW K q sa wa su go dec win par prt) H) (.int (bI (sp_X1_hasWithdrawn go p0))) := by
  refine Met.ofW (cc := cX1_hasWithdrawn) (maxL := 2) (ret := (some .boolean)) (by decide) rfl ?_
  intro p e s m args below meth c s₁ B hml hv
  obtain ⟨rfl, hP, hK, hE⟩ := hv
  have hx := B.exec
  have hb := B.bytes
  have hr := B.returns
  have hts := atoms_spec (ws := wsX1_hasWithdrawn) B.pre
  have hown : s.vm.findClass RX1 = some m.cls := findClass_of_methodNamed B.named
  have hlocks := B.notSynchronized
  have hc : CallFix p m c cX1_hasWithdrawn 2 s ([.ref q, .int p0] : List Value).toArray wsX1_hasWithdrawn RX1 := ⟨hx, hb, hml, hown, hts⟩
  have hin1 : ∀ w ∈ u_ws RX1 TX1 6, w ∈ wsX1_hasWithdrawn := by decide +kernel
  have hP : va_P D vwCl (tW K q sa wa su go dec win par prt) s.heap := hP
  have hl := lv_entry ([.ref q, .int p0]) (n := 2) (Nat.le_of_ble_eq_true rfl)
  rw [lg_entry_eq]
  generalize (lg_sl ([.ref q, .int p0]) ++ List.replicate (2 - (lg_sl ([.ref q, .int p0])).length) Slot.unset).toArray = ls at hl ⊢
  have hl : lv_has ls 2 [(0, .ref q), (1, .int p0)] := hl
  refine lv_iload_n hx hb dX1_hasWithdrawn_0 rfl (lv_at hl 1 rfl) ?_
  refine pu_SN (As := [.int p0]) (rest := []) hc (c_X2_isBidder l D K p0) ⟨va_cnB (own := RX1) (index := 33) (host := RX2) 1 hts gX1_hasWithdrawn_X2_isBidder_n33 rfl rfl rfl hE.1 (hts (.initialized RX2) (by decide +kernel)) (by decide +kernel) ⟨Nat.le_of_ble_eq_true rfl, Nat.le_of_ble_eq_true rfl⟩, (hts (.static yX2_isBidder) (by decide +kernel)), trivial⟩ trivial hK hE rfl rfl hl.1 (Nat.le_of_ble_eq_true rfl) dX1_hasWithdrawn_1 ⟨Nat.le_of_ble_eq_true rfl, Nat.le_of_ble_eq_true rfl⟩ ?_
  refine lb_eq (tgt := 20) hx hb dX1_hasWithdrawn_4 (by decide) (fun c_4 => ?_) (fun c_4 => ?_)
  · skip
    refine lv_iconst (v := 0) hx hb dX1_hasWithdrawn_20 (by decide) ?_
    exact pu_zret hx hb hr hlocks dX1_hasWithdrawn_21 (bI_nar _) (bI_eq (a := false) (Eq.symm (Eq.trans (if_neg (ntr c_4)) (rfl))))
  · skip
    refine lv_aload_n hx hb dX1_hasWithdrawn_7 rfl (lv_at hl 0 rfl) ?_
    refine va_get (D := D) (ci := 1) (v := .ref wa) (C := RX1) (T := TX1) (N := 6) hx hb hts hin1 hown hK hP 0 rfl rfl 1 (by decide) (hts (.fieldLink RX1 15 "CartelWatch$Tender" "withdrawn" "[Z") (by decide +kernel)) (fun _ h9 => h9) rfl dX1_hasWithdrawn_8 ?_
    refine lv_iload_n hx hb dX1_hasWithdrawn_11 rfl (lv_at hl 1 rfl) ?_
    refine va_zald hx hb hK hP 2 1 (cA := K 1) rfl rfl (in7 c_4) dX1_hasWithdrawn_12 ?_
    refine lv_if_eq (tgt := 20) hx hb dX1_hasWithdrawn_13 (by decide) (fun c_13 => ?_) (fun c_13 => ?_)
    · skip
      refine lv_iconst (v := 0) hx hb dX1_hasWithdrawn_20 (by decide) ?_
      exact pu_zret hx hb hr hlocks dX1_hasWithdrawn_21 (bI_nar _) (bI_eq (a := false) (Eq.symm (Eq.trans (if_pos c_4) (Eq.trans (if_pos c_13) (rfl)))))
    · skip
      refine lv_iconst (v := 1) hx hb dX1_hasWithdrawn_16 (by decide) ?_
      refine lv_goto (tgt := 21) hx hb dX1_hasWithdrawn_17 (by decide) ?_
      exact pu_zret hx hb hr hlocks dX1_hasWithdrawn_21 (bI_nar _) (bI_eq (a := true) (Eq.symm (Eq.trans (if_pos c_4) (Eq.trans (if_neg c_13) (rfl)))))

def sp_X1_isStanding (su : Nat → Int32) (go : Nat → Int32) (p0 : Int32) : Bool := if sp_X2_isBidder p0 = true then (if (su p0.toNatClampNeg) ≤ 0 then false else (if (go p0.toNatClampNeg) = 0 then true else false)) else false
set_option maxHeartbeats 4000000 in
set_option maxRecDepth 100000 in
theorem c_X1_isStanding (l : Launch) (D : va_G) (K : Nat → ClassId) (q sa wa : Nat) (su go : Nat → Int32) (dec win par prt p0 : Int32) : PU l yX1_isStanding wsX1_isStanding 1 20 D K [.ref q, .int p0] (fun H => va_P D vwCl (tW K q sa wa su go dec win par prt) H) (.int (bI (sp_X1_isStanding su go p0))) := by
  refine Met.ofW (cc := cX1_isStanding) (maxL := 2) (ret := (some .boolean)) (by decide) rfl ?_
  intro p e s m args below meth c s₁ B hml hv
  obtain ⟨rfl, hP, hK, hE⟩ := hv
  have hx := B.exec
  have hb := B.bytes
  have hr := B.returns
  have hts := atoms_spec (ws := wsX1_isStanding) B.pre
  have hown : s.vm.findClass RX1 = some m.cls := findClass_of_methodNamed B.named
  have hlocks := B.notSynchronized
  have hc : CallFix p m c cX1_isStanding 2 s ([.ref q, .int p0] : List Value).toArray wsX1_isStanding RX1 := ⟨hx, hb, hml, hown, hts⟩
  have hin1 : ∀ w ∈ u_ws RX1 TX1 6, w ∈ wsX1_isStanding := by decide +kernel
  have hP : va_P D vwCl (tW K q sa wa su go dec win par prt) s.heap := hP
  have hl := lv_entry ([.ref q, .int p0]) (n := 2) (Nat.le_of_ble_eq_true rfl)
  rw [lg_entry_eq]
  generalize (lg_sl ([.ref q, .int p0]) ++ List.replicate (2 - (lg_sl ([.ref q, .int p0])).length) Slot.unset).toArray = ls at hl ⊢
  have hl : lv_has ls 2 [(0, .ref q), (1, .int p0)] := hl
  refine lv_iload_n hx hb dX1_isStanding_0 rfl (lv_at hl 1 rfl) ?_
  refine pu_SN (As := [.int p0]) (rest := []) hc (c_X2_isBidder l D K p0) ⟨va_cnB (own := RX1) (index := 33) (host := RX2) 1 hts gX1_isStanding_X2_isBidder_n33 rfl rfl rfl hE.1 (hts (.initialized RX2) (by decide +kernel)) (by decide +kernel) ⟨Nat.le_of_ble_eq_true rfl, Nat.le_of_ble_eq_true rfl⟩, (hts (.static yX2_isBidder) (by decide +kernel)), trivial⟩ trivial hK hE rfl rfl hl.1 (Nat.le_of_ble_eq_true rfl) dX1_isStanding_1 ⟨Nat.le_of_ble_eq_true rfl, Nat.le_of_ble_eq_true rfl⟩ ?_
  refine lb_eq (tgt := 29) hx hb dX1_isStanding_4 (by decide) (fun c_4 => ?_) (fun c_4 => ?_)
  · skip
    refine lv_iconst (v := 0) hx hb dX1_isStanding_29 (by decide) ?_
    exact pu_zret hx hb hr hlocks dX1_isStanding_30 (bI_nar _) (bI_eq (a := false) (Eq.symm (Eq.trans (if_neg (ntr c_4)) (rfl))))
  · skip
    refine lv_aload_n hx hb dX1_isStanding_7 rfl (lv_at hl 0 rfl) ?_
    refine va_get (D := D) (ci := 1) (v := .ref sa) (C := RX1) (T := TX1) (N := 6) hx hb hts hin1 hown hK hP 0 rfl rfl 0 (by decide) (hts (.fieldLink RX1 9 "CartelWatch$Tender" "sums" "[I") (by decide +kernel)) (fun _ h9 => h9) rfl dX1_isStanding_8 ?_
    refine lv_iload_n hx hb dX1_isStanding_11 rfl (lv_at hl 1 rfl) ?_
    refine va_iald hx hb hK hP 1 0 (cA := K 0) rfl rfl (in7 c_4) dX1_isStanding_12 ?_
    refine lv_if_le (tgt := 29) hx hb dX1_isStanding_13 (by decide) (fun c_13 => ?_) (fun c_13 => ?_)
    · skip
      refine lv_iconst (v := 0) hx hb dX1_isStanding_29 (by decide) ?_
      exact pu_zret hx hb hr hlocks dX1_isStanding_30 (bI_nar _) (bI_eq (a := false) (Eq.symm (Eq.trans (if_pos c_4) (Eq.trans (if_pos c_13) (rfl)))))
    · skip
      refine lv_aload_n hx hb dX1_isStanding_16 rfl (lv_at hl 0 rfl) ?_
      refine va_get (D := D) (ci := 1) (v := .ref wa) (C := RX1) (T := TX1) (N := 6) hx hb hts hin1 hown hK hP 0 rfl rfl 1 (by decide) (hts (.fieldLink RX1 15 "CartelWatch$Tender" "withdrawn" "[Z") (by decide +kernel)) (fun _ h9 => h9) rfl dX1_isStanding_17 ?_
      refine lv_iload_n hx hb dX1_isStanding_20 rfl (lv_at hl 1 rfl) ?_
      refine va_zald hx hb hK hP 2 1 (cA := K 1) rfl rfl (in7 c_4) dX1_isStanding_21 ?_
      refine lv_if_ne (tgt := 29) hx hb dX1_isStanding_22 (by decide) (fun c_22 => ?_) (fun c_22 => ?_)
      · skip
        refine lv_iconst (v := 0) hx hb dX1_isStanding_29 (by decide) ?_
        exact pu_zret hx hb hr hlocks dX1_isStanding_30 (bI_nar _) (bI_eq (a := false) (Eq.symm (Eq.trans (if_pos c_4) (Eq.trans (if_neg c_13) (Eq.trans (if_neg c_22) (rfl))))))
      · skip
        refine lv_iconst (v := 1) hx hb dX1_isStanding_25 (by decide) ?_
        refine lv_goto (tgt := 30) hx hb dX1_isStanding_26 (by decide) ?_
        exact pu_zret hx hb hr hlocks dX1_isStanding_30 (bI_nar _) (bI_eq (a := true) (Eq.symm (Eq.trans (if_pos c_4) (Eq.trans (if_neg c_13) (Eq.trans (if_pos c_22) (rfl))))))

def sp_X1_isNear (su : Nat → Int32) (win : Int32) (p0 : Int32) : Bool := if p0 ≤ (sp_X1_sumOf su win) then false else (if (((sp_X1_sumOf su win) * 5) / 100) < (p0 - (sp_X1_sumOf su win)) then false else true)
set_option maxHeartbeats 4000000 in
set_option maxRecDepth 100000 in
theorem c_X1_isNear (l : Launch) (D : va_G) (K : Nat → ClassId) (q sa wa : Nat) (su go : Nat → Int32) (dec win par prt p0 : Int32) : PU l yX1_isNear wsX1_isNear 2 41 D K [.ref q, .int p0] (fun H => va_P D vwCl (tW K q sa wa su go dec win par prt) H) (.int (bI (sp_X1_isNear su win p0))) := by
  refine Met.ofW (cc := cX1_isNear) (maxL := 3) (ret := (some .boolean)) (by decide) rfl ?_
  intro p e s m args below meth c s₁ B hml hv
  obtain ⟨rfl, hP, hK, hE⟩ := hv
  have hx := B.exec
  have hb := B.bytes
  have hr := B.returns
  have hts := atoms_spec (ws := wsX1_isNear) B.pre
  have hown : s.vm.findClass RX1 = some m.cls := findClass_of_methodNamed B.named
  have hlocks := B.notSynchronized
  have hc : CallFix p m c cX1_isNear 3 s ([.ref q, .int p0] : List Value).toArray wsX1_isNear RX1 := ⟨hx, hb, hml, hown, hts⟩
  have hin1 : ∀ w ∈ u_ws RX1 TX1 6, w ∈ wsX1_isNear := by decide +kernel
  have hP : va_P D vwCl (tW K q sa wa su go dec win par prt) s.heap := hP
  have hl := lv_entry ([.ref q, .int p0]) (n := 3) (Nat.le_of_ble_eq_true rfl)
  rw [lg_entry_eq]
  generalize (lg_sl ([.ref q, .int p0]) ++ List.replicate (3 - (lg_sl ([.ref q, .int p0])).length) Slot.unset).toArray = ls at hl ⊢
  have hl : lv_has ls 3 [(0, .ref q), (1, .int p0)] := hl
  refine lv_aload_n hx hb dX1_isNear_0 rfl (lv_at hl 0 rfl) ?_
  refine lv_aload_n hx hb dX1_isNear_1 rfl (lv_at hl 0 rfl) ?_
  refine va_get (D := D) (ci := 1) (v := .int win) (C := RX1) (T := TX1) (N := 6) hx hb hts hin1 hown hK hP 0 rfl rfl 3 (by decide) (hts (.fieldLink RX1 23 "CartelWatch$Tender" "winner" "I") (by decide +kernel)) (fun _ h9 => h9) rfl dX1_isNear_2 ?_
  refine pu_V (As := [.int win]) (rest := []) hc (c_X1_sumOf l D K q sa wa su go dec win par prt win) (cwV 1 hts gX1_isNear_X1_sumOf rfl rfl rfl (by decide +kernel) ⟨Nat.le_of_ble_eq_true rfl, Nat.le_of_ble_eq_true rfl⟩) hP hK hE (va_recv hK hP (ci := 1) (q0 := 0) rfl rfl) rfl rfl hl.1 (Nat.le_of_ble_eq_true rfl) dX1_isNear_5 ⟨Nat.le_of_ble_eq_true rfl, Nat.le_of_ble_eq_true rfl⟩ ?_
  refine lv_istore_n (lv' := [(2, .int (sp_X1_sumOf su win)), (0, .ref q), (1, .int p0)]) hx hb dX1_isNear_8 rfl hl (by decide) rfl (fun ls hl => ?_)
  refine lv_iload_n hx hb dX1_isNear_9 rfl (lv_at hl 2 rfl) ?_
  refine lv_iload_n hx hb dX1_isNear_10 rfl (lv_at hl 0 rfl) ?_
  refine lv_icmp_le (tgt := 30) hx hb dX1_isNear_11 (by decide) (fun c_11 => ?_) (fun c_11 => ?_)
  · skip
    refine lv_iconst (v := 0) hx hb dX1_isNear_30 (by decide) ?_
    exact pu_zret hx hb hr hlocks dX1_isNear_31 (bI_nar _) (bI_eq (a := false) (Eq.symm (Eq.trans (if_pos c_11) (rfl))))
  · skip
    refine lv_iload_n hx hb dX1_isNear_14 rfl (lv_at hl 2 rfl) ?_
    refine lv_iload_n hx hb dX1_isNear_15 rfl (lv_at hl 0 rfl) ?_
    refine lv_isub hx hb dX1_isNear_16 ?_
    refine lv_iload_n hx hb dX1_isNear_17 rfl (lv_at hl 0 rfl) ?_
    refine lv_iconst (v := 5) hx hb dX1_isNear_18 (by decide) ?_
    refine lv_imul hx hb dX1_isNear_19 ?_
    refine lv_bipush (v := 100) hx hb dX1_isNear_20 (by decide) ?_
    refine lv_idiv hx hb dX1_isNear_22 (by decide) ?_
    refine lv_icmp_gt (tgt := 30) hx hb dX1_isNear_23 (by decide) (fun c_23 => ?_) (fun c_23 => ?_)
    · skip
      refine lv_iconst (v := 0) hx hb dX1_isNear_30 (by decide) ?_
      exact pu_zret hx hb hr hlocks dX1_isNear_31 (bI_nar _) (bI_eq (a := false) (Eq.symm (Eq.trans (if_neg c_11) (Eq.trans (if_pos c_23) (rfl)))))
    · skip
      refine lv_iconst (v := 1) hx hb dX1_isNear_26 (by decide) ?_
      refine lv_goto (tgt := 31) hx hb dX1_isNear_27 (by decide) ?_
      exact pu_zret hx hb hr hlocks dX1_isNear_31 (bI_nar _) (bI_eq (a := true) (Eq.symm (Eq.trans (if_neg c_11) (Eq.trans (if_neg c_23) (rfl)))))

def sp_X1_incomeOf (su : Nat → Int32) (win : Int32) (par : Int32) (prt : Int32) (p0 : Int32) : Int32 := if p0 = win then ((sp_X1_sumOf su p0) - prt) else (if p0 = par then prt else 0)
set_option maxHeartbeats 4000000 in
set_option maxRecDepth 100000 in
theorem c_X1_incomeOf (l : Launch) (D : va_G) (K : Nat → ClassId) (q sa wa : Nat) (su go : Nat → Int32) (dec win par prt p0 : Int32) : PU l yX1_incomeOf wsX1_incomeOf 2 41 D K [.ref q, .int p0] (fun H => va_P D vwCl (tW K q sa wa su go dec win par prt) H) (.int (sp_X1_incomeOf su win par prt p0)) := by
  refine Met.ofW (cc := cX1_incomeOf) (maxL := 2) (ret := (some .int)) (by decide) rfl ?_
  intro p e s m args below meth c s₁ B hml hv
  obtain ⟨rfl, hP, hK, hE⟩ := hv
  have hx := B.exec
  have hb := B.bytes
  have hr := B.returns
  have hts := atoms_spec (ws := wsX1_incomeOf) B.pre
  have hown : s.vm.findClass RX1 = some m.cls := findClass_of_methodNamed B.named
  have hlocks := B.notSynchronized
  have hc : CallFix p m c cX1_incomeOf 2 s ([.ref q, .int p0] : List Value).toArray wsX1_incomeOf RX1 := ⟨hx, hb, hml, hown, hts⟩
  have hin1 : ∀ w ∈ u_ws RX1 TX1 6, w ∈ wsX1_incomeOf := by decide +kernel
  have hP : va_P D vwCl (tW K q sa wa su go dec win par prt) s.heap := hP
  have hl := lv_entry ([.ref q, .int p0]) (n := 2) (Nat.le_of_ble_eq_true rfl)
  rw [lg_entry_eq]
  generalize (lg_sl ([.ref q, .int p0]) ++ List.replicate (2 - (lg_sl ([.ref q, .int p0])).length) Slot.unset).toArray = ls at hl ⊢
  have hl : lv_has ls 2 [(0, .ref q), (1, .int p0)] := hl
  refine lv_iload_n hx hb dX1_incomeOf_0 rfl (lv_at hl 1 rfl) ?_
  refine lv_aload_n hx hb dX1_incomeOf_1 rfl (lv_at hl 0 rfl) ?_
  refine va_get (D := D) (ci := 1) (v := .int win) (C := RX1) (T := TX1) (N := 6) hx hb hts hin1 hown hK hP 0 rfl rfl 3 (by decide) (hts (.fieldLink RX1 23 "CartelWatch$Tender" "winner" "I") (by decide +kernel)) (fun _ h9 => h9) rfl dX1_incomeOf_2 ?_
  refine lv_icmp_ne (tgt := 19) hx hb dX1_incomeOf_5 (by decide) (fun c_5 => ?_) (fun c_5 => ?_)
  · skip
    refine lv_iload_n hx hb dX1_incomeOf_19 rfl (lv_at hl 1 rfl) ?_
    refine lv_aload_n hx hb dX1_incomeOf_20 rfl (lv_at hl 0 rfl) ?_
    refine va_get (D := D) (ci := 1) (v := .int par) (C := RX1) (T := TX1) (N := 6) hx hb hts hin1 hown hK hP 0 rfl rfl 4 (by decide) (hts (.fieldLink RX1 27 "CartelWatch$Tender" "partner" "I") (by decide +kernel)) (fun _ h9 => h9) rfl dX1_incomeOf_21 ?_
    refine lv_icmp_ne (tgt := 34) hx hb dX1_incomeOf_24 (by decide) (fun c_24 => ?_) (fun c_24 => ?_)
    · skip
      refine lv_iconst (v := 0) hx hb dX1_incomeOf_34 (by decide) ?_
      exact pu_iret hx hb hr hlocks dX1_incomeOf_35 (Eq.symm (Eq.trans (if_neg c_5) (Eq.trans (if_neg c_24) (rfl))))
    · skip
      refine lv_aload_n hx hb dX1_incomeOf_27 rfl (lv_at hl 0 rfl) ?_
      refine va_get (D := D) (ci := 1) (v := .int prt) (C := RX1) (T := TX1) (N := 6) hx hb hts hin1 hown hK hP 0 rfl rfl 5 (by decide) (hts (.fieldLink RX1 30 "CartelWatch$Tender" "partnersPart" "I") (by decide +kernel)) (fun _ h9 => h9) rfl dX1_incomeOf_28 ?_
      refine lv_goto (tgt := 35) hx hb dX1_incomeOf_31 (by decide) ?_
      exact pu_iret hx hb hr hlocks dX1_incomeOf_35 (Eq.symm (Eq.trans (if_neg c_5) (Eq.trans (if_pos c_24) (rfl))))
  · skip
    refine lv_aload_n hx hb dX1_incomeOf_8 rfl (lv_at hl 0 rfl) ?_
    refine lv_iload_n hx hb dX1_incomeOf_9 rfl (lv_at hl 1 rfl) ?_
    refine pu_V (As := [.int p0]) (rest := []) hc (c_X1_sumOf l D K q sa wa su go dec win par prt p0) (cwV 1 hts gX1_incomeOf_X1_sumOf rfl rfl rfl (by decide +kernel) ⟨Nat.le_of_ble_eq_true rfl, Nat.le_of_ble_eq_true rfl⟩) hP hK hE (va_recv hK hP (ci := 1) (q0 := 0) rfl rfl) rfl rfl hl.1 (Nat.le_of_ble_eq_true rfl) dX1_incomeOf_10 ⟨Nat.le_of_ble_eq_true rfl, Nat.le_of_ble_eq_true rfl⟩ ?_
    refine lv_aload_n hx hb dX1_incomeOf_13 rfl (lv_at hl 0 rfl) ?_
    refine va_get (D := D) (ci := 1) (v := .int prt) (C := RX1) (T := TX1) (N := 6) hx hb hts hin1 hown hK hP 0 rfl rfl 5 (by decide) (hts (.fieldLink RX1 30 "CartelWatch$Tender" "partnersPart" "I") (by decide +kernel)) (fun _ h9 => h9) rfl dX1_incomeOf_14 ?_
    refine lv_isub hx hb dX1_incomeOf_17 ?_
    exact pu_iret hx hb hr hlocks dX1_incomeOf_18 (Eq.symm (Eq.trans (if_pos c_5) (rfl)))

def sp_X1_signsOfLoser_j7l2 (su : Nat → Int32) (go : Nat → Int32) (win : Int32) (p0 : Int32) : Int32 := if sp_X1_isStanding su go p0 = true then (if sp_X1_isNear su win (sp_X1_sumOf su p0) = true then (0 + 2) else 0) else 0
def sp_X1_signsOfLoser_j30l2 (su : Nat → Int32) (go : Nat → Int32) (win : Int32) (par : Int32) (p0 : Int32) : Int32 := if par = p0 then (if sp_X1_hasBidOf su p0 = true then ((sp_X1_signsOfLoser_j7l2 su go win p0) + 3) else (sp_X1_signsOfLoser_j7l2 su go win p0)) else (sp_X1_signsOfLoser_j7l2 su go win p0)
def sp_X1_signsOfLoser_j49l2 (su : Nat → Int32) (go : Nat → Int32) (win : Int32) (par : Int32) (p0 : Int32) : Int32 := if sp_X1_hasWithdrawn go p0 = true then ((sp_X1_signsOfLoser_j30l2 su go win par p0) + 1) else (sp_X1_signsOfLoser_j30l2 su go win par p0)
def sp_X1_signsOfLoser (su : Nat → Int32) (go : Nat → Int32) (win : Int32) (par : Int32) (p0 : Int32) : Int32 := sp_X1_signsOfLoser_j49l2 su go win par p0
set_option maxHeartbeats 4000000 in
set_option maxRecDepth 100000 in
theorem c_X1_signsOfLoser (l : Launch) (D : va_G) (K : Nat → ClassId) (q sa wa : Nat) (su go : Nat → Int32) (dec win par prt p0 : Int32) : PU l yX1_signsOfLoser wsX1_signsOfLoser 3 63 D K [.ref q, .int p0] (fun H => va_P D vwCl (tW K q sa wa su go dec win par prt) H) (.int (sp_X1_signsOfLoser su go win par p0)) := by
  refine Met.ofW (cc := cX1_signsOfLoser) (maxL := 3) (ret := (some .int)) (by decide) rfl ?_
  intro p e s m args below meth c s₁ B hml hv
  obtain ⟨rfl, hP, hK, hE⟩ := hv
  have hx := B.exec
  have hb := B.bytes
  have hr := B.returns
  have hts := atoms_spec (ws := wsX1_signsOfLoser) B.pre
  have hown : s.vm.findClass RX1 = some m.cls := findClass_of_methodNamed B.named
  have hlocks := B.notSynchronized
  have hc : CallFix p m c cX1_signsOfLoser 3 s ([.ref q, .int p0] : List Value).toArray wsX1_signsOfLoser RX1 := ⟨hx, hb, hml, hown, hts⟩
  have hin1 : ∀ w ∈ u_ws RX1 TX1 6, w ∈ wsX1_signsOfLoser := by decide +kernel
  have hP : va_P D vwCl (tW K q sa wa su go dec win par prt) s.heap := hP
  have hl := lv_entry ([.ref q, .int p0]) (n := 3) (Nat.le_of_ble_eq_true rfl)
  rw [lg_entry_eq]
  generalize (lg_sl ([.ref q, .int p0]) ++ List.replicate (3 - (lg_sl ([.ref q, .int p0])).length) Slot.unset).toArray = ls at hl ⊢
  have hl : lv_has ls 3 [(0, .ref q), (1, .int p0)] := hl
  refine lv_iconst (v := 0) hx hb dX1_signsOfLoser_0 (by decide) ?_
  refine lv_istore_n (lv' := [(2, .int 0), (0, .ref q), (1, .int p0)]) hx hb dX1_signsOfLoser_1 rfl hl (by decide) rfl (fun ls hl => ?_)
  refine lv_aload_n hx hb dX1_signsOfLoser_2 rfl (lv_at hl 1 rfl) ?_
  refine lv_iload_n hx hb dX1_signsOfLoser_3 rfl (lv_at hl 2 rfl) ?_
  refine pu_V (As := [.int p0]) (rest := []) hc (c_X1_isStanding l D K q sa wa su go dec win par prt p0) (cwV 1 hts gX1_signsOfLoser_X1_isStanding rfl rfl rfl (by decide +kernel) ⟨Nat.le_of_ble_eq_true rfl, Nat.le_of_ble_eq_true rfl⟩) hP hK hE (va_recv hK hP (ci := 1) (q0 := 0) rfl rfl) rfl rfl hl.1 (Nat.le_of_ble_eq_true rfl) dX1_signsOfLoser_4 ⟨Nat.le_of_ble_eq_true rfl, Nat.le_of_ble_eq_true rfl⟩ ?_
  have hj_7 : ∀ (v7_0 : Int32) (ls : Array Slot), v7_0 = sp_X1_signsOfLoser_j7l2 su go win p0 → lv_has ls 3 [(0, .ref q), (1, .int p0), (2, .int v7_0)] → W p l e ({ frames := 3, cells := 0, slots := 0, locals := 63 } : Room) s m ([.ref q, .int p0] : List Value).toArray below meth c s.heap [] 0 0 (MQ below (QcV (.int (sp_X1_signsOfLoser su go win par p0))) ([.ref q, .int p0] : List Value).toArray s 0 0 (fun _ => False)) (F0 m 25 ls []) := by
    intro v7_0 ls ev7_0 hl
    subst ev7_0
    refine lv_aload_n hx hb dX1_signsOfLoser_25 rfl (lv_at hl 0 rfl) ?_
    refine va_get (D := D) (ci := 1) (v := .int par) (C := RX1) (T := TX1) (N := 6) hx hb hts hin1 hown hK hP 0 rfl rfl 4 (by decide) (hts (.fieldLink RX1 27 "CartelWatch$Tender" "partner" "I") (by decide +kernel)) (fun _ h9 => h9) rfl dX1_signsOfLoser_26 ?_
    refine lv_iload_n hx hb dX1_signsOfLoser_29 rfl (lv_at hl 1 rfl) ?_
    have hj_30 : ∀ (v30_0 : Int32) (ls : Array Slot), v30_0 = sp_X1_signsOfLoser_j30l2 su go win par p0 → lv_has ls 3 [(0, .ref q), (1, .int p0), (2, .int v30_0)] → W p l e ({ frames := 3, cells := 0, slots := 0, locals := 63 } : Room) s m ([.ref q, .int p0] : List Value).toArray below meth c s.heap [] 0 0 (MQ below (QcV (.int (sp_X1_signsOfLoser su go win par p0))) ([.ref q, .int p0] : List Value).toArray s 0 0 (fun _ => False)) (F0 m 44 ls []) := by
      intro v30_0 ls ev30_0 hl
      subst ev30_0
      refine lv_aload_n hx hb dX1_signsOfLoser_44 rfl (lv_at hl 0 rfl) ?_
      refine lv_iload_n hx hb dX1_signsOfLoser_45 rfl (lv_at hl 1 rfl) ?_
      refine pu_V (As := [.int p0]) (rest := []) hc (c_X1_hasWithdrawn l D K q sa wa su go dec win par prt p0) (cwV 1 hts gX1_signsOfLoser_X1_hasWithdrawn rfl rfl rfl (by decide +kernel) ⟨Nat.le_of_ble_eq_true rfl, Nat.le_of_ble_eq_true rfl⟩) hP hK hE (va_recv hK hP (ci := 1) (q0 := 0) rfl rfl) rfl rfl hl.1 (Nat.le_of_ble_eq_true rfl) dX1_signsOfLoser_46 ⟨Nat.le_of_ble_eq_true rfl, Nat.le_of_ble_eq_true rfl⟩ ?_
      have hj_49 : ∀ (v49_0 : Int32) (ls : Array Slot), v49_0 = sp_X1_signsOfLoser_j49l2 su go win par p0 → lv_has ls 3 [(0, .ref q), (1, .int p0), (2, .int v49_0)] → W p l e ({ frames := 3, cells := 0, slots := 0, locals := 63 } : Room) s m ([.ref q, .int p0] : List Value).toArray below meth c s.heap [] 0 0 (MQ below (QcV (.int (sp_X1_signsOfLoser su go win par p0))) ([.ref q, .int p0] : List Value).toArray s 0 0 (fun _ => False)) (F0 m 55 ls []) := by
        intro v49_0 ls ev49_0 hl
        subst ev49_0
        refine lv_iload_n hx hb dX1_signsOfLoser_55 rfl (lv_at hl 2 rfl) ?_
        exact pu_iret hx hb hr hlocks dX1_signsOfLoser_56 (Eq.symm (rfl))
      refine lb_eq (tgt := 55) hx hb dX1_signsOfLoser_49 (by decide) (fun c_49 => ?_) (fun c_49 => ?_)
      · skip
        exact hj_49 _ ls (Eq.symm (Eq.trans (if_neg (ntr c_49)) (rfl))) (lv_sub hl [0, 1, 2] rfl)
      · skip
        refine lv_iinc (v := (sp_X1_signsOfLoser_j30l2 su go win par p0) + 1) (lv' := [(2, .int ((sp_X1_signsOfLoser_j30l2 su go win par p0) + 1)), (0, .ref q), (1, .int p0)]) hx hb dX1_signsOfLoser_52 hl (k := 2) rfl (rfl) (by decide) rfl (fun ls hl => ?_)
        exact hj_49 _ ls (Eq.symm (Eq.trans (if_pos c_49) (rfl))) (lv_sub hl [1, 2, 0] rfl)
    refine lv_icmp_ne (tgt := 44) hx hb dX1_signsOfLoser_30 (by decide) (fun c_30 => ?_) (fun c_30 => ?_)
    · skip
      exact hj_30 _ ls (Eq.symm (Eq.trans (if_neg c_30) (rfl))) (lv_sub hl [0, 1, 2] rfl)
    · skip
      refine lv_aload_n hx hb dX1_signsOfLoser_33 rfl (lv_at hl 0 rfl) ?_
      refine lv_iload_n hx hb dX1_signsOfLoser_34 rfl (lv_at hl 1 rfl) ?_
      refine pu_V (As := [.int p0]) (rest := []) hc (c_X1_hasBidOf l D K q sa wa su go dec win par prt p0) (cwV 1 hts gX1_signsOfLoser_X1_hasBidOf rfl rfl rfl (by decide +kernel) ⟨Nat.le_of_ble_eq_true rfl, Nat.le_of_ble_eq_true rfl⟩) hP hK hE (va_recv hK hP (ci := 1) (q0 := 0) rfl rfl) rfl rfl hl.1 (Nat.le_of_ble_eq_true rfl) dX1_signsOfLoser_35 ⟨Nat.le_of_ble_eq_true rfl, Nat.le_of_ble_eq_true rfl⟩ ?_
      refine lb_eq (tgt := 44) hx hb dX1_signsOfLoser_38 (by decide) (fun c_38 => ?_) (fun c_38 => ?_)
      · skip
        exact hj_30 _ ls (Eq.symm (Eq.trans (if_pos c_30) (Eq.trans (if_neg (ntr c_38)) (rfl)))) (lv_sub hl [0, 1, 2] rfl)
      · skip
        refine lv_iinc (v := (sp_X1_signsOfLoser_j7l2 su go win p0) + 3) (lv' := [(2, .int ((sp_X1_signsOfLoser_j7l2 su go win p0) + 3)), (0, .ref q), (1, .int p0)]) hx hb dX1_signsOfLoser_41 hl (k := 2) rfl (rfl) (by decide) rfl (fun ls hl => ?_)
        exact hj_30 _ ls (Eq.symm (Eq.trans (if_pos c_30) (Eq.trans (if_pos c_38) (rfl)))) (lv_sub hl [1, 2, 0] rfl)
  refine lb_eq (tgt := 25) hx hb dX1_signsOfLoser_7 (by decide) (fun c_7 => ?_) (fun c_7 => ?_)
  · skip
    exact hj_7 _ ls (Eq.symm (Eq.trans (if_neg (ntr c_7)) (rfl))) (lv_sub hl [1, 2, 0] rfl)
  · skip
    refine lv_aload_n hx hb dX1_signsOfLoser_10 rfl (lv_at hl 1 rfl) ?_
    refine lv_aload_n hx hb dX1_signsOfLoser_11 rfl (lv_at hl 1 rfl) ?_
    refine lv_iload_n hx hb dX1_signsOfLoser_12 rfl (lv_at hl 2 rfl) ?_
    refine pu_V (As := [.int p0]) (rest := [.ref q]) hc (c_X1_sumOf l D K q sa wa su go dec win par prt p0) (cwV 1 hts gX1_signsOfLoser_X1_sumOf rfl rfl rfl (by decide +kernel) ⟨Nat.le_of_ble_eq_true rfl, Nat.le_of_ble_eq_true rfl⟩) hP hK hE (va_recv hK hP (ci := 1) (q0 := 0) rfl rfl) rfl rfl hl.1 (Nat.le_of_ble_eq_true rfl) dX1_signsOfLoser_13 ⟨Nat.le_of_ble_eq_true rfl, Nat.le_of_ble_eq_true rfl⟩ ?_
    refine pu_V (As := [.int (sp_X1_sumOf su p0)]) (rest := []) hc (c_X1_isNear l D K q sa wa su go dec win par prt (sp_X1_sumOf su p0)) (cwV 1 hts gX1_signsOfLoser_X1_isNear rfl rfl rfl (by decide +kernel) ⟨Nat.le_of_ble_eq_true rfl, Nat.le_of_ble_eq_true rfl⟩) hP hK hE (va_recv hK hP (ci := 1) (q0 := 0) rfl rfl) rfl rfl hl.1 (Nat.le_of_ble_eq_true rfl) dX1_signsOfLoser_16 ⟨Nat.le_of_ble_eq_true rfl, Nat.le_of_ble_eq_true rfl⟩ ?_
    refine lb_eq (tgt := 25) hx hb dX1_signsOfLoser_19 (by decide) (fun c_19 => ?_) (fun c_19 => ?_)
    · skip
      exact hj_7 _ ls (Eq.symm (Eq.trans (if_pos c_7) (Eq.trans (if_neg (ntr c_19)) (rfl)))) (lv_sub hl [1, 2, 0] rfl)
    · skip
      refine lv_iinc (v := 0 + 2) (lv' := [(2, .int (0 + 2)), (0, .ref q), (1, .int p0)]) hx hb dX1_signsOfLoser_22 hl (k := 0) rfl (rfl) (by decide) rfl (fun ls hl => ?_)
      exact hj_7 _ ls (Eq.symm (Eq.trans (if_pos c_7) (Eq.trans (if_pos c_19) (rfl)))) (lv_sub hl [1, 2, 0] rfl)

theorem lp_end {x : Int32} {k N : Nat} (hx : x = nI N) (c : x ≤ nI k) (hk : k ≤ N) (hN : N < 2 ^ 31) : k = N := by
  rw [hx] at c
  have := (nI_leI hN (Nat.lt_of_le_of_lt hk hN)).mp c
  omega
theorem lp_in {x : Int32} {k N : Nat} (hx : x = nI N) (c : ¬ x ≤ nI k) (hk : k ≤ N) (hN : N < 2 ^ 31) : k < N := by
  rw [hx] at c
  rcases Nat.lt_or_ge k N with h | h
  · exact h
  · exact absurd ((nI_leI hN (Nat.lt_of_le_of_lt hk hN)).mpr h) c

def sp_X1_countStanding_L4 (su : Nat → Int32) (go : Nat → Int32) : Nat → Int32
  | 0 => 0
  | k + 1 => if sp_X1_isStanding su go (nI k) = true then ((sp_X1_countStanding_L4 su go k) + 1) else (sp_X1_countStanding_L4 su go k)
def sp_X1_countStanding (su : Nat → Int32) (go : Nat → Int32) : Int32 := sp_X1_countStanding_L4 su go 7
set_option maxHeartbeats 4000000 in
set_option maxRecDepth 100000 in
theorem c_X1_countStanding (l : Launch) (D : va_G) (K : Nat → ClassId) (q sa wa : Nat) (su go : Nat → Int32) (dec win par prt : Int32) : PU l yX1_countStanding wsX1_countStanding 2 41 D K [.ref q] (fun H => va_P D vwCl (tW K q sa wa su go dec win par prt) H) (.int (sp_X1_countStanding su go)) := by
  refine Met.ofW (cc := cX1_countStanding) (maxL := 3) (ret := (some .int)) (by decide) rfl ?_
  intro p e s m args below meth c s₁ B hml hv
  obtain ⟨rfl, hP, hK, hE⟩ := hv
  have hx := B.exec
  have hb := B.bytes
  have hr := B.returns
  have hts := atoms_spec (ws := wsX1_countStanding) B.pre
  have hown : s.vm.findClass RX1 = some m.cls := findClass_of_methodNamed B.named
  have hlocks := B.notSynchronized
  have hc : CallFix p m c cX1_countStanding 3 s ([.ref q] : List Value).toArray wsX1_countStanding RX1 := ⟨hx, hb, hml, hown, hts⟩
  have hP : va_P D vwCl (tW K q sa wa su go dec win par prt) s.heap := hP
  have hl := lv_entry ([.ref q]) (n := 3) (Nat.le_of_ble_eq_true rfl)
  rw [lg_entry_eq]
  generalize (lg_sl ([.ref q]) ++ List.replicate (3 - (lg_sl ([.ref q])).length) Slot.unset).toArray = ls at hl ⊢
  have hl : lv_has ls 3 [(0, .ref q)] := hl
  refine lv_iconst (v := 0) hx hb dX1_countStanding_0 (by decide) ?_
  refine lv_istore_n (lv' := [(1, .int 0), (0, .ref q)]) hx hb dX1_countStanding_1 rfl hl (by decide) rfl (fun ls hl => ?_)
  refine lv_iconst (v := 0) hx hb dX1_countStanding_2 (by decide) ?_
  refine lv_istore_n (lv' := [(2, .int 0), (1, .int 0), (0, .ref q)]) hx hb dX1_countStanding_3 rfl hl (by decide) rfl (fun ls hl => ?_)
  have hloop_4 : ∀ (n4 k : Nat), k ≤ 7 → 7 + 1 ≤ k + n4 → ∀ (a4_1 x4 : Int32) (ls : Array Slot), a4_1 = sp_X1_countStanding_L4 su go k → x4 = nI k → lv_has ls 3 [(0, .ref q), (1, .int a4_1), (2, .int x4)] → W p l e ({ frames := 2, cells := 0, slots := 0, locals := 41 } : Room) s m ([.ref q] : List Value).toArray below meth c s.heap [] 0 0 (MQ below (QcV (.int (sp_X1_countStanding su go))) ([.ref q] : List Value).toArray s 0 0 (fun _ => False)) (F0 m 4 ls []) := by
    intro n4
    induction n4 with
    | zero => intro k h1 h2; exact absurd h2 (by omega)
    | succ n4 ih_4 =>
      intro k hk_4 hn_4 a4_1 x4 ls ea4_1 ex4 hl
      subst ea4_1
      subst ex4
      refine lv_iload_n hx hb dX1_countStanding_4 rfl (lv_at hl 2 rfl) ?_
      refine lv_bipush (v := 7) hx hb dX1_countStanding_5 (by decide) ?_
      refine lv_icmp_ge (tgt := 27) hx hb dX1_countStanding_7 (by decide) (fun c_7 => ?_) (fun c_7 => ?_)
      · skip
        have hke_4 : k = 7 := lp_end rfl c_7 hk_4 (by decide)
        subst hke_4
        refine lv_iload_n hx hb dX1_countStanding_27 rfl (lv_at hl 1 rfl) ?_
        exact pu_iret hx hb hr hlocks dX1_countStanding_28 (Eq.symm (rfl))
      · skip
        have hlt_4 : k < 7 := lp_in rfl c_7 hk_4 (by decide)
        refine lv_aload_n hx hb dX1_countStanding_10 rfl (lv_at hl 0 rfl) ?_
        refine lv_iload_n hx hb dX1_countStanding_11 rfl (lv_at hl 2 rfl) ?_
        refine pu_V (As := [.int (nI k)]) (rest := []) hc (c_X1_isStanding l D K q sa wa su go dec win par prt (nI k)) (cwV 1 hts gX1_countStanding_X1_isStanding rfl rfl rfl (by decide +kernel) ⟨Nat.le_of_ble_eq_true rfl, Nat.le_of_ble_eq_true rfl⟩) hP hK hE (va_recv hK hP (ci := 1) (q0 := 0) rfl rfl) rfl rfl hl.1 (Nat.le_of_ble_eq_true rfl) dX1_countStanding_12 ⟨Nat.le_of_ble_eq_true rfl, Nat.le_of_ble_eq_true rfl⟩ ?_
        refine lb_eq (tgt := 21) hx hb dX1_countStanding_15 (by decide) (fun c_15 => ?_) (fun c_15 => ?_)
        · skip
          refine lv_iinc (v := (nI k) + 1) (lv' := [(2, .int ((nI k) + 1)), (0, .ref q), (1, .int (sp_X1_countStanding_L4 su go k))]) hx hb dX1_countStanding_21 hl (k := 2) rfl (rfl) (by decide) rfl (fun ls hl => ?_)
          refine lv_goto (tgt := 4) hx hb dX1_countStanding_24 (by decide) ?_
          exact ih_4 (k + 1) hlt_4 (by omega) _ _ ls (Eq.symm (Eq.trans (if_neg (ntr c_15)) (rfl))) (nI_1 k) (lv_sub hl [1, 2, 0] rfl)
        · skip
          refine lv_iinc (v := (sp_X1_countStanding_L4 su go k) + 1) (lv' := [(1, .int ((sp_X1_countStanding_L4 su go k) + 1)), (0, .ref q), (2, .int (nI k))]) hx hb dX1_countStanding_18 hl (k := 1) rfl (rfl) (by decide) rfl (fun ls hl => ?_)
          refine lv_iinc (v := (nI k) + 1) (lv' := [(2, .int ((nI k) + 1)), (1, .int ((sp_X1_countStanding_L4 su go k) + 1)), (0, .ref q)]) hx hb dX1_countStanding_21 hl (k := 2) rfl (rfl) (by decide) rfl (fun ls hl => ?_)
          refine lv_goto (tgt := 4) hx hb dX1_countStanding_24 (by decide) ?_
          exact ih_4 (k + 1) hlt_4 (by omega) _ _ ls (Eq.symm (Eq.trans (if_pos c_15) (rfl))) (nI_1 k) (lv_sub hl [2, 1, 0] rfl)
  exact hloop_4 (7 + 1) 0 (Nat.zero_le _) (by omega) _ _ ls rfl nI_0.symm (lv_sub hl [2, 1, 0] rfl)
end
section
set_option maxHeartbeats 4000000 in
set_option maxRecDepth 100000 in
theorem c_X1_takeBid (l : Launch) (D : va_G) (K : Nat → ClassId) (sz : Nat) (q sa wa : Nat) (su go : Nat → Int32) (dec win par prt p0 p1 : Int32) (hb7 : sp_X2_isBidder p0 = true) : EFv l yX1_takeBid wsX1_takeBid 1 20 D K [.ref q, .int p0, .int p1] sz (tW K q sa wa su go dec win par prt) (tW K q sa wa (upd su p0.toNatClampNeg p1) go dec win par prt) := by
  refine Met.ofW (cc := cX1_takeBid) (maxL := 3) (ret := none) (by decide) rfl ?_
  intro p e s m args below meth c s₁ B hml hv
  obtain ⟨rfl, hsz, hD0, hP, hK, hE⟩ := hv
  have hx := B.exec
  have hb := B.bytes
  have hr := B.returns
  have hts := atoms_spec (ws := wsX1_takeBid) B.pre
  have hown : s.vm.findClass RX1 = some m.cls := findClass_of_methodNamed B.named
  have hlocks := B.notSynchronized
  have hc : CallFix p m c cX1_takeBid 3 s ([.ref q, .int p0, .int p1] : List Value).toArray wsX1_takeBid RX1 := ⟨hx, hb, hml, hown, hts⟩
  subst hsz
  have hD := hD0.self (sz := s.heap.size)
  generalize hAe : va_A (tW K q sa wa su go dec win par prt) s.heap.size = A at hD ⊢
  have hA : ∀ q : Nat, s.heap.size ≤ q → A q := fun q h => by rw [← hAe]; exact Or.inr h
  have hS : va_S A s.heap s.heap [] := va_S.rf
  have hP : va_P D vwCl (tW K q sa wa su go dec win par prt) s.heap := hP
  have hin1 : ∀ w ∈ u_ws RX1 TX1 6, w ∈ wsX1_takeBid := by decide +kernel
  have hl := lv_entry ([.ref q, .int p0, .int p1]) (n := 3) (Nat.le_of_ble_eq_true rfl)
  rw [lg_entry_eq]
  generalize (lg_sl ([.ref q, .int p0, .int p1]) ++ List.replicate (3 - (lg_sl ([.ref q, .int p0, .int p1])).length) Slot.unset).toArray = ls at hl ⊢
  have hl : lv_has ls 3 [(0, .ref q), (1, .int p0), (2, .int p1)] := hl
  refine lv_iload_n hx hb dX1_takeBid_0 rfl (lv_at hl 1 rfl) ?_
  refine pu_SN (As := [.int p0]) (rest := []) hc (c_X2_isBidder l D K p0) ⟨va_cnB (own := RX1) (index := 33) (host := RX2) 1 hts gX1_takeBid_X2_isBidder_n33 rfl rfl rfl hE.1 (hts (.initialized RX2) (by decide +kernel)) (by decide +kernel) ⟨Nat.le_of_ble_eq_true rfl, Nat.le_of_ble_eq_true rfl⟩, (hts (.static yX2_isBidder) (by decide +kernel)), trivial⟩ trivial hK hE rfl rfl hl.1 (Nat.le_of_ble_eq_true rfl) dX1_takeBid_1 ⟨Nat.le_of_ble_eq_true rfl, Nat.le_of_ble_eq_true rfl⟩ ?_
  refine lb_eq (tgt := 14) hx hb dX1_takeBid_4 (by decide) (fun c_4 => ?_) (fun c_4 => ?_)
  · skip
    exact absurd hb7 (ntr c_4)
  · skip
    refine lv_aload_n hx hb dX1_takeBid_7 rfl (lv_at hl 0 rfl) ?_
    refine va_get (D := D) (ci := 1) (v := .ref sa) (C := RX1) (T := TX1) (N := 6) hx hb hts hin1 hown hK hP 0 rfl rfl 0 (by decide) (hts (.fieldLink RX1 9 "CartelWatch$Tender" "sums" "[I") (by decide +kernel)) (fun _ h9 => h9) rfl dX1_takeBid_8 ?_
    refine lv_iload_n hx hb dX1_takeBid_11 rfl (lv_at hl 1 rfl) ?_
    refine lv_iload_n hx hb dX1_takeBid_12 rfl (lv_at hl 2 rfl) ?_
    refine va_iast hx hb hK hP hD hS 1 0 (cA := K 0) rfl rfl (in7 hb7) dX1_takeBid_13 (fun H locs hP hD hS => ?_)
    have hP : va_P D vwCl [(q, .inr (1, [.ref sa, .ref wa, .int dec, .int win, .int par, .int prt])), (sa, .inl (K 0, 7, .inl (upd su p0.toNatClampNeg p1))), (wa, .inl (K 1, 7, .inl go))] H := hP
    have hD : va_D A [(q, .inr (1, [.ref sa, .ref wa, .int dec, .int win, .int par, .int prt])), (sa, .inl (K 0, 7, .inl (upd su p0.toNatClampNeg p1))), (wa, .inl (K 1, 7, .inl go))] := hD
    have hPe : va_P D vwCl [(q, .inr (1, [.ref sa, .ref wa, .int dec, .int win, .int par, .int prt])), (sa, .inl (K 0, 7, .inl (upd su p0.toNatClampNeg p1))), (wa, .inl (K 1, 7, .inl go))] H := hP
    have hDe : va_D A [(q, .inr (1, [.ref sa, .ref wa, .int dec, .int win, .int par, .int prt])), (sa, .inl (K 0, 7, .inl (upd su p0.toNatClampNeg p1))), (wa, .inl (K 1, 7, .inl go))] := hD
    exact W.vret hx hb hr (fun t ht hW => ⟨⟨(), rfl, trivial, by dsimp only; rw [ht]; exact ⟨hPe, hDe⟩⟩, hS.F ht⟩) hS.2.2 dX1_takeBid_14

set_option maxHeartbeats 4000000 in
set_option maxRecDepth 100000 in
theorem c_X1_giveBack (l : Launch) (D : va_G) (K : Nat → ClassId) (sz : Nat) (q sa wa : Nat) (su go : Nat → Int32) (dec win par prt p0 : Int32) (hb7 : sp_X2_isBidder p0 = true) : EFv l yX1_giveBack wsX1_giveBack 1 20 D K [.ref q, .int p0] sz (tW K q sa wa su go dec win par prt) (tW K q sa wa su (upd go p0.toNatClampNeg 1) dec win par prt) := by
  refine Met.ofW (cc := cX1_giveBack) (maxL := 2) (ret := none) (by decide) rfl ?_
  intro p e s m args below meth c s₁ B hml hv
  obtain ⟨rfl, hsz, hD0, hP, hK, hE⟩ := hv
  have hx := B.exec
  have hb := B.bytes
  have hr := B.returns
  have hts := atoms_spec (ws := wsX1_giveBack) B.pre
  have hown : s.vm.findClass RX1 = some m.cls := findClass_of_methodNamed B.named
  have hlocks := B.notSynchronized
  have hc : CallFix p m c cX1_giveBack 2 s ([.ref q, .int p0] : List Value).toArray wsX1_giveBack RX1 := ⟨hx, hb, hml, hown, hts⟩
  subst hsz
  have hD := hD0.self (sz := s.heap.size)
  generalize hAe : va_A (tW K q sa wa su go dec win par prt) s.heap.size = A at hD ⊢
  have hA : ∀ q : Nat, s.heap.size ≤ q → A q := fun q h => by rw [← hAe]; exact Or.inr h
  have hS : va_S A s.heap s.heap [] := va_S.rf
  have hP : va_P D vwCl (tW K q sa wa su go dec win par prt) s.heap := hP
  have hin1 : ∀ w ∈ u_ws RX1 TX1 6, w ∈ wsX1_giveBack := by decide +kernel
  have hl := lv_entry ([.ref q, .int p0]) (n := 2) (Nat.le_of_ble_eq_true rfl)
  rw [lg_entry_eq]
  generalize (lg_sl ([.ref q, .int p0]) ++ List.replicate (2 - (lg_sl ([.ref q, .int p0])).length) Slot.unset).toArray = ls at hl ⊢
  have hl : lv_has ls 2 [(0, .ref q), (1, .int p0)] := hl
  refine lv_iload_n hx hb dX1_giveBack_0 rfl (lv_at hl 1 rfl) ?_
  refine pu_SN (As := [.int p0]) (rest := []) hc (c_X2_isBidder l D K p0) ⟨va_cnB (own := RX1) (index := 33) (host := RX2) 1 hts gX1_giveBack_X2_isBidder_n33 rfl rfl rfl hE.1 (hts (.initialized RX2) (by decide +kernel)) (by decide +kernel) ⟨Nat.le_of_ble_eq_true rfl, Nat.le_of_ble_eq_true rfl⟩, (hts (.static yX2_isBidder) (by decide +kernel)), trivial⟩ trivial hK hE rfl rfl hl.1 (Nat.le_of_ble_eq_true rfl) dX1_giveBack_1 ⟨Nat.le_of_ble_eq_true rfl, Nat.le_of_ble_eq_true rfl⟩ ?_
  refine lb_eq (tgt := 14) hx hb dX1_giveBack_4 (by decide) (fun c_4 => ?_) (fun c_4 => ?_)
  · skip
    exact absurd hb7 (ntr c_4)
  · skip
    refine lv_aload_n hx hb dX1_giveBack_7 rfl (lv_at hl 0 rfl) ?_
    refine va_get (D := D) (ci := 1) (v := .ref wa) (C := RX1) (T := TX1) (N := 6) hx hb hts hin1 hown hK hP 0 rfl rfl 1 (by decide) (hts (.fieldLink RX1 15 "CartelWatch$Tender" "withdrawn" "[Z") (by decide +kernel)) (fun _ h9 => h9) rfl dX1_giveBack_8 ?_
    refine lv_iload_n hx hb dX1_giveBack_11 rfl (lv_at hl 1 rfl) ?_
    refine lv_iconst (v := 1) hx hb dX1_giveBack_12 (by decide) ?_
    refine va_zast hx hb hK hP hD hS 2 1 (cA := K 1) rfl rfl (in7 hb7) dX1_giveBack_13 (fun H locs hP hD hS => ?_)
    have hP : va_P D vwCl [(q, .inr (1, [.ref sa, .ref wa, .int dec, .int win, .int par, .int prt])), (sa, .inl (K 0, 7, .inl su)), (wa, .inl (K 1, 7, .inl (upd go p0.toNatClampNeg 1)))] H := hP
    have hD : va_D A [(q, .inr (1, [.ref sa, .ref wa, .int dec, .int win, .int par, .int prt])), (sa, .inl (K 0, 7, .inl su)), (wa, .inl (K 1, 7, .inl (upd go p0.toNatClampNeg 1)))] := hD
    have hPe : va_P D vwCl [(q, .inr (1, [.ref sa, .ref wa, .int dec, .int win, .int par, .int prt])), (sa, .inl (K 0, 7, .inl su)), (wa, .inl (K 1, 7, .inl (upd go p0.toNatClampNeg 1)))] H := hP
    have hDe : va_D A [(q, .inr (1, [.ref sa, .ref wa, .int dec, .int win, .int par, .int prt])), (sa, .inl (K 0, 7, .inl su)), (wa, .inl (K 1, 7, .inl (upd go p0.toNatClampNeg 1)))] := hD
    exact W.vret hx hb hr (fun t ht hW => ⟨⟨(), rfl, trivial, by dsimp only; rw [ht]; exact ⟨hPe, hDe⟩⟩, hS.F ht⟩) hS.2.2 dX1_giveBack_14

def sp_X1_decide_L4 (su : Nat → Int32) (go : Nat → Int32) : Nat → Int32
  | 0 => (-1)
  | k + 1 => if sp_X1_isStanding su go (nI k) = true then (if (sp_X1_decide_L4 su go k) = (-1) then (nI k) else (if (sp_X1_sumOf su (sp_X1_decide_L4 su go k)) ≤ (sp_X1_sumOf su (nI k)) then (sp_X1_decide_L4 su go k) else (nI k))) else (sp_X1_decide_L4 su go k)
set_option maxHeartbeats 4000000 in
set_option maxRecDepth 100000 in
theorem c_X1_decide (l : Launch) (D : va_G) (K : Nat → ClassId) (sz : Nat) (q sa wa : Nat) (su go : Nat → Int32) (dec win par prt : Int32) : EFv l yX1_decide wsX1_decide 2 41 D K [.ref q] sz (tW K q sa wa su go dec win par prt) (tW K q sa wa su go 1 (sp_X1_decide_L4 su go 7) par prt) := by
  refine Met.ofW (cc := cX1_decide) (maxL := 3) (ret := none) (by decide) rfl ?_
  intro p e s m args below meth c s₁ B hml hv
  obtain ⟨rfl, hsz, hD0, hP, hK, hE⟩ := hv
  have hx := B.exec
  have hb := B.bytes
  have hr := B.returns
  have hts := atoms_spec (ws := wsX1_decide) B.pre
  have hown : s.vm.findClass RX1 = some m.cls := findClass_of_methodNamed B.named
  have hlocks := B.notSynchronized
  have hc : CallFix p m c cX1_decide 3 s ([.ref q] : List Value).toArray wsX1_decide RX1 := ⟨hx, hb, hml, hown, hts⟩
  subst hsz
  have hD := hD0.self (sz := s.heap.size)
  generalize hAe : va_A (tW K q sa wa su go dec win par prt) s.heap.size = A at hD ⊢
  have hA : ∀ q : Nat, s.heap.size ≤ q → A q := fun q h => by rw [← hAe]; exact Or.inr h
  have hS : va_S A s.heap s.heap [] := va_S.rf
  have hP : va_P D vwCl (tW K q sa wa su go dec win par prt) s.heap := hP
  have hin1 : ∀ w ∈ u_ws RX1 TX1 6, w ∈ wsX1_decide := by decide +kernel
  have hl := lv_entry ([.ref q]) (n := 3) (Nat.le_of_ble_eq_true rfl)
  rw [lg_entry_eq]
  generalize (lg_sl ([.ref q]) ++ List.replicate (3 - (lg_sl ([.ref q])).length) Slot.unset).toArray = ls at hl ⊢
  have hl : lv_has ls 3 [(0, .ref q)] := hl
  refine lv_iconst (v := -1) hx hb dX1_decide_0 (by decide) ?_
  refine lv_istore_n (lv' := [(1, .int (-1)), (0, .ref q)]) hx hb dX1_decide_1 rfl hl (by decide) rfl (fun ls hl => ?_)
  refine lv_iconst (v := 0) hx hb dX1_decide_2 (by decide) ?_
  refine lv_istore_n (lv' := [(2, .int 0), (1, .int (-1)), (0, .ref q)]) hx hb dX1_decide_3 rfl hl (by decide) rfl (fun ls hl => ?_)
  have hloop_4 : ∀ (n4 k : Nat), k ≤ 7 → 7 + 1 ≤ k + n4 → ∀ (a4_1 x4 : Int32) (ls : Array Slot), a4_1 = sp_X1_decide_L4 su go k → x4 = nI k → lv_has ls 3 [(0, .ref q), (1, .int a4_1), (2, .int x4)] → W p l e ({ frames := 2, cells := 0, slots := 0, locals := 41 } : Room) s m ([.ref q] : List Value).toArray below meth c s.heap [] 0 0 (MQ below (va_Qv (fun (_ : Unit) => True) (fun _ t => va_P D vwCl (tW K q sa wa su go 1 (sp_X1_decide_L4 su go 7) par prt) t.heap ∧ va_D A (tW K q sa wa su go 1 (sp_X1_decide_L4 su go 7) par prt)) A) ([.ref q] : List Value).toArray s 0 0 A) (F0 m 4 ls []) := by
    intro n4
    induction n4 with
    | zero => intro k h1 h2; exact absurd h2 (by omega)
    | succ n4 ih_4 =>
      intro k hk_4 hn_4 a4_1 x4 ls ea4_1 ex4 hl
      subst ea4_1
      subst ex4
      refine lv_iload_n hx hb dX1_decide_4 rfl (lv_at hl 2 rfl) ?_
      refine lv_bipush (v := 7) hx hb dX1_decide_5 (by decide) ?_
      refine lv_icmp_ge (tgt := 44) hx hb dX1_decide_7 (by decide) (fun c_7 => ?_) (fun c_7 => ?_)
      · skip
        have hke_4 : k = 7 := lp_end rfl c_7 hk_4 (by decide)
        subst hke_4
        refine lv_aload_n hx hb dX1_decide_44 rfl (lv_at hl 0 rfl) ?_
        refine lv_iload_n hx hb dX1_decide_45 rfl (lv_at hl 1 rfl) ?_
        refine va_put (D := D) (ci := 1) (v := .int (sp_X1_decide_L4 su go 7)) (ty := .int) (C := RX1) (T := TX1) (N := 6) hx hb hts hin1 tyX1 tyX1_ok nmX1 hown hK hP hD hS 0 rfl rfl 3 (by decide) (hts (.fieldLink RX1 23 "CartelWatch$Tender" "winner" "I") (by decide +kernel)) (fun _ h9 => h9) rfl (by decide +kernel) rfl rfl (Nat.le_of_ble_eq_true rfl) dX1_decide_46 (fun H locs hP hD hS => ?_)
        have hP : va_P D vwCl [(q, .inr (1, [.ref sa, .ref wa, .int dec, .int (sp_X1_decide_L4 su go 7), .int par, .int prt])), (sa, .inl (K 0, 7, .inl su)), (wa, .inl (K 1, 7, .inl go))] H := hP
        have hD : va_D A [(q, .inr (1, [.ref sa, .ref wa, .int dec, .int (sp_X1_decide_L4 su go 7), .int par, .int prt])), (sa, .inl (K 0, 7, .inl su)), (wa, .inl (K 1, 7, .inl go))] := hD
        refine lv_aload_n hx hb dX1_decide_49 rfl (lv_at hl 0 rfl) ?_
        refine lv_iconst (v := 1) hx hb dX1_decide_50 (by decide) ?_
        refine va_put (D := D) (ci := 1) (v := .int 1) (ty := .boolean) (C := RX1) (T := TX1) (N := 6) hx hb hts hin1 tyX1 tyX1_ok nmX1 hown hK hP hD hS 0 rfl rfl 2 (by decide) (hts (.fieldLink RX1 19 "CartelWatch$Tender" "decided" "Z") (by decide +kernel)) (fun _ h9 => h9) rfl (by decide +kernel) rfl rfl (Nat.le_of_ble_eq_true rfl) dX1_decide_51 (fun H locs hP hD hS => ?_)
        have hP : va_P D vwCl [(q, .inr (1, [.ref sa, .ref wa, .int 1, .int (sp_X1_decide_L4 su go 7), .int par, .int prt])), (sa, .inl (K 0, 7, .inl su)), (wa, .inl (K 1, 7, .inl go))] H := hP
        have hD : va_D A [(q, .inr (1, [.ref sa, .ref wa, .int 1, .int (sp_X1_decide_L4 su go 7), .int par, .int prt])), (sa, .inl (K 0, 7, .inl su)), (wa, .inl (K 1, 7, .inl go))] := hD
        have hPe : va_P D vwCl [(q, .inr (1, [.ref sa, .ref wa, .int 1, .int (sp_X1_decide_L4 su go 7), .int par, .int prt])), (sa, .inl (K 0, 7, .inl su)), (wa, .inl (K 1, 7, .inl go))] H := hP
        have hDe : va_D A [(q, .inr (1, [.ref sa, .ref wa, .int 1, .int (sp_X1_decide_L4 su go 7), .int par, .int prt])), (sa, .inl (K 0, 7, .inl su)), (wa, .inl (K 1, 7, .inl go))] := hD
        exact W.vret hx hb hr (fun t ht hW => ⟨⟨(), rfl, trivial, by dsimp only; rw [ht]; exact ⟨hPe, hDe⟩⟩, hS.F ht⟩) hS.2.2 dX1_decide_54
      · skip
        have hlt_4 : k < 7 := lp_in rfl c_7 hk_4 (by decide)
        refine lv_aload_n hx hb dX1_decide_10 rfl (lv_at hl 0 rfl) ?_
        refine lv_iload_n hx hb dX1_decide_11 rfl (lv_at hl 2 rfl) ?_
        refine pu_V (As := [.int (nI k)]) (rest := []) hc (c_X1_isStanding l D K q sa wa su go dec win par prt (nI k)) (cwV 1 hts gX1_decide_X1_isStanding rfl rfl rfl (by decide +kernel) ⟨Nat.le_of_ble_eq_true rfl, Nat.le_of_ble_eq_true rfl⟩) hP hK hE (va_recv hK hP (ci := 1) (q0 := 0) rfl rfl) rfl rfl hl.1 (Nat.le_of_ble_eq_true rfl) dX1_decide_12 ⟨Nat.le_of_ble_eq_true rfl, Nat.le_of_ble_eq_true rfl⟩ ?_
        refine lb_eq (tgt := 38) hx hb dX1_decide_15 (by decide) (fun c_15 => ?_) (fun c_15 => ?_)
        · skip
          refine lv_iinc (v := (nI k) + 1) (lv' := [(2, .int ((nI k) + 1)), (0, .ref q), (1, .int (sp_X1_decide_L4 su go k))]) hx hb dX1_decide_38 hl (k := 2) rfl (rfl) (by decide) rfl (fun ls hl => ?_)
          refine lv_goto (tgt := 4) hx hb dX1_decide_41 (by decide) ?_
          exact ih_4 (k + 1) hlt_4 (by omega) _ _ ls (Eq.symm (Eq.trans (if_neg (ntr c_15)) (rfl))) (nI_1 k) (lv_sub hl [1, 2, 0] rfl)
        · skip
          refine lv_iload_n hx hb dX1_decide_18 rfl (lv_at hl 1 rfl) ?_
          refine lv_iconst (v := -1) hx hb dX1_decide_19 (by decide) ?_
          refine lv_icmp_eq (tgt := 36) hx hb dX1_decide_20 (by decide) (fun c_20 => ?_) (fun c_20 => ?_)
          · skip
            refine lv_iload_n hx hb dX1_decide_36 rfl (lv_at hl 2 rfl) ?_
            refine lv_istore_n (lv' := [(1, .int (nI k)), (0, .ref q), (2, .int (nI k))]) hx hb dX1_decide_37 rfl hl (by decide) rfl (fun ls hl => ?_)
            refine lv_iinc (v := (nI k) + 1) (lv' := [(2, .int ((nI k) + 1)), (1, .int (nI k)), (0, .ref q)]) hx hb dX1_decide_38 hl (k := 2) rfl (rfl) (by decide) rfl (fun ls hl => ?_)
            refine lv_goto (tgt := 4) hx hb dX1_decide_41 (by decide) ?_
            exact ih_4 (k + 1) hlt_4 (by omega) _ _ ls (Eq.symm (Eq.trans (if_pos c_15) (Eq.trans (if_pos c_20) (rfl)))) (nI_1 k) (lv_sub hl [2, 1, 0] rfl)
          · skip
            refine lv_aload_n hx hb dX1_decide_23 rfl (lv_at hl 0 rfl) ?_
            refine lv_iload_n hx hb dX1_decide_24 rfl (lv_at hl 2 rfl) ?_
            refine pu_V (As := [.int (nI k)]) (rest := []) hc (c_X1_sumOf l D K q sa wa su go dec win par prt (nI k)) (cwV 1 hts gX1_decide_X1_sumOf rfl rfl rfl (by decide +kernel) ⟨Nat.le_of_ble_eq_true rfl, Nat.le_of_ble_eq_true rfl⟩) hP hK hE (va_recv hK hP (ci := 1) (q0 := 0) rfl rfl) rfl rfl hl.1 (Nat.le_of_ble_eq_true rfl) dX1_decide_25 ⟨Nat.le_of_ble_eq_true rfl, Nat.le_of_ble_eq_true rfl⟩ ?_
            refine lv_aload_n hx hb dX1_decide_28 rfl (lv_at hl 0 rfl) ?_
            refine lv_iload_n hx hb dX1_decide_29 rfl (lv_at hl 1 rfl) ?_
            refine pu_V (As := [.int (sp_X1_decide_L4 su go k)]) (rest := [.int (sp_X1_sumOf su (nI k))]) hc (c_X1_sumOf l D K q sa wa su go dec win par prt (sp_X1_decide_L4 su go k)) (cwV 1 hts gX1_decide_X1_sumOf rfl rfl rfl (by decide +kernel) ⟨Nat.le_of_ble_eq_true rfl, Nat.le_of_ble_eq_true rfl⟩) hP hK hE (va_recv hK hP (ci := 1) (q0 := 0) rfl rfl) rfl rfl hl.1 (Nat.le_of_ble_eq_true rfl) dX1_decide_30 ⟨Nat.le_of_ble_eq_true rfl, Nat.le_of_ble_eq_true rfl⟩ ?_
            refine lv_icmp_ge (tgt := 38) hx hb dX1_decide_33 (by decide) (fun c_33 => ?_) (fun c_33 => ?_)
            · skip
              refine lv_iinc (v := (nI k) + 1) (lv' := [(2, .int ((nI k) + 1)), (0, .ref q), (1, .int (sp_X1_decide_L4 su go k))]) hx hb dX1_decide_38 hl (k := 2) rfl (rfl) (by decide) rfl (fun ls hl => ?_)
              refine lv_goto (tgt := 4) hx hb dX1_decide_41 (by decide) ?_
              exact ih_4 (k + 1) hlt_4 (by omega) _ _ ls (Eq.symm (Eq.trans (if_pos c_15) (Eq.trans (if_neg c_20) (Eq.trans (if_pos c_33) (rfl))))) (nI_1 k) (lv_sub hl [1, 2, 0] rfl)
            · skip
              refine lv_iload_n hx hb dX1_decide_36 rfl (lv_at hl 2 rfl) ?_
              refine lv_istore_n (lv' := [(1, .int (nI k)), (0, .ref q), (2, .int (nI k))]) hx hb dX1_decide_37 rfl hl (by decide) rfl (fun ls hl => ?_)
              refine lv_iinc (v := (nI k) + 1) (lv' := [(2, .int ((nI k) + 1)), (1, .int (nI k)), (0, .ref q)]) hx hb dX1_decide_38 hl (k := 2) rfl (rfl) (by decide) rfl (fun ls hl => ?_)
              refine lv_goto (tgt := 4) hx hb dX1_decide_41 (by decide) ?_
              exact ih_4 (k + 1) hlt_4 (by omega) _ _ ls (Eq.symm (Eq.trans (if_pos c_15) (Eq.trans (if_neg c_20) (Eq.trans (if_neg c_33) (rfl))))) (nI_1 k) (lv_sub hl [2, 1, 0] rfl)
  exact hloop_4 (7 + 1) 0 (Nat.zero_le _) (by omega) _ _ ls rfl nI_0.symm (lv_sub hl [2, 1, 0] rfl)

set_option maxHeartbeats 4000000 in
set_option maxRecDepth 100000 in
theorem c_X1_giveOver (l : Launch) (D : va_G) (K : Nat → ClassId) (sz : Nat) (q sa wa : Nat) (su go : Nat → Int32) (dec win par prt p0 p1 : Int32) : EFv l yX1_giveOver wsX1_giveOver 0 0 D K [.ref q, .int p0, .int p1] sz (tW K q sa wa su go dec win par prt) (tW K q sa wa su go dec win p0 p1) := by
  refine Met.ofW (cc := cX1_giveOver) (maxL := 3) (ret := none) (by decide) rfl ?_
  intro p e s m args below meth c s₁ B hml hv
  obtain ⟨rfl, hsz, hD0, hP, hK, hE⟩ := hv
  have hx := B.exec
  have hb := B.bytes
  have hr := B.returns
  have hts := atoms_spec (ws := wsX1_giveOver) B.pre
  have hown : s.vm.findClass RX1 = some m.cls := findClass_of_methodNamed B.named
  have hlocks := B.notSynchronized
  have hc : CallFix p m c cX1_giveOver 3 s ([.ref q, .int p0, .int p1] : List Value).toArray wsX1_giveOver RX1 := ⟨hx, hb, hml, hown, hts⟩
  subst hsz
  have hD := hD0.self (sz := s.heap.size)
  generalize hAe : va_A (tW K q sa wa su go dec win par prt) s.heap.size = A at hD ⊢
  have hA : ∀ q : Nat, s.heap.size ≤ q → A q := fun q h => by rw [← hAe]; exact Or.inr h
  have hS : va_S A s.heap s.heap [] := va_S.rf
  have hP : va_P D vwCl (tW K q sa wa su go dec win par prt) s.heap := hP
  have hin1 : ∀ w ∈ u_ws RX1 TX1 6, w ∈ wsX1_giveOver := by decide +kernel
  have hl := lv_entry ([.ref q, .int p0, .int p1]) (n := 3) (Nat.le_of_ble_eq_true rfl)
  rw [lg_entry_eq]
  generalize (lg_sl ([.ref q, .int p0, .int p1]) ++ List.replicate (3 - (lg_sl ([.ref q, .int p0, .int p1])).length) Slot.unset).toArray = ls at hl ⊢
  have hl : lv_has ls 3 [(0, .ref q), (1, .int p0), (2, .int p1)] := hl
  refine lv_aload_n hx hb dX1_giveOver_0 rfl (lv_at hl 0 rfl) ?_
  refine lv_iload_n hx hb dX1_giveOver_1 rfl (lv_at hl 1 rfl) ?_
  refine va_put (D := D) (ci := 1) (v := .int p0) (ty := .int) (C := RX1) (T := TX1) (N := 6) hx hb hts hin1 tyX1 tyX1_ok nmX1 hown hK hP hD hS 0 rfl rfl 4 (by decide) (hts (.fieldLink RX1 27 "CartelWatch$Tender" "partner" "I") (by decide +kernel)) (fun _ h9 => h9) rfl (by decide +kernel) rfl rfl (Nat.le_of_ble_eq_true rfl) dX1_giveOver_2 (fun H locs hP hD hS => ?_)
  have hP : va_P D vwCl [(q, .inr (1, [.ref sa, .ref wa, .int dec, .int win, .int p0, .int prt])), (sa, .inl (K 0, 7, .inl su)), (wa, .inl (K 1, 7, .inl go))] H := hP
  have hD : va_D A [(q, .inr (1, [.ref sa, .ref wa, .int dec, .int win, .int p0, .int prt])), (sa, .inl (K 0, 7, .inl su)), (wa, .inl (K 1, 7, .inl go))] := hD
  refine lv_aload_n hx hb dX1_giveOver_5 rfl (lv_at hl 0 rfl) ?_
  refine lv_iload_n hx hb dX1_giveOver_6 rfl (lv_at hl 2 rfl) ?_
  refine va_put (D := D) (ci := 1) (v := .int p1) (ty := .int) (C := RX1) (T := TX1) (N := 6) hx hb hts hin1 tyX1 tyX1_ok nmX1 hown hK hP hD hS 0 rfl rfl 5 (by decide) (hts (.fieldLink RX1 30 "CartelWatch$Tender" "partnersPart" "I") (by decide +kernel)) (fun _ h9 => h9) rfl (by decide +kernel) rfl rfl (Nat.le_of_ble_eq_true rfl) dX1_giveOver_7 (fun H locs hP hD hS => ?_)
  have hP : va_P D vwCl [(q, .inr (1, [.ref sa, .ref wa, .int dec, .int win, .int p0, .int p1])), (sa, .inl (K 0, 7, .inl su)), (wa, .inl (K 1, 7, .inl go))] H := hP
  have hD : va_D A [(q, .inr (1, [.ref sa, .ref wa, .int dec, .int win, .int p0, .int p1])), (sa, .inl (K 0, 7, .inl su)), (wa, .inl (K 1, 7, .inl go))] := hD
  have hPe : va_P D vwCl [(q, .inr (1, [.ref sa, .ref wa, .int dec, .int win, .int p0, .int p1])), (sa, .inl (K 0, 7, .inl su)), (wa, .inl (K 1, 7, .inl go))] H := hP
  have hDe : va_D A [(q, .inr (1, [.ref sa, .ref wa, .int dec, .int win, .int p0, .int p1])), (sa, .inl (K 0, 7, .inl su)), (wa, .inl (K 1, 7, .inl go))] := hD
  exact W.vret hx hb hr (fun t ht hW => ⟨⟨(), rfl, trivial, by dsimp only; rw [ht]; exact ⟨hPe, hDe⟩⟩, hS.F ht⟩) hS.2.2 dX1_giveOver_10

def sp_X0_one (one : Int32) : Int32 := one
set_option maxHeartbeats 4000000 in
set_option maxRecDepth 100000 in
theorem c_X0_one (l : Launch) (D : va_G) (K : Nat → ClassId) (q ua na fa : Nat) (one oth : Int32) (un nw fi : Nat → Int32) (mc fst cl : Int32) : PU l yX0_one wsX0_one 0 0 D K [.ref q] (fun H => va_P D vwCl (dW K q ua na fa one oth un nw fi mc fst cl) H) (.int (sp_X0_one one)) := by
  refine Met.ofW (cc := cX0_one) (maxL := 1) (ret := (some .int)) (by decide) rfl ?_
  intro p e s m args below meth c s₁ B hml hv
  obtain ⟨rfl, hP, hK, hE⟩ := hv
  have hx := B.exec
  have hb := B.bytes
  have hr := B.returns
  have hts := atoms_spec (ws := wsX0_one) B.pre
  have hown : s.vm.findClass RX0 = some m.cls := findClass_of_methodNamed B.named
  have hlocks := B.notSynchronized
  have hc : CallFix p m c cX0_one 1 s ([.ref q] : List Value).toArray wsX0_one RX0 := ⟨hx, hb, hml, hown, hts⟩
  have hin0 : ∀ w ∈ u_ws RX0 TX0 8, w ∈ wsX0_one := by decide +kernel
  have hP : va_P D vwCl (dW K q ua na fa one oth un nw fi mc fst cl) s.heap := hP
  have hl := lv_entry ([.ref q]) (n := 1) (Nat.le_of_ble_eq_true rfl)
  rw [lg_entry_eq]
  generalize (lg_sl ([.ref q]) ++ List.replicate (1 - (lg_sl ([.ref q])).length) Slot.unset).toArray = ls at hl ⊢
  have hl : lv_has ls 1 [(0, .ref q)] := hl
  refine lv_aload_n hx hb dX0_one_0 rfl (lv_at hl 0 rfl) ?_
  refine va_get (D := D) (ci := 0) (v := .int one) (C := RX0) (T := TX0) (N := 8) hx hb hts hin0 hown hK hP 0 rfl rfl 0 (by decide) (hts (.fieldLink RX0 33 "CartelWatch$Dossier" "one" "I") (by decide +kernel)) (fun _ h9 => h9) rfl dX0_one_1 ?_
  exact pu_iret hx hb hr hlocks dX0_one_4 (Eq.symm (rfl))

def sp_X0_other (oth : Int32) : Int32 := oth
set_option maxHeartbeats 4000000 in
set_option maxRecDepth 100000 in
theorem c_X0_other (l : Launch) (D : va_G) (K : Nat → ClassId) (q ua na fa : Nat) (one oth : Int32) (un nw fi : Nat → Int32) (mc fst cl : Int32) : PU l yX0_other wsX0_other 0 0 D K [.ref q] (fun H => va_P D vwCl (dW K q ua na fa one oth un nw fi mc fst cl) H) (.int (sp_X0_other oth)) := by
  refine Met.ofW (cc := cX0_other) (maxL := 1) (ret := (some .int)) (by decide) rfl ?_
  intro p e s m args below meth c s₁ B hml hv
  obtain ⟨rfl, hP, hK, hE⟩ := hv
  have hx := B.exec
  have hb := B.bytes
  have hr := B.returns
  have hts := atoms_spec (ws := wsX0_other) B.pre
  have hown : s.vm.findClass RX0 = some m.cls := findClass_of_methodNamed B.named
  have hlocks := B.notSynchronized
  have hc : CallFix p m c cX0_other 1 s ([.ref q] : List Value).toArray wsX0_other RX0 := ⟨hx, hb, hml, hown, hts⟩
  have hin0 : ∀ w ∈ u_ws RX0 TX0 8, w ∈ wsX0_other := by decide +kernel
  have hP : va_P D vwCl (dW K q ua na fa one oth un nw fi mc fst cl) s.heap := hP
  have hl := lv_entry ([.ref q]) (n := 1) (Nat.le_of_ble_eq_true rfl)
  rw [lg_entry_eq]
  generalize (lg_sl ([.ref q]) ++ List.replicate (1 - (lg_sl ([.ref q])).length) Slot.unset).toArray = ls at hl ⊢
  have hl : lv_has ls 1 [(0, .ref q)] := hl
  refine lv_aload_n hx hb dX0_other_0 rfl (lv_at hl 0 rfl) ?_
  refine va_get (D := D) (ci := 0) (v := .int oth) (C := RX0) (T := TX0) (N := 8) hx hb hts hin0 hown hK hP 0 rfl rfl 1 (by decide) (hts (.fieldLink RX0 36 "CartelWatch$Dossier" "other" "I") (by decide +kernel)) (fun _ h9 => h9) rfl dX0_other_1 ?_
  exact pu_iret hx hb hr hlocks dX0_other_4 (Eq.symm (rfl))

def sp_X0_isOf (one : Int32) (oth : Int32) (p0 : Int32) : Bool := if p0 = one then true else (if p0 = oth then true else false)
set_option maxHeartbeats 4000000 in
set_option maxRecDepth 100000 in
theorem c_X0_isOf (l : Launch) (D : va_G) (K : Nat → ClassId) (q ua na fa : Nat) (one oth : Int32) (un nw fi : Nat → Int32) (mc fst cl p0 : Int32) : PU l yX0_isOf wsX0_isOf 0 0 D K [.ref q, .int p0] (fun H => va_P D vwCl (dW K q ua na fa one oth un nw fi mc fst cl) H) (.int (bI (sp_X0_isOf one oth p0))) := by
  refine Met.ofW (cc := cX0_isOf) (maxL := 2) (ret := (some .boolean)) (by decide) rfl ?_
  intro p e s m args below meth c s₁ B hml hv
  obtain ⟨rfl, hP, hK, hE⟩ := hv
  have hx := B.exec
  have hb := B.bytes
  have hr := B.returns
  have hts := atoms_spec (ws := wsX0_isOf) B.pre
  have hown : s.vm.findClass RX0 = some m.cls := findClass_of_methodNamed B.named
  have hlocks := B.notSynchronized
  have hc : CallFix p m c cX0_isOf 2 s ([.ref q, .int p0] : List Value).toArray wsX0_isOf RX0 := ⟨hx, hb, hml, hown, hts⟩
  have hin0 : ∀ w ∈ u_ws RX0 TX0 8, w ∈ wsX0_isOf := by decide +kernel
  have hP : va_P D vwCl (dW K q ua na fa one oth un nw fi mc fst cl) s.heap := hP
  have hl := lv_entry ([.ref q, .int p0]) (n := 2) (Nat.le_of_ble_eq_true rfl)
  rw [lg_entry_eq]
  generalize (lg_sl ([.ref q, .int p0]) ++ List.replicate (2 - (lg_sl ([.ref q, .int p0])).length) Slot.unset).toArray = ls at hl ⊢
  have hl : lv_has ls 2 [(0, .ref q), (1, .int p0)] := hl
  refine lv_iload_n hx hb dX0_isOf_0 rfl (lv_at hl 1 rfl) ?_
  refine lv_aload_n hx hb dX0_isOf_1 rfl (lv_at hl 0 rfl) ?_
  refine va_get (D := D) (ci := 0) (v := .int one) (C := RX0) (T := TX0) (N := 8) hx hb hts hin0 hown hK hP 0 rfl rfl 0 (by decide) (hts (.fieldLink RX0 33 "CartelWatch$Dossier" "one" "I") (by decide +kernel)) (fun _ h9 => h9) rfl dX0_isOf_2 ?_
  refine lv_icmp_eq (tgt := 16) hx hb dX0_isOf_5 (by decide) (fun c_5 => ?_) (fun c_5 => ?_)
  · skip
    refine lv_iconst (v := 1) hx hb dX0_isOf_16 (by decide) ?_
    refine lv_goto (tgt := 21) hx hb dX0_isOf_17 (by decide) ?_
    exact pu_zret hx hb hr hlocks dX0_isOf_21 (bI_nar _) (bI_eq (a := true) (Eq.symm (Eq.trans (if_pos c_5) (rfl))))
  · skip
    refine lv_iload_n hx hb dX0_isOf_8 rfl (lv_at hl 1 rfl) ?_
    refine lv_aload_n hx hb dX0_isOf_9 rfl (lv_at hl 0 rfl) ?_
    refine va_get (D := D) (ci := 0) (v := .int oth) (C := RX0) (T := TX0) (N := 8) hx hb hts hin0 hown hK hP 0 rfl rfl 1 (by decide) (hts (.fieldLink RX0 36 "CartelWatch$Dossier" "other" "I") (by decide +kernel)) (fun _ h9 => h9) rfl dX0_isOf_10 ?_
    refine lv_icmp_ne (tgt := 20) hx hb dX0_isOf_13 (by decide) (fun c_13 => ?_) (fun c_13 => ?_)
    · skip
      refine lv_iconst (v := 0) hx hb dX0_isOf_20 (by decide) ?_
      exact pu_zret hx hb hr hlocks dX0_isOf_21 (bI_nar _) (bI_eq (a := false) (Eq.symm (Eq.trans (if_neg c_5) (Eq.trans (if_neg c_13) (rfl)))))
    · skip
      refine lv_iconst (v := 1) hx hb dX0_isOf_16 (by decide) ?_
      refine lv_goto (tgt := 21) hx hb dX0_isOf_17 (by decide) ?_
      exact pu_zret hx hb hr hlocks dX0_isOf_21 (bI_nar _) (bI_eq (a := true) (Eq.symm (Eq.trans (if_neg c_5) (Eq.trans (if_pos c_13) (rfl)))))

def sp_X0_matterCount (mc : Int32) : Int32 := mc
set_option maxHeartbeats 4000000 in
set_option maxRecDepth 100000 in
theorem c_X0_matterCount (l : Launch) (D : va_G) (K : Nat → ClassId) (q ua na fa : Nat) (one oth : Int32) (un nw fi : Nat → Int32) (mc fst cl : Int32) : PU l yX0_matterCount wsX0_matterCount 0 0 D K [.ref q] (fun H => va_P D vwCl (dW K q ua na fa one oth un nw fi mc fst cl) H) (.int (sp_X0_matterCount mc)) := by
  refine Met.ofW (cc := cX0_matterCount) (maxL := 1) (ret := (some .int)) (by decide) rfl ?_
  intro p e s m args below meth c s₁ B hml hv
  obtain ⟨rfl, hP, hK, hE⟩ := hv
  have hx := B.exec
  have hb := B.bytes
  have hr := B.returns
  have hts := atoms_spec (ws := wsX0_matterCount) B.pre
  have hown : s.vm.findClass RX0 = some m.cls := findClass_of_methodNamed B.named
  have hlocks := B.notSynchronized
  have hc : CallFix p m c cX0_matterCount 1 s ([.ref q] : List Value).toArray wsX0_matterCount RX0 := ⟨hx, hb, hml, hown, hts⟩
  have hin0 : ∀ w ∈ u_ws RX0 TX0 8, w ∈ wsX0_matterCount := by decide +kernel
  have hP : va_P D vwCl (dW K q ua na fa one oth un nw fi mc fst cl) s.heap := hP
  have hl := lv_entry ([.ref q]) (n := 1) (Nat.le_of_ble_eq_true rfl)
  rw [lg_entry_eq]
  generalize (lg_sl ([.ref q]) ++ List.replicate (1 - (lg_sl ([.ref q])).length) Slot.unset).toArray = ls at hl ⊢
  have hl : lv_has ls 1 [(0, .ref q)] := hl
  refine lv_aload_n hx hb dX0_matterCount_0 rfl (lv_at hl 0 rfl) ?_
  refine va_get (D := D) (ci := 0) (v := .int mc) (C := RX0) (T := TX0) (N := 8) hx hb hts hin0 hown hK hP 0 rfl rfl 5 (by decide) (hts (.fieldLink RX0 22 "CartelWatch$Dossier" "matterCount" "I") (by decide +kernel)) (fun _ h9 => h9) rfl dX0_matterCount_1 ?_
  exact pu_iret hx hb hr hlocks dX0_matterCount_4 (Eq.symm (rfl))

def sp_X0_first (fst : Int32) : Int32 := fst
set_option maxHeartbeats 4000000 in
set_option maxRecDepth 100000 in
theorem c_X0_first (l : Launch) (D : va_G) (K : Nat → ClassId) (q ua na fa : Nat) (one oth : Int32) (un nw fi : Nat → Int32) (mc fst cl : Int32) : PU l yX0_first wsX0_first 0 0 D K [.ref q] (fun H => va_P D vwCl (dW K q ua na fa one oth un nw fi mc fst cl) H) (.int (sp_X0_first fst)) := by
  refine Met.ofW (cc := cX0_first) (maxL := 1) (ret := (some .int)) (by decide) rfl ?_
  intro p e s m args below meth c s₁ B hml hv
  obtain ⟨rfl, hP, hK, hE⟩ := hv
  have hx := B.exec
  have hb := B.bytes
  have hr := B.returns
  have hts := atoms_spec (ws := wsX0_first) B.pre
  have hown : s.vm.findClass RX0 = some m.cls := findClass_of_methodNamed B.named
  have hlocks := B.notSynchronized
  have hc : CallFix p m c cX0_first 1 s ([.ref q] : List Value).toArray wsX0_first RX0 := ⟨hx, hb, hml, hown, hts⟩
  have hin0 : ∀ w ∈ u_ws RX0 TX0 8, w ∈ wsX0_first := by decide +kernel
  have hP : va_P D vwCl (dW K q ua na fa one oth un nw fi mc fst cl) s.heap := hP
  have hl := lv_entry ([.ref q]) (n := 1) (Nat.le_of_ble_eq_true rfl)
  rw [lg_entry_eq]
  generalize (lg_sl ([.ref q]) ++ List.replicate (1 - (lg_sl ([.ref q])).length) Slot.unset).toArray = ls at hl ⊢
  have hl : lv_has ls 1 [(0, .ref q)] := hl
  refine lv_aload_n hx hb dX0_first_0 rfl (lv_at hl 0 rfl) ?_
  refine va_get (D := D) (ci := 0) (v := .int fst) (C := RX0) (T := TX0) (N := 8) hx hb hts hin0 hown hK hP 0 rfl rfl 6 (by decide) (hts (.fieldLink RX0 26 "CartelWatch$Dossier" "first" "I") (by decide +kernel)) (fun _ h9 => h9) rfl dX0_first_1 ?_
  exact pu_iret hx hb hr hlocks dX0_first_4 (Eq.symm (rfl))

def sp_X0_fineOf (fi : Nat → Int32) (p0 : Int32) : Int32 := if sp_X2_isBidder p0 = true then (fi p0.toNatClampNeg) else 0
set_option maxHeartbeats 4000000 in
set_option maxRecDepth 100000 in
theorem c_X0_fineOf (l : Launch) (D : va_G) (K : Nat → ClassId) (q ua na fa : Nat) (one oth : Int32) (un nw fi : Nat → Int32) (mc fst cl p0 : Int32) : PU l yX0_fineOf wsX0_fineOf 1 20 D K [.ref q, .int p0] (fun H => va_P D vwCl (dW K q ua na fa one oth un nw fi mc fst cl) H) (.int (sp_X0_fineOf fi p0)) := by
  refine Met.ofW (cc := cX0_fineOf) (maxL := 2) (ret := (some .int)) (by decide) rfl ?_
  intro p e s m args below meth c s₁ B hml hv
  obtain ⟨rfl, hP, hK, hE⟩ := hv
  have hx := B.exec
  have hb := B.bytes
  have hr := B.returns
  have hts := atoms_spec (ws := wsX0_fineOf) B.pre
  have hown : s.vm.findClass RX0 = some m.cls := findClass_of_methodNamed B.named
  have hlocks := B.notSynchronized
  have hc : CallFix p m c cX0_fineOf 2 s ([.ref q, .int p0] : List Value).toArray wsX0_fineOf RX0 := ⟨hx, hb, hml, hown, hts⟩
  have hin0 : ∀ w ∈ u_ws RX0 TX0 8, w ∈ wsX0_fineOf := by decide +kernel
  have hP : va_P D vwCl (dW K q ua na fa one oth un nw fi mc fst cl) s.heap := hP
  have hl := lv_entry ([.ref q, .int p0]) (n := 2) (Nat.le_of_ble_eq_true rfl)
  rw [lg_entry_eq]
  generalize (lg_sl ([.ref q, .int p0]) ++ List.replicate (2 - (lg_sl ([.ref q, .int p0])).length) Slot.unset).toArray = ls at hl ⊢
  have hl : lv_has ls 2 [(0, .ref q), (1, .int p0)] := hl
  refine lv_iload_n hx hb dX0_fineOf_0 rfl (lv_at hl 1 rfl) ?_
  refine pu_SN (As := [.int p0]) (rest := []) hc (c_X2_isBidder l D K p0) ⟨va_cnB (own := RX0) (index := 39) (host := RX2) 1 hts gX0_fineOf_X2_isBidder_n39 rfl rfl rfl hE.2.1 (hts (.initialized RX2) (by decide +kernel)) (by decide +kernel) ⟨Nat.le_of_ble_eq_true rfl, Nat.le_of_ble_eq_true rfl⟩, (hts (.static yX2_isBidder) (by decide +kernel)), trivial⟩ trivial hK hE rfl rfl hl.1 (Nat.le_of_ble_eq_true rfl) dX0_fineOf_1 ⟨Nat.le_of_ble_eq_true rfl, Nat.le_of_ble_eq_true rfl⟩ ?_
  refine lb_eq (tgt := 16) hx hb dX0_fineOf_4 (by decide) (fun c_4 => ?_) (fun c_4 => ?_)
  · skip
    refine lv_iconst (v := 0) hx hb dX0_fineOf_16 (by decide) ?_
    exact pu_iret hx hb hr hlocks dX0_fineOf_17 (Eq.symm (Eq.trans (if_neg (ntr c_4)) (rfl)))
  · skip
    refine lv_aload_n hx hb dX0_fineOf_7 rfl (lv_at hl 0 rfl) ?_
    refine va_get (D := D) (ci := 0) (v := .ref fa) (C := RX0) (T := TX0) (N := 8) hx hb hts hin0 hown hK hP 0 rfl rfl 4 (by decide) (hts (.fieldLink RX0 19 "CartelWatch$Dossier" "fines" "[I") (by decide +kernel)) (fun _ h9 => h9) rfl dX0_fineOf_8 ?_
    refine lv_iload_n hx hb dX0_fineOf_11 rfl (lv_at hl 1 rfl) ?_
    refine va_iald hx hb hK hP 3 0 (cA := K 0) rfl rfl (in7 c_4) dX0_fineOf_12 ?_
    refine lv_goto (tgt := 17) hx hb dX0_fineOf_13 (by decide) ?_
    exact pu_iret hx hb hr hlocks dX0_fineOf_17 (Eq.symm (Eq.trans (if_pos c_4) (rfl)))

def sp_X0_isClosed (cl : Int32) : Int32 := cl
set_option maxHeartbeats 4000000 in
set_option maxRecDepth 100000 in
theorem c_X0_isClosed (l : Launch) (D : va_G) (K : Nat → ClassId) (q ua na fa : Nat) (one oth : Int32) (un nw fi : Nat → Int32) (mc fst cl : Int32) (hz : narrow .boolean (.int cl) = .int cl) : PU l yX0_isClosed wsX0_isClosed 0 0 D K [.ref q] (fun H => va_P D vwCl (dW K q ua na fa one oth un nw fi mc fst cl) H) (.int (sp_X0_isClosed cl)) := by
  refine Met.ofW (cc := cX0_isClosed) (maxL := 1) (ret := (some .boolean)) (by decide) rfl ?_
  intro p e s m args below meth c s₁ B hml hv
  obtain ⟨rfl, hP, hK, hE⟩ := hv
  have hx := B.exec
  have hb := B.bytes
  have hr := B.returns
  have hts := atoms_spec (ws := wsX0_isClosed) B.pre
  have hown : s.vm.findClass RX0 = some m.cls := findClass_of_methodNamed B.named
  have hlocks := B.notSynchronized
  have hc : CallFix p m c cX0_isClosed 1 s ([.ref q] : List Value).toArray wsX0_isClosed RX0 := ⟨hx, hb, hml, hown, hts⟩
  have hin0 : ∀ w ∈ u_ws RX0 TX0 8, w ∈ wsX0_isClosed := by decide +kernel
  have hP : va_P D vwCl (dW K q ua na fa one oth un nw fi mc fst cl) s.heap := hP
  have hl := lv_entry ([.ref q]) (n := 1) (Nat.le_of_ble_eq_true rfl)
  rw [lg_entry_eq]
  generalize (lg_sl ([.ref q]) ++ List.replicate (1 - (lg_sl ([.ref q])).length) Slot.unset).toArray = ls at hl ⊢
  have hl : lv_has ls 1 [(0, .ref q)] := hl
  refine lv_aload_n hx hb dX0_isClosed_0 rfl (lv_at hl 0 rfl) ?_
  refine va_get (D := D) (ci := 0) (v := .int cl) (C := RX0) (T := TX0) (N := 8) hx hb hts hin0 hown hK hP 0 rfl rfl 7 (by decide) (hts (.fieldLink RX0 29 "CartelWatch$Dossier" "closed" "Z") (by decide +kernel)) (fun _ h9 => h9) rfl dX0_isClosed_1 ?_
  exact pu_zret hx hb hr hlocks dX0_isClosed_4 hz (Eq.symm (rfl))

def sp_X0_lenientFine_j4s0 (nw : Nat → Int32) (p0 : Int32) : Int32 := if sp_X2_isBidder p0 = true then (nw p0.toNatClampNeg) else 0
def sp_X0_lenientFine (nw : Nat → Int32) (mc : Int32) (fst : Int32) (p0 : Int32) (p1 : Int32) : Int32 := if (sp_X0_lenientFine_j4s0 nw p0) = 0 then p1 else (if p0 = fst then (if (2 * (sp_X0_lenientFine_j4s0 nw p0)) < mc then (p1 / 2) else 0) else (p1 - (p1 / 4)))
set_option maxHeartbeats 4000000 in
set_option maxRecDepth 100000 in
theorem c_X0_lenientFine (l : Launch) (D : va_G) (K : Nat → ClassId) (q ua na fa : Nat) (one oth : Int32) (un nw fi : Nat → Int32) (mc fst cl p0 p1 : Int32) : PU l yX0_lenientFine wsX0_lenientFine 1 20 D K [.ref q, .int p0, .int p1] (fun H => va_P D vwCl (dW K q ua na fa one oth un nw fi mc fst cl) H) (.int (sp_X0_lenientFine nw mc fst p0 p1)) := by
  refine Met.ofW (cc := cX0_lenientFine) (maxL := 4) (ret := (some .int)) (by decide) rfl ?_
  intro p e s m args below meth c s₁ B hml hv
  obtain ⟨rfl, hP, hK, hE⟩ := hv
  have hx := B.exec
  have hb := B.bytes
  have hr := B.returns
  have hts := atoms_spec (ws := wsX0_lenientFine) B.pre
  have hown : s.vm.findClass RX0 = some m.cls := findClass_of_methodNamed B.named
  have hlocks := B.notSynchronized
  have hc : CallFix p m c cX0_lenientFine 4 s ([.ref q, .int p0, .int p1] : List Value).toArray wsX0_lenientFine RX0 := ⟨hx, hb, hml, hown, hts⟩
  have hin0 : ∀ w ∈ u_ws RX0 TX0 8, w ∈ wsX0_lenientFine := by decide +kernel
  have hP : va_P D vwCl (dW K q ua na fa one oth un nw fi mc fst cl) s.heap := hP
  have hl := lv_entry ([.ref q, .int p0, .int p1]) (n := 4) (Nat.le_of_ble_eq_true rfl)
  rw [lg_entry_eq]
  generalize (lg_sl ([.ref q, .int p0, .int p1]) ++ List.replicate (4 - (lg_sl ([.ref q, .int p0, .int p1])).length) Slot.unset).toArray = ls at hl ⊢
  have hl : lv_has ls 4 [(0, .ref q), (1, .int p0), (2, .int p1)] := hl
  refine lv_iload_n hx hb dX0_lenientFine_0 rfl (lv_at hl 1 rfl) ?_
  refine pu_SN (As := [.int p0]) (rest := []) hc (c_X2_isBidder l D K p0) ⟨va_cnB (own := RX0) (index := 39) (host := RX2) 1 hts gX0_lenientFine_X2_isBidder_n39 rfl rfl rfl hE.2.1 (hts (.initialized RX2) (by decide +kernel)) (by decide +kernel) ⟨Nat.le_of_ble_eq_true rfl, Nat.le_of_ble_eq_true rfl⟩, (hts (.static yX2_isBidder) (by decide +kernel)), trivial⟩ trivial hK hE rfl rfl hl.1 (Nat.le_of_ble_eq_true rfl) dX0_lenientFine_1 ⟨Nat.le_of_ble_eq_true rfl, Nat.le_of_ble_eq_true rfl⟩ ?_
  have hj_4 : ∀ (v4_0 : Int32) (ls : Array Slot), v4_0 = sp_X0_lenientFine_j4s0 nw p0 → lv_has ls 4 [(0, .ref q), (1, .int p0), (2, .int p1)] → W p l e ({ frames := 1, cells := 0, slots := 0, locals := 20 } : Room) s m ([.ref q, .int p0, .int p1] : List Value).toArray below meth c s.heap [] 0 0 (MQ below (QcV (.int (sp_X0_lenientFine nw mc fst p0 p1))) ([.ref q, .int p0, .int p1] : List Value).toArray s 0 0 (fun _ => False)) (F0 m 17 ls [.int v4_0]) := by
    intro v4_0 ls ev4_0 hl
    subst ev4_0
    refine lv_istore_n (lv' := [(3, .int (sp_X0_lenientFine_j4s0 nw p0)), (0, .ref q), (1, .int p0), (2, .int p1)]) hx hb dX0_lenientFine_17 rfl hl (by decide) rfl (fun ls hl => ?_)
    refine lv_iload_n hx hb dX0_lenientFine_18 rfl (lv_at hl 0 rfl) ?_
    refine lv_if_ne (tgt := 24) hx hb dX0_lenientFine_19 (by decide) (fun c_19 => ?_) (fun c_19 => ?_)
    · skip
      refine lv_iload_n hx hb dX0_lenientFine_24 rfl (lv_at hl 2 rfl) ?_
      refine lv_aload_n hx hb dX0_lenientFine_25 rfl (lv_at hl 1 rfl) ?_
      refine va_get (D := D) (ci := 0) (v := .int fst) (C := RX0) (T := TX0) (N := 8) hx hb hts hin0 hown hK hP 0 rfl rfl 6 (by decide) (hts (.fieldLink RX0 26 "CartelWatch$Dossier" "first" "I") (by decide +kernel)) (fun _ h9 => h9) rfl dX0_lenientFine_26 ?_
      refine lv_icmp_eq (tgt := 38) hx hb dX0_lenientFine_29 (by decide) (fun c_29 => ?_) (fun c_29 => ?_)
      · skip
        refine lv_iconst (v := 2) hx hb dX0_lenientFine_38 (by decide) ?_
        refine lv_iload_n hx hb dX0_lenientFine_39 rfl (lv_at hl 0 rfl) ?_
        refine lv_imul hx hb dX0_lenientFine_40 ?_
        refine lv_aload_n hx hb dX0_lenientFine_41 rfl (lv_at hl 1 rfl) ?_
        refine va_get (D := D) (ci := 0) (v := .int mc) (C := RX0) (T := TX0) (N := 8) hx hb hts hin0 hown hK hP 0 rfl rfl 5 (by decide) (hts (.fieldLink RX0 22 "CartelWatch$Dossier" "matterCount" "I") (by decide +kernel)) (fun _ h9 => h9) rfl dX0_lenientFine_42 ?_
        refine lv_icmp_lt (tgt := 52) hx hb dX0_lenientFine_45 (by decide) (fun c_45 => ?_) (fun c_45 => ?_)
        · skip
          refine lv_iload_n hx hb dX0_lenientFine_52 rfl (lv_at hl 3 rfl) ?_
          refine lv_iconst (v := 2) hx hb dX0_lenientFine_53 (by decide) ?_
          refine lv_idiv hx hb dX0_lenientFine_54 (by decide) ?_
          exact pu_iret hx hb hr hlocks dX0_lenientFine_55 (Eq.symm (Eq.trans (if_neg c_19) (Eq.trans (if_pos c_29) (Eq.trans (if_pos c_45) (rfl)))))
        · skip
          refine lv_iconst (v := 0) hx hb dX0_lenientFine_48 (by decide) ?_
          refine lv_goto (tgt := 55) hx hb dX0_lenientFine_49 (by decide) ?_
          exact pu_iret hx hb hr hlocks dX0_lenientFine_55 (Eq.symm (Eq.trans (if_neg c_19) (Eq.trans (if_pos c_29) (Eq.trans (if_neg c_45) (rfl)))))
      · skip
        refine lv_iload_n hx hb dX0_lenientFine_32 rfl (lv_at hl 3 rfl) ?_
        refine lv_iload_n hx hb dX0_lenientFine_33 rfl (lv_at hl 3 rfl) ?_
        refine lv_iconst (v := 4) hx hb dX0_lenientFine_34 (by decide) ?_
        refine lv_idiv hx hb dX0_lenientFine_35 (by decide) ?_
        refine lv_isub hx hb dX0_lenientFine_36 ?_
        exact pu_iret hx hb hr hlocks dX0_lenientFine_37 (Eq.symm (Eq.trans (if_neg c_19) (Eq.trans (if_neg c_29) (rfl))))
    · skip
      refine lv_iload_n hx hb dX0_lenientFine_22 rfl (lv_at hl 3 rfl) ?_
      exact pu_iret hx hb hr hlocks dX0_lenientFine_23 (Eq.symm (Eq.trans (if_pos c_19) (rfl)))
  refine lb_eq (tgt := 16) hx hb dX0_lenientFine_4 (by decide) (fun c_4 => ?_) (fun c_4 => ?_)
  · skip
    refine lv_iconst (v := 0) hx hb dX0_lenientFine_16 (by decide) ?_
    exact hj_4 _ ls (Eq.symm (Eq.trans (if_neg (ntr c_4)) (rfl))) (lv_sub hl [0, 1, 2] rfl)
  · skip
    refine lv_aload_n hx hb dX0_lenientFine_7 rfl (lv_at hl 0 rfl) ?_
    refine va_get (D := D) (ci := 0) (v := .ref na) (C := RX0) (T := TX0) (N := 8) hx hb hts hin0 hown hK hP 0 rfl rfl 3 (by decide) (hts (.fieldLink RX0 15 "CartelWatch$Dossier" "newTellings" "[I") (by decide +kernel)) (fun _ h9 => h9) rfl dX0_lenientFine_8 ?_
    refine lv_iload_n hx hb dX0_lenientFine_11 rfl (lv_at hl 1 rfl) ?_
    refine va_iald hx hb hK hP 2 0 (cA := K 0) rfl rfl (in7 c_4) dX0_lenientFine_12 ?_
    refine lv_goto (tgt := 17) hx hb dX0_lenientFine_13 (by decide) ?_
    exact hj_4 _ ls (Eq.symm (Eq.trans (if_pos c_4) (rfl))) (lv_sub hl [0, 1, 2] rfl)

set_option maxHeartbeats 4000000 in
set_option maxRecDepth 100000 in
theorem c_X0_shut (l : Launch) (D : va_G) (K : Nat → ClassId) (sz : Nat) (q ua na fa : Nat) (one oth : Int32) (un nw fi : Nat → Int32) (mc fst cl : Int32) : EFv l yX0_shut wsX0_shut 0 0 D K [.ref q] sz (dW K q ua na fa one oth un nw fi mc fst cl) (dW K q ua na fa one oth un nw fi mc fst 1) := by
  refine Met.ofW (cc := cX0_shut) (maxL := 1) (ret := none) (by decide) rfl ?_
  intro p e s m args below meth c s₁ B hml hv
  obtain ⟨rfl, hsz, hD0, hP, hK, hE⟩ := hv
  have hx := B.exec
  have hb := B.bytes
  have hr := B.returns
  have hts := atoms_spec (ws := wsX0_shut) B.pre
  have hown : s.vm.findClass RX0 = some m.cls := findClass_of_methodNamed B.named
  have hlocks := B.notSynchronized
  have hc : CallFix p m c cX0_shut 1 s ([.ref q] : List Value).toArray wsX0_shut RX0 := ⟨hx, hb, hml, hown, hts⟩
  subst hsz
  have hD := hD0.self (sz := s.heap.size)
  generalize hAe : va_A (dW K q ua na fa one oth un nw fi mc fst cl) s.heap.size = A at hD ⊢
  have hA : ∀ q : Nat, s.heap.size ≤ q → A q := fun q h => by rw [← hAe]; exact Or.inr h
  have hS : va_S A s.heap s.heap [] := va_S.rf
  have hP : va_P D vwCl (dW K q ua na fa one oth un nw fi mc fst cl) s.heap := hP
  have hin0 : ∀ w ∈ u_ws RX0 TX0 8, w ∈ wsX0_shut := by decide +kernel
  have hl := lv_entry ([.ref q]) (n := 1) (Nat.le_of_ble_eq_true rfl)
  rw [lg_entry_eq]
  generalize (lg_sl ([.ref q]) ++ List.replicate (1 - (lg_sl ([.ref q])).length) Slot.unset).toArray = ls at hl ⊢
  have hl : lv_has ls 1 [(0, .ref q)] := hl
  refine lv_aload_n hx hb dX0_shut_0 rfl (lv_at hl 0 rfl) ?_
  refine lv_iconst (v := 1) hx hb dX0_shut_1 (by decide) ?_
  refine va_put (D := D) (ci := 0) (v := .int 1) (ty := .boolean) (C := RX0) (T := TX0) (N := 8) hx hb hts hin0 tyX0 tyX0_ok nmX0 hown hK hP hD hS 0 rfl rfl 7 (by decide) (hts (.fieldLink RX0 29 "CartelWatch$Dossier" "closed" "Z") (by decide +kernel)) (fun _ h9 => h9) rfl (by decide +kernel) rfl rfl (Nat.le_of_ble_eq_true rfl) dX0_shut_2 (fun H locs hP hD hS => ?_)
  have hP : va_P D vwCl [(q, .inr (0, [.int one, .int oth, .ref ua, .ref na, .ref fa, .int mc, .int fst, .int 1])), (ua, .inl (K 1, 30, .inl un)), (na, .inl (K 0, 7, .inl nw)), (fa, .inl (K 0, 7, .inl fi))] H := hP
  have hD : va_D A [(q, .inr (0, [.int one, .int oth, .ref ua, .ref na, .ref fa, .int mc, .int fst, .int 1])), (ua, .inl (K 1, 30, .inl un)), (na, .inl (K 0, 7, .inl nw)), (fa, .inl (K 0, 7, .inl fi))] := hD
  have hPe : va_P D vwCl [(q, .inr (0, [.int one, .int oth, .ref ua, .ref na, .ref fa, .int mc, .int fst, .int 1])), (ua, .inl (K 1, 30, .inl un)), (na, .inl (K 0, 7, .inl nw)), (fa, .inl (K 0, 7, .inl fi))] H := hP
  have hDe : va_D A [(q, .inr (0, [.int one, .int oth, .ref ua, .ref na, .ref fa, .int mc, .int fst, .int 1])), (ua, .inl (K 1, 30, .inl un)), (na, .inl (K 0, 7, .inl nw)), (fa, .inl (K 0, 7, .inl fi))] := hD
  exact W.vret hx hb hr (fun t ht hW => ⟨⟨(), rfl, trivial, by dsimp only; rw [ht]; exact ⟨hPe, hDe⟩⟩, hS.F ht⟩) hS.2.2 dX0_shut_5

set_option maxHeartbeats 4000000 in
set_option maxRecDepth 100000 in
theorem c_X0_impose (l : Launch) (D : va_G) (K : Nat → ClassId) (sz : Nat) (q ua na fa : Nat) (one oth : Int32) (un nw fi : Nat → Int32) (mc fst cl p0 p1 : Int32) (hb7 : sp_X2_isBidder p0 = true) : EFv l yX0_impose wsX0_impose 1 20 D K [.ref q, .int p0, .int p1] sz (dW K q ua na fa one oth un nw fi mc fst cl) (dW K q ua na fa one oth un nw (upd fi p0.toNatClampNeg p1) mc fst cl) := by
  refine Met.ofW (cc := cX0_impose) (maxL := 3) (ret := none) (by decide) rfl ?_
  intro p e s m args below meth c s₁ B hml hv
  obtain ⟨rfl, hsz, hD0, hP, hK, hE⟩ := hv
  have hx := B.exec
  have hb := B.bytes
  have hr := B.returns
  have hts := atoms_spec (ws := wsX0_impose) B.pre
  have hown : s.vm.findClass RX0 = some m.cls := findClass_of_methodNamed B.named
  have hlocks := B.notSynchronized
  have hc : CallFix p m c cX0_impose 3 s ([.ref q, .int p0, .int p1] : List Value).toArray wsX0_impose RX0 := ⟨hx, hb, hml, hown, hts⟩
  subst hsz
  have hD := hD0.self (sz := s.heap.size)
  generalize hAe : va_A (dW K q ua na fa one oth un nw fi mc fst cl) s.heap.size = A at hD ⊢
  have hA : ∀ q : Nat, s.heap.size ≤ q → A q := fun q h => by rw [← hAe]; exact Or.inr h
  have hS : va_S A s.heap s.heap [] := va_S.rf
  have hP : va_P D vwCl (dW K q ua na fa one oth un nw fi mc fst cl) s.heap := hP
  have hin0 : ∀ w ∈ u_ws RX0 TX0 8, w ∈ wsX0_impose := by decide +kernel
  have hl := lv_entry ([.ref q, .int p0, .int p1]) (n := 3) (Nat.le_of_ble_eq_true rfl)
  rw [lg_entry_eq]
  generalize (lg_sl ([.ref q, .int p0, .int p1]) ++ List.replicate (3 - (lg_sl ([.ref q, .int p0, .int p1])).length) Slot.unset).toArray = ls at hl ⊢
  have hl : lv_has ls 3 [(0, .ref q), (1, .int p0), (2, .int p1)] := hl
  refine lv_iload_n hx hb dX0_impose_0 rfl (lv_at hl 1 rfl) ?_
  refine pu_SN (As := [.int p0]) (rest := []) hc (c_X2_isBidder l D K p0) ⟨va_cnB (own := RX0) (index := 39) (host := RX2) 1 hts gX0_impose_X2_isBidder_n39 rfl rfl rfl hE.2.1 (hts (.initialized RX2) (by decide +kernel)) (by decide +kernel) ⟨Nat.le_of_ble_eq_true rfl, Nat.le_of_ble_eq_true rfl⟩, (hts (.static yX2_isBidder) (by decide +kernel)), trivial⟩ trivial hK hE rfl rfl hl.1 (Nat.le_of_ble_eq_true rfl) dX0_impose_1 ⟨Nat.le_of_ble_eq_true rfl, Nat.le_of_ble_eq_true rfl⟩ ?_
  refine lb_eq (tgt := 14) hx hb dX0_impose_4 (by decide) (fun c_4 => ?_) (fun c_4 => ?_)
  · skip
    exact absurd hb7 (ntr c_4)
  · skip
    refine lv_aload_n hx hb dX0_impose_7 rfl (lv_at hl 0 rfl) ?_
    refine va_get (D := D) (ci := 0) (v := .ref fa) (C := RX0) (T := TX0) (N := 8) hx hb hts hin0 hown hK hP 0 rfl rfl 4 (by decide) (hts (.fieldLink RX0 19 "CartelWatch$Dossier" "fines" "[I") (by decide +kernel)) (fun _ h9 => h9) rfl dX0_impose_8 ?_
    refine lv_iload_n hx hb dX0_impose_11 rfl (lv_at hl 1 rfl) ?_
    refine lv_iload_n hx hb dX0_impose_12 rfl (lv_at hl 2 rfl) ?_
    refine va_iast hx hb hK hP hD hS 3 0 (cA := K 0) rfl rfl (in7 hb7) dX0_impose_13 (fun H locs hP hD hS => ?_)
    have hP : va_P D vwCl [(q, .inr (0, [.int one, .int oth, .ref ua, .ref na, .ref fa, .int mc, .int fst, .int cl])), (ua, .inl (K 1, 30, .inl un)), (na, .inl (K 0, 7, .inl nw)), (fa, .inl (K 0, 7, .inl (upd fi p0.toNatClampNeg p1)))] H := hP
    have hD : va_D A [(q, .inr (0, [.int one, .int oth, .ref ua, .ref na, .ref fa, .int mc, .int fst, .int cl])), (ua, .inl (K 1, 30, .inl un)), (na, .inl (K 0, 7, .inl nw)), (fa, .inl (K 0, 7, .inl (upd fi p0.toNatClampNeg p1)))] := hD
    have hPe : va_P D vwCl [(q, .inr (0, [.int one, .int oth, .ref ua, .ref na, .ref fa, .int mc, .int fst, .int cl])), (ua, .inl (K 1, 30, .inl un)), (na, .inl (K 0, 7, .inl nw)), (fa, .inl (K 0, 7, .inl (upd fi p0.toNatClampNeg p1)))] H := hP
    have hDe : va_D A [(q, .inr (0, [.int one, .int oth, .ref ua, .ref na, .ref fa, .int mc, .int fst, .int cl])), (ua, .inl (K 1, 30, .inl un)), (na, .inl (K 0, 7, .inl nw)), (fa, .inl (K 0, 7, .inl (upd fi p0.toNatClampNeg p1)))] := hD
    exact W.vret hx hb hr (fun t ht hW => ⟨⟨(), rfl, trivial, by dsimp only; rw [ht]; exact ⟨hPe, hDe⟩⟩, hS.F ht⟩) hS.2.2 dX0_impose_14

set_option maxHeartbeats 4000000 in
set_option maxRecDepth 100000 in
theorem c_X0_addMatter (l : Launch) (D : va_G) (K : Nat → ClassId) (sz : Nat) (q ua na fa : Nat) (one oth : Int32) (un nw fi : Nat → Int32) (mc fst cl p0 : Int32) (ht : vp_in p0 30) : EFv l yX0_addMatter wsX0_addMatter 0 0 D K [.ref q, .int p0] sz (dW K q ua na fa one oth un nw fi mc fst cl) (dW K q ua na fa one oth (upd un p0.toNatClampNeg 1) nw fi (mc + 1) fst cl) := by
  refine Met.ofW (cc := cX0_addMatter) (maxL := 2) (ret := none) (by decide) rfl ?_
  intro p e s m args below meth c s₁ B hml hv
  obtain ⟨rfl, hsz, hD0, hP, hK, hE⟩ := hv
  have hx := B.exec
  have hb := B.bytes
  have hr := B.returns
  have hts := atoms_spec (ws := wsX0_addMatter) B.pre
  have hown : s.vm.findClass RX0 = some m.cls := findClass_of_methodNamed B.named
  have hlocks := B.notSynchronized
  have hc : CallFix p m c cX0_addMatter 2 s ([.ref q, .int p0] : List Value).toArray wsX0_addMatter RX0 := ⟨hx, hb, hml, hown, hts⟩
  subst hsz
  have hD := hD0.self (sz := s.heap.size)
  generalize hAe : va_A (dW K q ua na fa one oth un nw fi mc fst cl) s.heap.size = A at hD ⊢
  have hA : ∀ q : Nat, s.heap.size ≤ q → A q := fun q h => by rw [← hAe]; exact Or.inr h
  have hS : va_S A s.heap s.heap [] := va_S.rf
  have hP : va_P D vwCl (dW K q ua na fa one oth un nw fi mc fst cl) s.heap := hP
  have hin0 : ∀ w ∈ u_ws RX0 TX0 8, w ∈ wsX0_addMatter := by decide +kernel
  have hl := lv_entry ([.ref q, .int p0]) (n := 2) (Nat.le_of_ble_eq_true rfl)
  rw [lg_entry_eq]
  generalize (lg_sl ([.ref q, .int p0]) ++ List.replicate (2 - (lg_sl ([.ref q, .int p0])).length) Slot.unset).toArray = ls at hl ⊢
  have hl : lv_has ls 2 [(0, .ref q), (1, .int p0)] := hl
  refine lv_iload_n hx hb dX0_addMatter_0 rfl (lv_at hl 1 rfl) ?_
  refine lv_if_lt (tgt := 30) hx hb dX0_addMatter_1 (by decide) (fun c_1 => ?_) (fun c_1 => ?_)
  · skip
    exact absurd c_1 (vin_nn ht)
  · skip
    refine lv_iload_n hx hb dX0_addMatter_4 rfl (lv_at hl 1 rfl) ?_
    refine lv_aload_n hx hb dX0_addMatter_5 rfl (lv_at hl 0 rfl) ?_
    refine va_get (D := D) (ci := 0) (v := .ref ua) (C := RX0) (T := TX0) (N := 8) hx hb hts hin0 hown hK hP 0 rfl rfl 2 (by decide) (hts (.fieldLink RX0 9 "CartelWatch$Dossier" "untold" "[Z") (by decide +kernel)) (fun _ h9 => h9) rfl dX0_addMatter_6 ?_
    refine va_alen (v := 30) hx hb hK hP 1 1 rfl rfl rfl dX0_addMatter_9 ?_
    refine lv_icmp_ge (tgt := 30) hx hb dX0_addMatter_10 (by decide) (fun c_10 => ?_) (fun c_10 => ?_)
    · skip
      exact absurd c_10 (vin_ge ht (by decide) rfl)
    · skip
      refine lv_aload_n hx hb dX0_addMatter_13 rfl (lv_at hl 0 rfl) ?_
      refine va_get (D := D) (ci := 0) (v := .ref ua) (C := RX0) (T := TX0) (N := 8) hx hb hts hin0 hown hK hP 0 rfl rfl 2 (by decide) (hts (.fieldLink RX0 9 "CartelWatch$Dossier" "untold" "[Z") (by decide +kernel)) (fun _ h9 => h9) rfl dX0_addMatter_14 ?_
      refine lv_iload_n hx hb dX0_addMatter_17 rfl (lv_at hl 1 rfl) ?_
      refine lv_iconst (v := 1) hx hb dX0_addMatter_18 (by decide) ?_
      refine va_zast hx hb hK hP hD hS 1 1 (cA := K 1) rfl rfl (ht) dX0_addMatter_19 (fun H locs hP hD hS => ?_)
      have hP : va_P D vwCl [(q, .inr (0, [.int one, .int oth, .ref ua, .ref na, .ref fa, .int mc, .int fst, .int cl])), (ua, .inl (K 1, 30, .inl (upd un p0.toNatClampNeg 1))), (na, .inl (K 0, 7, .inl nw)), (fa, .inl (K 0, 7, .inl fi))] H := hP
      have hD : va_D A [(q, .inr (0, [.int one, .int oth, .ref ua, .ref na, .ref fa, .int mc, .int fst, .int cl])), (ua, .inl (K 1, 30, .inl (upd un p0.toNatClampNeg 1))), (na, .inl (K 0, 7, .inl nw)), (fa, .inl (K 0, 7, .inl fi))] := hD
      refine lv_aload_n hx hb dX0_addMatter_20 rfl (lv_at hl 0 rfl) ?_
      refine lv_dup hx hb dX0_addMatter_21 rfl ?_
      refine va_get (D := D) (ci := 0) (v := .int mc) (C := RX0) (T := TX0) (N := 8) hx hb hts hin0 hown hK hP 0 rfl rfl 5 (by decide) (hts (.fieldLink RX0 22 "CartelWatch$Dossier" "matterCount" "I") (by decide +kernel)) (fun _ h9 => h9) rfl dX0_addMatter_22 ?_
      refine lv_iconst (v := 1) hx hb dX0_addMatter_25 (by decide) ?_
      refine lv_iadd hx hb dX0_addMatter_26 ?_
      refine va_put (D := D) (ci := 0) (v := .int (mc + 1)) (ty := .int) (C := RX0) (T := TX0) (N := 8) hx hb hts hin0 tyX0 tyX0_ok nmX0 hown hK hP hD hS 0 rfl rfl 5 (by decide) (hts (.fieldLink RX0 22 "CartelWatch$Dossier" "matterCount" "I") (by decide +kernel)) (fun _ h9 => h9) rfl (by decide +kernel) rfl rfl (Nat.le_of_ble_eq_true rfl) dX0_addMatter_27 (fun H locs hP hD hS => ?_)
      have hP : va_P D vwCl [(q, .inr (0, [.int one, .int oth, .ref ua, .ref na, .ref fa, .int (mc + 1), .int fst, .int cl])), (ua, .inl (K 1, 30, .inl (upd un p0.toNatClampNeg 1))), (na, .inl (K 0, 7, .inl nw)), (fa, .inl (K 0, 7, .inl fi))] H := hP
      have hD : va_D A [(q, .inr (0, [.int one, .int oth, .ref ua, .ref na, .ref fa, .int (mc + 1), .int fst, .int cl])), (ua, .inl (K 1, 30, .inl (upd un p0.toNatClampNeg 1))), (na, .inl (K 0, 7, .inl nw)), (fa, .inl (K 0, 7, .inl fi))] := hD
      have hPe : va_P D vwCl [(q, .inr (0, [.int one, .int oth, .ref ua, .ref na, .ref fa, .int (mc + 1), .int fst, .int cl])), (ua, .inl (K 1, 30, .inl (upd un p0.toNatClampNeg 1))), (na, .inl (K 0, 7, .inl nw)), (fa, .inl (K 0, 7, .inl fi))] H := hP
      have hDe : va_D A [(q, .inr (0, [.int one, .int oth, .ref ua, .ref na, .ref fa, .int (mc + 1), .int fst, .int cl])), (ua, .inl (K 1, 30, .inl (upd un p0.toNatClampNeg 1))), (na, .inl (K 0, 7, .inl nw)), (fa, .inl (K 0, 7, .inl fi))] := hD
      exact W.vret hx hb hr (fun t ht hW => ⟨⟨(), rfl, trivial, by dsimp only; rw [ht]; exact ⟨hPe, hDe⟩⟩, hS.F ht⟩) hS.2.2 dX0_addMatter_30

def sp_X0_hear (un : Nat → Int32) (nw : Nat → Int32) (fst : Int32) (p0 : Int32) (p1 : Int32) : Bool × (Nat → Int32) × (Nat → Int32) × Int32 := if (un p1.toNatClampNeg) = 0 then ((false, un, nw, fst)) else (if fst = (-1) then ((true, upd un p1.toNatClampNeg 0, upd nw p0.toNatClampNeg ((nw p0.toNatClampNeg) + 1), p0)) else ((true, upd un p1.toNatClampNeg 0, upd nw p0.toNatClampNeg ((nw p0.toNatClampNeg) + 1), fst)))
set_option maxHeartbeats 4000000 in
set_option maxRecDepth 100000 in
theorem c_X0_hear (l : Launch) (D : va_G) (K : Nat → ClassId) (sz : Nat) (q ua na fa : Nat) (one oth : Int32) (un nw fi : Nat → Int32) (mc fst cl p0 p1 : Int32) (hb7 : sp_X2_isBidder p0 = true) (ht : vp_in p1 30) : EFi l yX0_hear wsX0_hear 1 20 D K [.ref q, .int p0, .int p1] sz (dW K q ua na fa one oth un nw fi mc fst cl) (dW K q ua na fa one oth ((sp_X0_hear un nw fst p0 p1).2.1) ((sp_X0_hear un nw fst p0 p1).2.2.1) fi mc ((sp_X0_hear un nw fst p0 p1).2.2.2) cl) (bI (sp_X0_hear un nw fst p0 p1).1) := by
  refine Met.ofW (cc := cX0_hear) (maxL := 3) (ret := (some .boolean)) (by decide) rfl ?_
  intro p e s m args below meth c s₁ B hml hv
  obtain ⟨rfl, hsz, hD0, hP, hK, hE⟩ := hv
  have hx := B.exec
  have hb := B.bytes
  have hr := B.returns
  have hts := atoms_spec (ws := wsX0_hear) B.pre
  have hown : s.vm.findClass RX0 = some m.cls := findClass_of_methodNamed B.named
  have hlocks := B.notSynchronized
  have hc : CallFix p m c cX0_hear 3 s ([.ref q, .int p0, .int p1] : List Value).toArray wsX0_hear RX0 := ⟨hx, hb, hml, hown, hts⟩
  subst hsz
  have hD := hD0.self (sz := s.heap.size)
  generalize hAe : va_A (dW K q ua na fa one oth un nw fi mc fst cl) s.heap.size = A at hD ⊢
  have hA : ∀ q : Nat, s.heap.size ≤ q → A q := fun q h => by rw [← hAe]; exact Or.inr h
  have hS : va_S A s.heap s.heap [] := va_S.rf
  have hP : va_P D vwCl (dW K q ua na fa one oth un nw fi mc fst cl) s.heap := hP
  have hin0 : ∀ w ∈ u_ws RX0 TX0 8, w ∈ wsX0_hear := by decide +kernel
  have hl := lv_entry ([.ref q, .int p0, .int p1]) (n := 3) (Nat.le_of_ble_eq_true rfl)
  rw [lg_entry_eq]
  generalize (lg_sl ([.ref q, .int p0, .int p1]) ++ List.replicate (3 - (lg_sl ([.ref q, .int p0, .int p1])).length) Slot.unset).toArray = ls at hl ⊢
  have hl : lv_has ls 3 [(0, .ref q), (1, .int p0), (2, .int p1)] := hl
  refine lv_iload_n hx hb dX0_hear_0 rfl (lv_at hl 1 rfl) ?_
  refine pu_SN (As := [.int p0]) (rest := []) hc (c_X2_isBidder l D K p0) ⟨va_cnB (own := RX0) (index := 39) (host := RX2) 1 hts gX0_hear_X2_isBidder_n39 rfl rfl rfl hE.2.1 (hts (.initialized RX2) (by decide +kernel)) (by decide +kernel) ⟨Nat.le_of_ble_eq_true rfl, Nat.le_of_ble_eq_true rfl⟩, (hts (.static yX2_isBidder) (by decide +kernel)), trivial⟩ trivial hK hE rfl rfl hl.1 (Nat.le_of_ble_eq_true rfl) dX0_hear_1 ⟨Nat.le_of_ble_eq_true rfl, Nat.le_of_ble_eq_true rfl⟩ ?_
  refine lb_eq (tgt := 29) hx hb dX0_hear_4 (by decide) (fun c_4 => ?_) (fun c_4 => ?_)
  · skip
    exact absurd hb7 (ntr c_4)
  · skip
    refine lv_iload_n hx hb dX0_hear_7 rfl (lv_at hl 2 rfl) ?_
    refine lv_if_lt (tgt := 29) hx hb dX0_hear_8 (by decide) (fun c_8 => ?_) (fun c_8 => ?_)
    · skip
      exact absurd c_8 (vin_nn ht)
    · skip
      refine lv_iload_n hx hb dX0_hear_11 rfl (lv_at hl 2 rfl) ?_
      refine lv_aload_n hx hb dX0_hear_12 rfl (lv_at hl 0 rfl) ?_
      refine va_get (D := D) (ci := 0) (v := .ref ua) (C := RX0) (T := TX0) (N := 8) hx hb hts hin0 hown hK hP 0 rfl rfl 2 (by decide) (hts (.fieldLink RX0 9 "CartelWatch$Dossier" "untold" "[Z") (by decide +kernel)) (fun _ h9 => h9) rfl dX0_hear_13 ?_
      refine va_alen (v := 30) hx hb hK hP 1 1 rfl rfl rfl dX0_hear_16 ?_
      refine lv_icmp_ge (tgt := 29) hx hb dX0_hear_17 (by decide) (fun c_17 => ?_) (fun c_17 => ?_)
      · skip
        exact absurd c_17 (vin_ge ht (by decide) rfl)
      · skip
        refine lv_aload_n hx hb dX0_hear_20 rfl (lv_at hl 0 rfl) ?_
        refine va_get (D := D) (ci := 0) (v := .ref ua) (C := RX0) (T := TX0) (N := 8) hx hb hts hin0 hown hK hP 0 rfl rfl 2 (by decide) (hts (.fieldLink RX0 9 "CartelWatch$Dossier" "untold" "[Z") (by decide +kernel)) (fun _ h9 => h9) rfl dX0_hear_21 ?_
        refine lv_iload_n hx hb dX0_hear_24 rfl (lv_at hl 2 rfl) ?_
        refine va_zald hx hb hK hP 1 1 (cA := K 1) rfl rfl (ht) dX0_hear_25 ?_
        refine lv_if_ne (tgt := 31) hx hb dX0_hear_26 (by decide) (fun c_26 => ?_) (fun c_26 => ?_)
        · skip
          refine lv_aload_n hx hb dX0_hear_31 rfl (lv_at hl 0 rfl) ?_
          refine va_get (D := D) (ci := 0) (v := .ref ua) (C := RX0) (T := TX0) (N := 8) hx hb hts hin0 hown hK hP 0 rfl rfl 2 (by decide) (hts (.fieldLink RX0 9 "CartelWatch$Dossier" "untold" "[Z") (by decide +kernel)) (fun _ h9 => h9) rfl dX0_hear_32 ?_
          refine lv_iload_n hx hb dX0_hear_35 rfl (lv_at hl 2 rfl) ?_
          refine lv_iconst (v := 0) hx hb dX0_hear_36 (by decide) ?_
          refine va_zast hx hb hK hP hD hS 1 1 (cA := K 1) rfl rfl (ht) dX0_hear_37 (fun H locs hP hD hS => ?_)
          have hP : va_P D vwCl [(q, .inr (0, [.int one, .int oth, .ref ua, .ref na, .ref fa, .int mc, .int fst, .int cl])), (ua, .inl (K 1, 30, .inl (upd un p1.toNatClampNeg 0))), (na, .inl (K 0, 7, .inl nw)), (fa, .inl (K 0, 7, .inl fi))] H := hP
          have hD : va_D A [(q, .inr (0, [.int one, .int oth, .ref ua, .ref na, .ref fa, .int mc, .int fst, .int cl])), (ua, .inl (K 1, 30, .inl (upd un p1.toNatClampNeg 0))), (na, .inl (K 0, 7, .inl nw)), (fa, .inl (K 0, 7, .inl fi))] := hD
          refine lv_aload_n hx hb dX0_hear_38 rfl (lv_at hl 0 rfl) ?_
          refine va_get (D := D) (ci := 0) (v := .ref na) (C := RX0) (T := TX0) (N := 8) hx hb hts hin0 hown hK hP 0 rfl rfl 3 (by decide) (hts (.fieldLink RX0 15 "CartelWatch$Dossier" "newTellings" "[I") (by decide +kernel)) (fun _ h9 => h9) rfl dX0_hear_39 ?_
          refine lv_iload_n hx hb dX0_hear_42 rfl (lv_at hl 1 rfl) ?_
          refine lv_dup2_11 hx hb dX0_hear_43 rfl rfl ?_
          refine va_iald hx hb hK hP 2 0 (cA := K 0) rfl rfl (in7 hb7) dX0_hear_44 ?_
          refine lv_iconst (v := 1) hx hb dX0_hear_45 (by decide) ?_
          refine lv_iadd hx hb dX0_hear_46 ?_
          refine va_iast hx hb hK hP hD hS 2 0 (cA := K 0) rfl rfl (in7 hb7) dX0_hear_47 (fun H locs hP hD hS => ?_)
          have hP : va_P D vwCl [(q, .inr (0, [.int one, .int oth, .ref ua, .ref na, .ref fa, .int mc, .int fst, .int cl])), (ua, .inl (K 1, 30, .inl (upd un p1.toNatClampNeg 0))), (na, .inl (K 0, 7, .inl (upd nw p0.toNatClampNeg ((nw p0.toNatClampNeg) + 1)))), (fa, .inl (K 0, 7, .inl fi))] H := hP
          have hD : va_D A [(q, .inr (0, [.int one, .int oth, .ref ua, .ref na, .ref fa, .int mc, .int fst, .int cl])), (ua, .inl (K 1, 30, .inl (upd un p1.toNatClampNeg 0))), (na, .inl (K 0, 7, .inl (upd nw p0.toNatClampNeg ((nw p0.toNatClampNeg) + 1)))), (fa, .inl (K 0, 7, .inl fi))] := hD
          refine lv_aload_n hx hb dX0_hear_48 rfl (lv_at hl 0 rfl) ?_
          refine va_get (D := D) (ci := 0) (v := .int fst) (C := RX0) (T := TX0) (N := 8) hx hb hts hin0 hown hK hP 0 rfl rfl 6 (by decide) (hts (.fieldLink RX0 26 "CartelWatch$Dossier" "first" "I") (by decide +kernel)) (fun _ h9 => h9) rfl dX0_hear_49 ?_
          refine lv_iconst (v := -1) hx hb dX0_hear_52 (by decide) ?_
          refine lv_icmp_ne (tgt := 61) hx hb dX0_hear_53 (by decide) (fun c_53 => ?_) (fun c_53 => ?_)
          · skip
            refine lv_iconst (v := 1) hx hb dX0_hear_61 (by decide) ?_
            have hPe : va_P D vwCl [(q, .inr (0, [.int one, .int oth, .ref ua, .ref na, .ref fa, .int mc, .int fst, .int cl])), (ua, .inl (K 1, 30, .inl (upd un p1.toNatClampNeg 0))), (na, .inl (K 0, 7, .inl (upd nw p0.toNatClampNeg ((nw p0.toNatClampNeg) + 1)))), (fa, .inl (K 0, 7, .inl fi))] H := hP
            have hDe : va_D A [(q, .inr (0, [.int one, .int oth, .ref ua, .ref na, .ref fa, .int mc, .int fst, .int cl])), (ua, .inl (K 1, 30, .inl (upd un p1.toNatClampNeg 0))), (na, .inl (K 0, 7, .inl (upd nw p0.toNatClampNeg ((nw p0.toNatClampNeg) + 1)))), (fa, .inl (K 0, 7, .inl fi))] := hD
            have hsp : sp_X0_hear un nw fst p0 p1 = (true, upd un p1.toNatClampNeg 0, upd nw p0.toNatClampNeg ((nw p0.toNatClampNeg) + 1), fst) := Eq.trans (if_neg c_26) (Eq.trans (if_neg c_53) (rfl))
            exact W.zret (v := bI true) hx hb hr (bI_nar true) (fun t ht hW => ⟨⟨_, (), rfl, by rw [hsp], by dsimp only; rw [ht, hsp]; exact ⟨hPe, hDe⟩⟩, hS.F ht⟩) hS.2.2 dX0_hear_62
          · skip
            refine lv_aload_n hx hb dX0_hear_56 rfl (lv_at hl 0 rfl) ?_
            refine lv_iload_n hx hb dX0_hear_57 rfl (lv_at hl 1 rfl) ?_
            refine va_put (D := D) (ci := 0) (v := .int p0) (ty := .int) (C := RX0) (T := TX0) (N := 8) hx hb hts hin0 tyX0 tyX0_ok nmX0 hown hK hP hD hS 0 rfl rfl 6 (by decide) (hts (.fieldLink RX0 26 "CartelWatch$Dossier" "first" "I") (by decide +kernel)) (fun _ h9 => h9) rfl (by decide +kernel) rfl rfl (Nat.le_of_ble_eq_true rfl) dX0_hear_58 (fun H locs hP hD hS => ?_)
            have hP : va_P D vwCl [(q, .inr (0, [.int one, .int oth, .ref ua, .ref na, .ref fa, .int mc, .int p0, .int cl])), (ua, .inl (K 1, 30, .inl (upd un p1.toNatClampNeg 0))), (na, .inl (K 0, 7, .inl (upd nw p0.toNatClampNeg ((nw p0.toNatClampNeg) + 1)))), (fa, .inl (K 0, 7, .inl fi))] H := hP
            have hD : va_D A [(q, .inr (0, [.int one, .int oth, .ref ua, .ref na, .ref fa, .int mc, .int p0, .int cl])), (ua, .inl (K 1, 30, .inl (upd un p1.toNatClampNeg 0))), (na, .inl (K 0, 7, .inl (upd nw p0.toNatClampNeg ((nw p0.toNatClampNeg) + 1)))), (fa, .inl (K 0, 7, .inl fi))] := hD
            refine lv_iconst (v := 1) hx hb dX0_hear_61 (by decide) ?_
            have hPe : va_P D vwCl [(q, .inr (0, [.int one, .int oth, .ref ua, .ref na, .ref fa, .int mc, .int p0, .int cl])), (ua, .inl (K 1, 30, .inl (upd un p1.toNatClampNeg 0))), (na, .inl (K 0, 7, .inl (upd nw p0.toNatClampNeg ((nw p0.toNatClampNeg) + 1)))), (fa, .inl (K 0, 7, .inl fi))] H := hP
            have hDe : va_D A [(q, .inr (0, [.int one, .int oth, .ref ua, .ref na, .ref fa, .int mc, .int p0, .int cl])), (ua, .inl (K 1, 30, .inl (upd un p1.toNatClampNeg 0))), (na, .inl (K 0, 7, .inl (upd nw p0.toNatClampNeg ((nw p0.toNatClampNeg) + 1)))), (fa, .inl (K 0, 7, .inl fi))] := hD
            have hsp : sp_X0_hear un nw fst p0 p1 = (true, upd un p1.toNatClampNeg 0, upd nw p0.toNatClampNeg ((nw p0.toNatClampNeg) + 1), p0) := Eq.trans (if_neg c_26) (Eq.trans (if_pos c_53) (rfl))
            exact W.zret (v := bI true) hx hb hr (bI_nar true) (fun t ht hW => ⟨⟨_, (), rfl, by rw [hsp], by dsimp only; rw [ht, hsp]; exact ⟨hPe, hDe⟩⟩, hS.F ht⟩) hS.2.2 dX0_hear_62
        · skip
          refine lv_iconst (v := 0) hx hb dX0_hear_29 (by decide) ?_
          have hPe : va_P D vwCl [(q, .inr (0, [.int one, .int oth, .ref ua, .ref na, .ref fa, .int mc, .int fst, .int cl])), (ua, .inl (K 1, 30, .inl un)), (na, .inl (K 0, 7, .inl nw)), (fa, .inl (K 0, 7, .inl fi))] s.heap := hP
          have hDe : va_D A [(q, .inr (0, [.int one, .int oth, .ref ua, .ref na, .ref fa, .int mc, .int fst, .int cl])), (ua, .inl (K 1, 30, .inl un)), (na, .inl (K 0, 7, .inl nw)), (fa, .inl (K 0, 7, .inl fi))] := hD
          have hsp : sp_X0_hear un nw fst p0 p1 = (false, un, nw, fst) := Eq.trans (if_pos c_26) (rfl)
          exact W.zret (v := bI false) hx hb hr (bI_nar false) (fun t ht hW => ⟨⟨_, (), rfl, by rw [hsp], by dsimp only; rw [ht, hsp]; exact ⟨hPe, hDe⟩⟩, hS.F ht⟩) hS.2.2 dX0_hear_30

set_option maxHeartbeats 4000000 in
set_option maxRecDepth 100000 in
theorem c_X1_init (l : Launch) (D : va_G) (K : Nat → ClassId) (sz : Nat) (q : Nat) : EFn l yX1_init wsX1_init 1 40 2 14 D K [.ref q] sz ([(q, .inr (1, [.null, .null, .int 0, .int 0, .int 0, .int 0]))]) (fun H => ∃ q7 q15 : Nat, va_P D vwCl (tW K q q7 q15 (fun _ => 0) (fun _ => 0) 0 (-1) (-1) 0) H ∧ va_D (va_A ([(q, .inr (1, [.null, .null, .int 0, .int 0, .int 0, .int 0]))]) sz) (tW K q q7 q15 (fun _ => 0) (fun _ => 0) 0 (-1) (-1) 0)) := by
  refine Met.ofW (cc := cX1_init) (maxL := 1) (ret := none) (by decide) rfl ?_
  intro p e s m args below meth c s₁ B hml hv
  obtain ⟨rfl, hsz, hD0, hP, hK, hE⟩ := hv
  have hx := B.exec
  have hb := B.bytes
  have hr := B.returns
  have hts := atoms_spec (ws := wsX1_init) B.pre
  have hown : s.vm.findClass RX1 = some m.cls := findClass_of_methodNamed B.named
  have hlocks := B.notSynchronized
  have hini : meth.name = "<init>" := (name_of_methodNamed B.named B.method).1
  subst hsz
  have hD := hD0.self (sz := s.heap.size)
  generalize hAe : va_A ([(q, .inr (1, [.null, .null, .int 0, .int 0, .int 0, .int 0]))]) s.heap.size = A at hD ⊢
  have hA : ∀ q : Nat, s.heap.size ≤ q → A q := fun q h => by rw [← hAe]; exact Or.inr h
  have hS : va_S A s.heap s.heap [] := va_S.rf
  have hP : va_P D vwCl ([(q, .inr (1, [.null, .null, .int 0, .int 0, .int 0, .int 0]))]) s.heap := hP
  have hin1 : ∀ w ∈ u_ws RX1 TX1 6, w ∈ wsX1_init := by decide +kernel
  have hl := lv_entry ([.ref q]) (n := 1) (Nat.le_of_ble_eq_true rfl)
  rw [lg_entry_eq]
  generalize (lg_sl ([.ref q]) ++ List.replicate (1 - (lg_sl ([.ref q])).length) Slot.unset).toArray = ls at hl ⊢
  have hl : lv_has ls 1 [(0, .ref q)] := hl
  refine lv_aload_n hx hb dX1_init_0 rfl (lv_at hl 0 rfl) ?_
  refine W.objInit hx hb hown (hts (.methodLink RX1 3 objectInit) (by decide +kernel)) (hts (.instanceMethod objectInit) (by decide +kernel)) (hts (.code objectInit ⟨#[0xb1]⟩ 1 none) (by decide +kernel)) rfl (by rw [hml]; exact hl.1) rfl dX1_init_1 (Nat.le_of_ble_eq_true rfl) (Nat.le_of_ble_eq_true rfl) ?_
  refine W.eq (g2 := F0 m 4 ls []) rfl ?_
  refine lv_aload_n hx hb dX1_init_4 rfl (lv_at hl 0 rfl) ?_
  refine lv_bipush (v := 7) hx hb dX1_init_5 (by decide) ?_
  refine va_newa (atype := .int) (a0 := (7, .inl (fun _ => 0))) hx hb (hts (.arrayClass .int) (by decide +kernel)) rfl hK hP hD hS hA (fun cA => rfl) (by decide) (by decide) (by decide) (Nat.le_of_ble_eq_true rfl) (Nat.le_of_ble_eq_true rfl) dX1_init_7 (fun q7 c7 H hK9 hP hD hS => ?_)
  have e7 : c7 = K 0 := va_K_uniq hK9 (i := 4) (j := 0) rfl rfl
  subst e7
  have hP : va_P D vwCl [(q, .inr (1, [.null, .null, .int 0, .int 0, .int 0, .int 0])), (q7, .inl (K 0, 7, .inl (fun _ => 0)))] H := hP
  have hD : va_D A [(q, .inr (1, [.null, .null, .int 0, .int 0, .int 0, .int 0])), (q7, .inl (K 0, 7, .inl (fun _ => 0)))] := hD
  refine va_putF (D := D) (ci := 1) (v := .ref q7) (ty := .array .int) (C := RX1) (T := TX1) (N := 6) hx hb hts hin1 tyX1 tyX1_ok nmX1 hown hK hP hD hS 0 rfl rfl 0 (by decide) (hts (.fieldLink RX1 9 "CartelWatch$Tender" "sums" "[I") (by decide +kernel)) (fun _ h9 => h9) rfl hini rfl (by decide +kernel) rfl rfl (Nat.le_of_ble_eq_true rfl) dX1_init_9 (fun H locs hP hD hS => ?_)
  have hP : va_P D vwCl [(q, .inr (1, [.ref q7, .null, .int 0, .int 0, .int 0, .int 0])), (q7, .inl (K 0, 7, .inl (fun _ => 0)))] H := hP
  have hD : va_D A [(q, .inr (1, [.ref q7, .null, .int 0, .int 0, .int 0, .int 0])), (q7, .inl (K 0, 7, .inl (fun _ => 0)))] := hD
  refine lv_aload_n hx hb dX1_init_12 rfl (lv_at hl 0 rfl) ?_
  refine lv_bipush (v := 7) hx hb dX1_init_13 (by decide) ?_
  refine va_newa (atype := .boolean) (a0 := (7, .inl (fun _ => 0))) hx hb (hts (.arrayClass .boolean) (by decide +kernel)) rfl hK hP hD hS hA (fun cA => rfl) (by decide) (by decide) (by decide) (Nat.le_of_ble_eq_true rfl) (Nat.le_of_ble_eq_true rfl) dX1_init_15 (fun q15 c15 H hK9 hP hD hS => ?_)
  have e15 : c15 = K 1 := va_K_uniq hK9 (i := 4) (j := 1) rfl rfl
  subst e15
  have hP : va_P D vwCl [(q, .inr (1, [.ref q7, .null, .int 0, .int 0, .int 0, .int 0])), (q7, .inl (K 0, 7, .inl (fun _ => 0))), (q15, .inl (K 1, 7, .inl (fun _ => 0)))] H := hP
  have hD : va_D A [(q, .inr (1, [.ref q7, .null, .int 0, .int 0, .int 0, .int 0])), (q7, .inl (K 0, 7, .inl (fun _ => 0))), (q15, .inl (K 1, 7, .inl (fun _ => 0)))] := hD
  refine va_putF (D := D) (ci := 1) (v := .ref q15) (ty := .array .boolean) (C := RX1) (T := TX1) (N := 6) hx hb hts hin1 tyX1 tyX1_ok nmX1 hown hK hP hD hS 0 rfl rfl 1 (by decide) (hts (.fieldLink RX1 15 "CartelWatch$Tender" "withdrawn" "[Z") (by decide +kernel)) (fun _ h9 => h9) rfl hini rfl (by decide +kernel) rfl rfl (Nat.le_of_ble_eq_true rfl) dX1_init_17 (fun H locs hP hD hS => ?_)
  have hP : va_P D vwCl [(q, .inr (1, [.ref q7, .ref q15, .int 0, .int 0, .int 0, .int 0])), (q7, .inl (K 0, 7, .inl (fun _ => 0))), (q15, .inl (K 1, 7, .inl (fun _ => 0)))] H := hP
  have hD : va_D A [(q, .inr (1, [.ref q7, .ref q15, .int 0, .int 0, .int 0, .int 0])), (q7, .inl (K 0, 7, .inl (fun _ => 0))), (q15, .inl (K 1, 7, .inl (fun _ => 0)))] := hD
  refine lv_aload_n hx hb dX1_init_20 rfl (lv_at hl 0 rfl) ?_
  refine lv_iconst (v := 0) hx hb dX1_init_21 (by decide) ?_
  refine va_put (D := D) (ci := 1) (v := .int 0) (ty := .boolean) (C := RX1) (T := TX1) (N := 6) hx hb hts hin1 tyX1 tyX1_ok nmX1 hown hK hP hD hS 0 rfl rfl 2 (by decide) (hts (.fieldLink RX1 19 "CartelWatch$Tender" "decided" "Z") (by decide +kernel)) (fun _ h9 => h9) rfl (by decide +kernel) rfl rfl (Nat.le_of_ble_eq_true rfl) dX1_init_22 (fun H locs hP hD hS => ?_)
  have hP : va_P D vwCl [(q, .inr (1, [.ref q7, .ref q15, .int 0, .int 0, .int 0, .int 0])), (q7, .inl (K 0, 7, .inl (fun _ => 0))), (q15, .inl (K 1, 7, .inl (fun _ => 0)))] H := hP
  have hD : va_D A [(q, .inr (1, [.ref q7, .ref q15, .int 0, .int 0, .int 0, .int 0])), (q7, .inl (K 0, 7, .inl (fun _ => 0))), (q15, .inl (K 1, 7, .inl (fun _ => 0)))] := hD
  refine lv_aload_n hx hb dX1_init_25 rfl (lv_at hl 0 rfl) ?_
  refine lv_iconst (v := -1) hx hb dX1_init_26 (by decide) ?_
  refine va_put (D := D) (ci := 1) (v := .int (-1)) (ty := .int) (C := RX1) (T := TX1) (N := 6) hx hb hts hin1 tyX1 tyX1_ok nmX1 hown hK hP hD hS 0 rfl rfl 3 (by decide) (hts (.fieldLink RX1 23 "CartelWatch$Tender" "winner" "I") (by decide +kernel)) (fun _ h9 => h9) rfl (by decide +kernel) rfl rfl (Nat.le_of_ble_eq_true rfl) dX1_init_27 (fun H locs hP hD hS => ?_)
  have hP : va_P D vwCl [(q, .inr (1, [.ref q7, .ref q15, .int 0, .int (-1), .int 0, .int 0])), (q7, .inl (K 0, 7, .inl (fun _ => 0))), (q15, .inl (K 1, 7, .inl (fun _ => 0)))] H := hP
  have hD : va_D A [(q, .inr (1, [.ref q7, .ref q15, .int 0, .int (-1), .int 0, .int 0])), (q7, .inl (K 0, 7, .inl (fun _ => 0))), (q15, .inl (K 1, 7, .inl (fun _ => 0)))] := hD
  refine lv_aload_n hx hb dX1_init_30 rfl (lv_at hl 0 rfl) ?_
  refine lv_iconst (v := -1) hx hb dX1_init_31 (by decide) ?_
  refine va_put (D := D) (ci := 1) (v := .int (-1)) (ty := .int) (C := RX1) (T := TX1) (N := 6) hx hb hts hin1 tyX1 tyX1_ok nmX1 hown hK hP hD hS 0 rfl rfl 4 (by decide) (hts (.fieldLink RX1 27 "CartelWatch$Tender" "partner" "I") (by decide +kernel)) (fun _ h9 => h9) rfl (by decide +kernel) rfl rfl (Nat.le_of_ble_eq_true rfl) dX1_init_32 (fun H locs hP hD hS => ?_)
  have hP : va_P D vwCl [(q, .inr (1, [.ref q7, .ref q15, .int 0, .int (-1), .int (-1), .int 0])), (q7, .inl (K 0, 7, .inl (fun _ => 0))), (q15, .inl (K 1, 7, .inl (fun _ => 0)))] H := hP
  have hD : va_D A [(q, .inr (1, [.ref q7, .ref q15, .int 0, .int (-1), .int (-1), .int 0])), (q7, .inl (K 0, 7, .inl (fun _ => 0))), (q15, .inl (K 1, 7, .inl (fun _ => 0)))] := hD
  refine lv_aload_n hx hb dX1_init_35 rfl (lv_at hl 0 rfl) ?_
  refine lv_iconst (v := 0) hx hb dX1_init_36 (by decide) ?_
  refine va_put (D := D) (ci := 1) (v := .int 0) (ty := .int) (C := RX1) (T := TX1) (N := 6) hx hb hts hin1 tyX1 tyX1_ok nmX1 hown hK hP hD hS 0 rfl rfl 5 (by decide) (hts (.fieldLink RX1 30 "CartelWatch$Tender" "partnersPart" "I") (by decide +kernel)) (fun _ h9 => h9) rfl (by decide +kernel) rfl rfl (Nat.le_of_ble_eq_true rfl) dX1_init_37 (fun H locs hP hD hS => ?_)
  have hP : va_P D vwCl [(q, .inr (1, [.ref q7, .ref q15, .int 0, .int (-1), .int (-1), .int 0])), (q7, .inl (K 0, 7, .inl (fun _ => 0))), (q15, .inl (K 1, 7, .inl (fun _ => 0)))] H := hP
  have hD : va_D A [(q, .inr (1, [.ref q7, .ref q15, .int 0, .int (-1), .int (-1), .int 0])), (q7, .inl (K 0, 7, .inl (fun _ => 0))), (q15, .inl (K 1, 7, .inl (fun _ => 0)))] := hD
  have hPe : va_P D vwCl [(q, .inr (1, [.ref q7, .ref q15, .int 0, .int (-1), .int (-1), .int 0])), (q7, .inl (K 0, 7, .inl (fun _ => 0))), (q15, .inl (K 1, 7, .inl (fun _ => 0)))] H := hP
  have hDe : va_D A [(q, .inr (1, [.ref q7, .ref q15, .int 0, .int (-1), .int (-1), .int 0])), (q7, .inl (K 0, 7, .inl (fun _ => 0))), (q15, .inl (K 1, 7, .inl (fun _ => 0)))] := hD
  refine W.widen (k := 2) (n := 14) (Nat.le_of_ble_eq_true rfl) (Nat.le_of_ble_eq_true rfl) ?_
  exact W.vret hx hb hr (fun t ht hW => ⟨⟨(), rfl, trivial, by dsimp only; rw [ht]; exact ⟨q7, q15, hPe, hDe⟩⟩, hS.F ht⟩) hS.2.2 dX1_init_40

set_option maxHeartbeats 4000000 in
set_option maxRecDepth 100000 in
theorem c_X0_init (l : Launch) (D : va_G) (K : Nat → ClassId) (sz : Nat) (q : Nat) (p0 p1 : Int32) : EFn l yX0_init wsX0_init 1 40 3 44 D K [.ref q, .int p0, .int p1] sz ([(q, .inr (0, [.int 0, .int 0, .null, .null, .null, .int 0, .int 0, .int 0]))]) (fun H => ∃ q7 q15 q23 : Nat, va_P D vwCl (dW K q q7 q15 q23 p0 p1 (fun _ => 0) (fun _ => 0) (fun _ => 0) 0 (-1) 0) H ∧ va_D (va_A ([(q, .inr (0, [.int 0, .int 0, .null, .null, .null, .int 0, .int 0, .int 0]))]) sz) (dW K q q7 q15 q23 p0 p1 (fun _ => 0) (fun _ => 0) (fun _ => 0) 0 (-1) 0)) := by
  refine Met.ofW (cc := cX0_init) (maxL := 3) (ret := none) (by decide) rfl ?_
  intro p e s m args below meth c s₁ B hml hv
  obtain ⟨rfl, hsz, hD0, hP, hK, hE⟩ := hv
  have hx := B.exec
  have hb := B.bytes
  have hr := B.returns
  have hts := atoms_spec (ws := wsX0_init) B.pre
  have hown : s.vm.findClass RX0 = some m.cls := findClass_of_methodNamed B.named
  have hlocks := B.notSynchronized
  have hini : meth.name = "<init>" := (name_of_methodNamed B.named B.method).1
  subst hsz
  have hD := hD0.self (sz := s.heap.size)
  generalize hAe : va_A ([(q, .inr (0, [.int 0, .int 0, .null, .null, .null, .int 0, .int 0, .int 0]))]) s.heap.size = A at hD ⊢
  have hA : ∀ q : Nat, s.heap.size ≤ q → A q := fun q h => by rw [← hAe]; exact Or.inr h
  have hS : va_S A s.heap s.heap [] := va_S.rf
  have hP : va_P D vwCl ([(q, .inr (0, [.int 0, .int 0, .null, .null, .null, .int 0, .int 0, .int 0]))]) s.heap := hP
  have hin0 : ∀ w ∈ u_ws RX0 TX0 8, w ∈ wsX0_init := by decide +kernel
  have hl := lv_entry ([.ref q, .int p0, .int p1]) (n := 3) (Nat.le_of_ble_eq_true rfl)
  rw [lg_entry_eq]
  generalize (lg_sl ([.ref q, .int p0, .int p1]) ++ List.replicate (3 - (lg_sl ([.ref q, .int p0, .int p1])).length) Slot.unset).toArray = ls at hl ⊢
  have hl : lv_has ls 3 [(0, .ref q), (1, .int p0), (2, .int p1)] := hl
  refine lv_aload_n hx hb dX0_init_0 rfl (lv_at hl 0 rfl) ?_
  refine W.objInit hx hb hown (hts (.methodLink RX0 3 objectInit) (by decide +kernel)) (hts (.instanceMethod objectInit) (by decide +kernel)) (hts (.code objectInit ⟨#[0xb1]⟩ 1 none) (by decide +kernel)) rfl (by rw [hml]; exact hl.1) rfl dX0_init_1 (Nat.le_of_ble_eq_true rfl) (Nat.le_of_ble_eq_true rfl) ?_
  refine W.eq (g2 := F0 m 4 ls []) rfl ?_
  refine lv_aload_n hx hb dX0_init_4 rfl (lv_at hl 0 rfl) ?_
  refine lv_bipush (v := 30) hx hb dX0_init_5 (by decide) ?_
  refine va_newa (atype := .boolean) (a0 := (30, .inl (fun _ => 0))) hx hb (hts (.arrayClass .boolean) (by decide +kernel)) rfl hK hP hD hS hA (fun cA => rfl) (by decide) (by decide) (by decide) (Nat.le_of_ble_eq_true rfl) (Nat.le_of_ble_eq_true rfl) dX0_init_7 (fun q7 c7 H hK9 hP hD hS => ?_)
  have e7 : c7 = K 1 := va_K_uniq hK9 (i := 4) (j := 1) rfl rfl
  subst e7
  have hP : va_P D vwCl [(q, .inr (0, [.int 0, .int 0, .null, .null, .null, .int 0, .int 0, .int 0])), (q7, .inl (K 1, 30, .inl (fun _ => 0)))] H := hP
  have hD : va_D A [(q, .inr (0, [.int 0, .int 0, .null, .null, .null, .int 0, .int 0, .int 0])), (q7, .inl (K 1, 30, .inl (fun _ => 0)))] := hD
  refine va_putF (D := D) (ci := 0) (v := .ref q7) (ty := .array .boolean) (C := RX0) (T := TX0) (N := 8) hx hb hts hin0 tyX0 tyX0_ok nmX0 hown hK hP hD hS 0 rfl rfl 2 (by decide) (hts (.fieldLink RX0 9 "CartelWatch$Dossier" "untold" "[Z") (by decide +kernel)) (fun _ h9 => h9) rfl hini rfl (by decide +kernel) rfl rfl (Nat.le_of_ble_eq_true rfl) dX0_init_9 (fun H locs hP hD hS => ?_)
  have hP : va_P D vwCl [(q, .inr (0, [.int 0, .int 0, .ref q7, .null, .null, .int 0, .int 0, .int 0])), (q7, .inl (K 1, 30, .inl (fun _ => 0)))] H := hP
  have hD : va_D A [(q, .inr (0, [.int 0, .int 0, .ref q7, .null, .null, .int 0, .int 0, .int 0])), (q7, .inl (K 1, 30, .inl (fun _ => 0)))] := hD
  refine lv_aload_n hx hb dX0_init_12 rfl (lv_at hl 0 rfl) ?_
  refine lv_bipush (v := 7) hx hb dX0_init_13 (by decide) ?_
  refine va_newa (atype := .int) (a0 := (7, .inl (fun _ => 0))) hx hb (hts (.arrayClass .int) (by decide +kernel)) rfl hK hP hD hS hA (fun cA => rfl) (by decide) (by decide) (by decide) (Nat.le_of_ble_eq_true rfl) (Nat.le_of_ble_eq_true rfl) dX0_init_15 (fun q15 c15 H hK9 hP hD hS => ?_)
  have e15 : c15 = K 0 := va_K_uniq hK9 (i := 4) (j := 0) rfl rfl
  subst e15
  have hP : va_P D vwCl [(q, .inr (0, [.int 0, .int 0, .ref q7, .null, .null, .int 0, .int 0, .int 0])), (q7, .inl (K 1, 30, .inl (fun _ => 0))), (q15, .inl (K 0, 7, .inl (fun _ => 0)))] H := hP
  have hD : va_D A [(q, .inr (0, [.int 0, .int 0, .ref q7, .null, .null, .int 0, .int 0, .int 0])), (q7, .inl (K 1, 30, .inl (fun _ => 0))), (q15, .inl (K 0, 7, .inl (fun _ => 0)))] := hD
  refine va_putF (D := D) (ci := 0) (v := .ref q15) (ty := .array .int) (C := RX0) (T := TX0) (N := 8) hx hb hts hin0 tyX0 tyX0_ok nmX0 hown hK hP hD hS 0 rfl rfl 3 (by decide) (hts (.fieldLink RX0 15 "CartelWatch$Dossier" "newTellings" "[I") (by decide +kernel)) (fun _ h9 => h9) rfl hini rfl (by decide +kernel) rfl rfl (Nat.le_of_ble_eq_true rfl) dX0_init_17 (fun H locs hP hD hS => ?_)
  have hP : va_P D vwCl [(q, .inr (0, [.int 0, .int 0, .ref q7, .ref q15, .null, .int 0, .int 0, .int 0])), (q7, .inl (K 1, 30, .inl (fun _ => 0))), (q15, .inl (K 0, 7, .inl (fun _ => 0)))] H := hP
  have hD : va_D A [(q, .inr (0, [.int 0, .int 0, .ref q7, .ref q15, .null, .int 0, .int 0, .int 0])), (q7, .inl (K 1, 30, .inl (fun _ => 0))), (q15, .inl (K 0, 7, .inl (fun _ => 0)))] := hD
  refine lv_aload_n hx hb dX0_init_20 rfl (lv_at hl 0 rfl) ?_
  refine lv_bipush (v := 7) hx hb dX0_init_21 (by decide) ?_
  refine va_newa (atype := .int) (a0 := (7, .inl (fun _ => 0))) hx hb (hts (.arrayClass .int) (by decide +kernel)) rfl hK hP hD hS hA (fun cA => rfl) (by decide) (by decide) (by decide) (Nat.le_of_ble_eq_true rfl) (Nat.le_of_ble_eq_true rfl) dX0_init_23 (fun q23 c23 H hK9 hP hD hS => ?_)
  have e23 : c23 = K 0 := va_K_uniq hK9 (i := 4) (j := 0) rfl rfl
  subst e23
  have hP : va_P D vwCl [(q, .inr (0, [.int 0, .int 0, .ref q7, .ref q15, .null, .int 0, .int 0, .int 0])), (q7, .inl (K 1, 30, .inl (fun _ => 0))), (q15, .inl (K 0, 7, .inl (fun _ => 0))), (q23, .inl (K 0, 7, .inl (fun _ => 0)))] H := hP
  have hD : va_D A [(q, .inr (0, [.int 0, .int 0, .ref q7, .ref q15, .null, .int 0, .int 0, .int 0])), (q7, .inl (K 1, 30, .inl (fun _ => 0))), (q15, .inl (K 0, 7, .inl (fun _ => 0))), (q23, .inl (K 0, 7, .inl (fun _ => 0)))] := hD
  refine va_putF (D := D) (ci := 0) (v := .ref q23) (ty := .array .int) (C := RX0) (T := TX0) (N := 8) hx hb hts hin0 tyX0 tyX0_ok nmX0 hown hK hP hD hS 0 rfl rfl 4 (by decide) (hts (.fieldLink RX0 19 "CartelWatch$Dossier" "fines" "[I") (by decide +kernel)) (fun _ h9 => h9) rfl hini rfl (by decide +kernel) rfl rfl (Nat.le_of_ble_eq_true rfl) dX0_init_25 (fun H locs hP hD hS => ?_)
  have hP : va_P D vwCl [(q, .inr (0, [.int 0, .int 0, .ref q7, .ref q15, .ref q23, .int 0, .int 0, .int 0])), (q7, .inl (K 1, 30, .inl (fun _ => 0))), (q15, .inl (K 0, 7, .inl (fun _ => 0))), (q23, .inl (K 0, 7, .inl (fun _ => 0)))] H := hP
  have hD : va_D A [(q, .inr (0, [.int 0, .int 0, .ref q7, .ref q15, .ref q23, .int 0, .int 0, .int 0])), (q7, .inl (K 1, 30, .inl (fun _ => 0))), (q15, .inl (K 0, 7, .inl (fun _ => 0))), (q23, .inl (K 0, 7, .inl (fun _ => 0)))] := hD
  refine lv_aload_n hx hb dX0_init_28 rfl (lv_at hl 0 rfl) ?_
  refine lv_iconst (v := 0) hx hb dX0_init_29 (by decide) ?_
  refine va_put (D := D) (ci := 0) (v := .int 0) (ty := .int) (C := RX0) (T := TX0) (N := 8) hx hb hts hin0 tyX0 tyX0_ok nmX0 hown hK hP hD hS 0 rfl rfl 5 (by decide) (hts (.fieldLink RX0 22 "CartelWatch$Dossier" "matterCount" "I") (by decide +kernel)) (fun _ h9 => h9) rfl (by decide +kernel) rfl rfl (Nat.le_of_ble_eq_true rfl) dX0_init_30 (fun H locs hP hD hS => ?_)
  have hP : va_P D vwCl [(q, .inr (0, [.int 0, .int 0, .ref q7, .ref q15, .ref q23, .int 0, .int 0, .int 0])), (q7, .inl (K 1, 30, .inl (fun _ => 0))), (q15, .inl (K 0, 7, .inl (fun _ => 0))), (q23, .inl (K 0, 7, .inl (fun _ => 0)))] H := hP
  have hD : va_D A [(q, .inr (0, [.int 0, .int 0, .ref q7, .ref q15, .ref q23, .int 0, .int 0, .int 0])), (q7, .inl (K 1, 30, .inl (fun _ => 0))), (q15, .inl (K 0, 7, .inl (fun _ => 0))), (q23, .inl (K 0, 7, .inl (fun _ => 0)))] := hD
  refine lv_aload_n hx hb dX0_init_33 rfl (lv_at hl 0 rfl) ?_
  refine lv_iconst (v := -1) hx hb dX0_init_34 (by decide) ?_
  refine va_put (D := D) (ci := 0) (v := .int (-1)) (ty := .int) (C := RX0) (T := TX0) (N := 8) hx hb hts hin0 tyX0 tyX0_ok nmX0 hown hK hP hD hS 0 rfl rfl 6 (by decide) (hts (.fieldLink RX0 26 "CartelWatch$Dossier" "first" "I") (by decide +kernel)) (fun _ h9 => h9) rfl (by decide +kernel) rfl rfl (Nat.le_of_ble_eq_true rfl) dX0_init_35 (fun H locs hP hD hS => ?_)
  have hP : va_P D vwCl [(q, .inr (0, [.int 0, .int 0, .ref q7, .ref q15, .ref q23, .int 0, .int (-1), .int 0])), (q7, .inl (K 1, 30, .inl (fun _ => 0))), (q15, .inl (K 0, 7, .inl (fun _ => 0))), (q23, .inl (K 0, 7, .inl (fun _ => 0)))] H := hP
  have hD : va_D A [(q, .inr (0, [.int 0, .int 0, .ref q7, .ref q15, .ref q23, .int 0, .int (-1), .int 0])), (q7, .inl (K 1, 30, .inl (fun _ => 0))), (q15, .inl (K 0, 7, .inl (fun _ => 0))), (q23, .inl (K 0, 7, .inl (fun _ => 0)))] := hD
  refine lv_aload_n hx hb dX0_init_38 rfl (lv_at hl 0 rfl) ?_
  refine lv_iconst (v := 0) hx hb dX0_init_39 (by decide) ?_
  refine va_put (D := D) (ci := 0) (v := .int 0) (ty := .boolean) (C := RX0) (T := TX0) (N := 8) hx hb hts hin0 tyX0 tyX0_ok nmX0 hown hK hP hD hS 0 rfl rfl 7 (by decide) (hts (.fieldLink RX0 29 "CartelWatch$Dossier" "closed" "Z") (by decide +kernel)) (fun _ h9 => h9) rfl (by decide +kernel) rfl rfl (Nat.le_of_ble_eq_true rfl) dX0_init_40 (fun H locs hP hD hS => ?_)
  have hP : va_P D vwCl [(q, .inr (0, [.int 0, .int 0, .ref q7, .ref q15, .ref q23, .int 0, .int (-1), .int 0])), (q7, .inl (K 1, 30, .inl (fun _ => 0))), (q15, .inl (K 0, 7, .inl (fun _ => 0))), (q23, .inl (K 0, 7, .inl (fun _ => 0)))] H := hP
  have hD : va_D A [(q, .inr (0, [.int 0, .int 0, .ref q7, .ref q15, .ref q23, .int 0, .int (-1), .int 0])), (q7, .inl (K 1, 30, .inl (fun _ => 0))), (q15, .inl (K 0, 7, .inl (fun _ => 0))), (q23, .inl (K 0, 7, .inl (fun _ => 0)))] := hD
  refine lv_aload_n hx hb dX0_init_43 rfl (lv_at hl 0 rfl) ?_
  refine lv_iload_n hx hb dX0_init_44 rfl (lv_at hl 1 rfl) ?_
  refine va_putF (D := D) (ci := 0) (v := .int p0) (ty := .int) (C := RX0) (T := TX0) (N := 8) hx hb hts hin0 tyX0 tyX0_ok nmX0 hown hK hP hD hS 0 rfl rfl 0 (by decide) (hts (.fieldLink RX0 33 "CartelWatch$Dossier" "one" "I") (by decide +kernel)) (fun _ h9 => h9) rfl hini rfl (by decide +kernel) rfl rfl (Nat.le_of_ble_eq_true rfl) dX0_init_45 (fun H locs hP hD hS => ?_)
  have hP : va_P D vwCl [(q, .inr (0, [.int p0, .int 0, .ref q7, .ref q15, .ref q23, .int 0, .int (-1), .int 0])), (q7, .inl (K 1, 30, .inl (fun _ => 0))), (q15, .inl (K 0, 7, .inl (fun _ => 0))), (q23, .inl (K 0, 7, .inl (fun _ => 0)))] H := hP
  have hD : va_D A [(q, .inr (0, [.int p0, .int 0, .ref q7, .ref q15, .ref q23, .int 0, .int (-1), .int 0])), (q7, .inl (K 1, 30, .inl (fun _ => 0))), (q15, .inl (K 0, 7, .inl (fun _ => 0))), (q23, .inl (K 0, 7, .inl (fun _ => 0)))] := hD
  refine lv_aload_n hx hb dX0_init_48 rfl (lv_at hl 0 rfl) ?_
  refine lv_iload_n hx hb dX0_init_49 rfl (lv_at hl 2 rfl) ?_
  refine va_putF (D := D) (ci := 0) (v := .int p1) (ty := .int) (C := RX0) (T := TX0) (N := 8) hx hb hts hin0 tyX0 tyX0_ok nmX0 hown hK hP hD hS 0 rfl rfl 1 (by decide) (hts (.fieldLink RX0 36 "CartelWatch$Dossier" "other" "I") (by decide +kernel)) (fun _ h9 => h9) rfl hini rfl (by decide +kernel) rfl rfl (Nat.le_of_ble_eq_true rfl) dX0_init_50 (fun H locs hP hD hS => ?_)
  have hP : va_P D vwCl [(q, .inr (0, [.int p0, .int p1, .ref q7, .ref q15, .ref q23, .int 0, .int (-1), .int 0])), (q7, .inl (K 1, 30, .inl (fun _ => 0))), (q15, .inl (K 0, 7, .inl (fun _ => 0))), (q23, .inl (K 0, 7, .inl (fun _ => 0)))] H := hP
  have hD : va_D A [(q, .inr (0, [.int p0, .int p1, .ref q7, .ref q15, .ref q23, .int 0, .int (-1), .int 0])), (q7, .inl (K 1, 30, .inl (fun _ => 0))), (q15, .inl (K 0, 7, .inl (fun _ => 0))), (q23, .inl (K 0, 7, .inl (fun _ => 0)))] := hD
  have hPe : va_P D vwCl [(q, .inr (0, [.int p0, .int p1, .ref q7, .ref q15, .ref q23, .int 0, .int (-1), .int 0])), (q7, .inl (K 1, 30, .inl (fun _ => 0))), (q15, .inl (K 0, 7, .inl (fun _ => 0))), (q23, .inl (K 0, 7, .inl (fun _ => 0)))] H := hP
  have hDe : va_D A [(q, .inr (0, [.int p0, .int p1, .ref q7, .ref q15, .ref q23, .int 0, .int (-1), .int 0])), (q7, .inl (K 1, 30, .inl (fun _ => 0))), (q15, .inl (K 0, 7, .inl (fun _ => 0))), (q23, .inl (K 0, 7, .inl (fun _ => 0)))] := hD
  refine W.widen (k := 3) (n := 44) (Nat.le_of_ble_eq_true rfl) (Nat.le_of_ble_eq_true rfl) ?_
  exact W.vret hx hb hr (fun t ht hW => ⟨⟨(), rfl, trivial, by dsimp only; rw [ht]; exact ⟨q7, q15, q23, hPe, hDe⟩⟩, hS.F ht⟩) hS.2.2 dX0_init_53
end
section
def tArr (ad : Nat → Nat → Nat) (n : Nat) : Nat → Option Nat := fun k => if k < n then some (ad 4 k) else none
def dArr (ad : Nat → Nat → Nat) (d : Nat) : Nat → Option Nat := fun k => if k < d then some (ad 7 k) else none
/-- the four cells of the watch itself; a tender's three; a file's four -/
abbrev xW (K : Nat → ClassId) (ad : Nat → Nat → Nat) (n d : Nat) (S : Nat → Nat → Nat → Int32) : va_W := [(ad 0 0, .inr (2, [.ref (ad 1 0), .int (nI n), .ref (ad 2 0), .int (nI d), .ref (ad 3 0), .int (S 16 0 0)])), (ad 1 0, .inl (K 3, 30, .inr (.inr (.inr (.inr (tArr ad n)))))), (ad 2 0, .inl (K 2, 20, .inr (.inr (.inr (.inr (dArr ad d)))))), (ad 3 0, .inl (K 0, 7, .inl (S 15 0)))]
abbrev xT (K : Nat → ClassId) (ad : Nat → Nat → Nat) (S : Nat → Nat → Nat → Int32) (k : Nat) : va_W := tW K (ad 4 k) (ad 5 k) (ad 6 k) (S 1 k) (S 2 k) (S 3 k 0) (S 4 k 0) (S 5 k 0) (S 6 k 0)
abbrev xD (K : Nat → ClassId) (ad : Nat → Nat → Nat) (S : Nat → Nat → Nat → Int32) (j : Nat) : va_W := dW K (ad 7 j) (ad 8 j) (ad 9 j) (ad 10 j) (S 7 j 0) (S 8 j 0) (S 9 j) (S 10 j) (S 11 j) (S 12 j 0) (S 13 j 0) (S 14 j 0)
def XP (D : va_G) (K : Nat → ClassId) (ad : Nat → Nat → Nat) (n d : Nat) (S : Nat → Nat → Nat → Int32) (H : Heap) : Prop := n ≤ 30 ∧ d ≤ 20 ∧ va_P D vwCl (xW K ad n d S) H ∧ (∀ k, k < n → va_P D vwCl (xT K ad S k) H) ∧ ∀ j, j < d → va_P D vwCl (xD K ad S j) H
def tIn (n : Nat) (x : Int32) : Bool := decide (0 ≤ x.toInt ∧ x.toInt < n)
theorem tIn_ex {n : Nat} {x : Int32} (h : tIn n x = true) (hn : n < 2 ^ 31) : ∃ k : Nat, k < n ∧ x = nI k := vp_in_of (vp_in_iff.mpr (of_decide_eq_true h)) hn
theorem tIn_lt {n : Nat} {x : Int32} (h : tIn n x = true) (hn : n < 2 ^ 31) : x.toNatClampNeg < n := by
  obtain ⟨k, hk, rfl⟩ := tIn_ex h hn
  rw [nI_clamp (by omega)]; exact hk
theorem tIn_eq {n : Nat} {x : Int32} (h : tIn n x = true) (hn : n < 2 ^ 31) : x = nI x.toNatClampNeg := by
  obtain ⟨k, hk, rfl⟩ := tIn_ex h hn
  rw [nI_clamp (by omega)]
theorem tIn_nI {n k : Nat} (hk : k < 2 ^ 31) : tIn n (nI k) = decide (k < n) := by
  unfold tIn
  rw [nI_toInt hk]
  exact decide_eq_decide.mpr ⟨fun h => by omega, fun h => by omega⟩
theorem tIn_no {n : Nat} {x : Int32} (h : tIn n x = false) (h0 : 0 ≤ x.toInt) : ¬ x.toNatClampNeg < n := fun q => by
  have := of_decide_eq_false h
  have e : (x.toNatClampNeg : Int) = x.toInt := by
    obtain ⟨j, hj, rfl⟩ := nI_of (x := x) (fun q => by have := Int32.lt_iff_toInt_lt.mp q; have h3 : (0 : Int32).toInt = 0 := by decide
                                                       omega)
    rw [nI_clamp hj, nI_toInt hj]
  omega
theorem arr_or {a : Nat → Nat} {n N : Nat} {x : Int32} (hx : vp_in x N) (hN : N < 2 ^ 31) : (tIn n x = true ∧ (if x.toNatClampNeg < n then some (a x.toNatClampNeg) else none) = some (a x.toNatClampNeg)) ∨ (tIn n x = false ∧ (if x.toNatClampNeg < n then some (a x.toNatClampNeg) else none) = none) := by
  obtain ⟨k, hk, rfl⟩ := vp_in_of hx hN
  rw [tIn_nI (by omega), nI_clamp (by omega)]
  by_cases h : k < n
  · exact Or.inl ⟨decide_eq_true h, if_pos h⟩
  · exact Or.inr ⟨decide_eq_false h, if_neg h⟩
theorem tArr_or {ad : Nat → Nat → Nat} {n : Nat} {x : Int32} (hx : vp_in x 30) : (tIn n x = true ∧ tArr ad n x.toNatClampNeg = some (ad 4 x.toNatClampNeg)) ∨ (tIn n x = false ∧ tArr ad n x.toNatClampNeg = none) := arr_or (a := ad 4) hx (by decide)
theorem dArr_or {ad : Nat → Nat → Nat} {n : Nat} {x : Int32} (hx : vp_in x 20) : (tIn n x = true ∧ dArr ad n x.toNatClampNeg = some (ad 7 x.toNatClampNeg)) ∨ (tIn n x = false ∧ dArr ad n x.toNatClampNeg = none) := arr_or (a := ad 7) hx (by decide)

theorem ge_in {x y : Int32} {N : Nat} (h : N ≤ x.toNatClampNeg) (h0 : ¬ x < 0) (hy : y = nI N := by rfl) (hN : N < 2 ^ 31 := by decide) : y ≤ x := by
  obtain ⟨j, hj, rfl⟩ := nI_of h0
  rw [nI_clamp hj] at h
  rw [hy]
  exact nI_le h hj

def sp_X2_tenderAt (ad : Nat → Nat → Nat) (n : Nat) (p0 : Int32) : Option Nat := if p0 < 0 then none else (if 30 ≤ p0 then none else ((tArr ad n) p0.toNatClampNeg))
set_option maxHeartbeats 4000000 in
set_option maxRecDepth 100000 in
theorem c_X2_tenderAt (l : Launch) (D : va_G) (K : Nat → ClassId) (ad : Nat → Nat → Nat) (n d : Nat) (S : Nat → Nat → Nat → Int32) (p0 : Int32) : PU l yX2_tenderAt wsX2_tenderAt 0 0 D K [.ref (ad 0 0), .int p0] (fun H => XP D K ad n d S H) (va_rf (sp_X2_tenderAt ad n p0)) := by
  refine Met.ofW (cc := cX2_tenderAt) (maxL := 2) (ret := (some (.object "CartelWatch$Tender"))) (by decide) rfl ?_
  intro p e s m args below meth c s₁ B hml hv
  obtain ⟨rfl, hP, hK, hE⟩ := hv
  have hx := B.exec
  have hb := B.bytes
  have hr := B.returns
  have hts := atoms_spec (ws := wsX2_tenderAt) B.pre
  have hown : s.vm.findClass RX2 = some m.cls := findClass_of_methodNamed B.named
  have hlocks := B.notSynchronized
  have hc : CallFix p m c cX2_tenderAt 2 s ([.ref (ad 0 0), .int p0] : List Value).toArray wsX2_tenderAt RX2 := ⟨hx, hb, hml, hown, hts⟩
  have hin2 : ∀ w ∈ u_ws RX2 TX2 6, w ∈ wsX2_tenderAt := by decide +kernel
  have hXP := hP
  obtain ⟨hn, hd, hP, hT, hF⟩ := hP
  have hP : va_P D vwCl (xW K ad n d S) s.heap := hP
  have hl := lv_entry ([.ref (ad 0 0), .int p0]) (n := 2) (Nat.le_of_ble_eq_true rfl)
  rw [lg_entry_eq]
  generalize (lg_sl ([.ref (ad 0 0), .int p0]) ++ List.replicate (2 - (lg_sl ([.ref (ad 0 0), .int p0])).length) Slot.unset).toArray = ls at hl ⊢
  have hl : lv_has ls 2 [(0, .ref (ad 0 0)), (1, .int p0)] := hl
  refine lv_iload_n hx hb dX2_tenderAt_0 rfl (lv_at hl 1 rfl) ?_
  refine lv_if_lt (tgt := 22) hx hb dX2_tenderAt_1 (by decide) (fun c_1 => ?_) (fun c_1 => ?_)
  · skip
    refine lv_null hx hb dX2_tenderAt_22 ?_
    exact pu_aret (o := none) hx hb hr hlocks dX2_tenderAt_23 (Eq.symm (Eq.trans (if_pos c_1) (rfl)))
  · skip
    refine lv_iload_n hx hb dX2_tenderAt_4 rfl (lv_at hl 1 rfl) ?_
    refine lv_aload_n hx hb dX2_tenderAt_5 rfl (lv_at hl 0 rfl) ?_
    refine va_get (D := D) (ci := 2) (v := .ref (ad 1 0)) (C := RX2) (T := TX2) (N := 6) hx hb hts hin2 hown hK hP 0 rfl rfl 0 (by decide) (hts (.fieldLink RX2 11 "CartelWatch" "tenders" "[LCartelWatch$Tender;") (by decide +kernel)) (fun _ h9 => h9) rfl dX2_tenderAt_6 ?_
    refine va_alen (v := 30) hx hb hK hP 1 3 rfl rfl rfl dX2_tenderAt_9 ?_
    refine lv_icmp_ge (tgt := 22) hx hb dX2_tenderAt_10 (by decide) (fun c_10 => ?_) (fun c_10 => ?_)
    · skip
      refine lv_null hx hb dX2_tenderAt_22 ?_
      exact pu_aret (o := none) hx hb hr hlocks dX2_tenderAt_23 (Eq.symm (Eq.trans (if_neg c_1) (Eq.trans (if_pos c_10) (rfl))))
    · skip
      refine lv_aload_n hx hb dX2_tenderAt_13 rfl (lv_at hl 0 rfl) ?_
      refine va_get (D := D) (ci := 2) (v := .ref (ad 1 0)) (C := RX2) (T := TX2) (N := 6) hx hb hts hin2 hown hK hP 0 rfl rfl 0 (by decide) (hts (.fieldLink RX2 11 "CartelWatch" "tenders" "[LCartelWatch$Tender;") (by decide +kernel)) (fun _ h9 => h9) rfl dX2_tenderAt_14 ?_
      refine lv_iload_n hx hb dX2_tenderAt_17 rfl (lv_at hl 1 rfl) ?_
      refine va_aldq hx hb hK hP 1 3 (cA := K 3) rfl rfl (fun q => q.elim c_1 (fun h => c_10 (ge_in h c_1))) dX2_tenderAt_18 ?_
      refine lv_goto (tgt := 23) hx hb dX2_tenderAt_19 (by decide) ?_
      exact pu_aret (o := (tArr ad n) p0.toNatClampNeg) hx hb hr hlocks dX2_tenderAt_23 (Eq.symm (Eq.trans (if_neg c_1) (Eq.trans (if_neg c_10) (rfl))))

def sp_X2_dossierAt (ad : Nat → Nat → Nat) (d : Nat) (p0 : Int32) : Option Nat := if p0 < 0 then none else (if 20 ≤ p0 then none else ((dArr ad d) p0.toNatClampNeg))
set_option maxHeartbeats 4000000 in
set_option maxRecDepth 100000 in
theorem c_X2_dossierAt (l : Launch) (D : va_G) (K : Nat → ClassId) (ad : Nat → Nat → Nat) (n d : Nat) (S : Nat → Nat → Nat → Int32) (p0 : Int32) : PU l yX2_dossierAt wsX2_dossierAt 0 0 D K [.ref (ad 0 0), .int p0] (fun H => XP D K ad n d S H) (va_rf (sp_X2_dossierAt ad d p0)) := by
  refine Met.ofW (cc := cX2_dossierAt) (maxL := 2) (ret := (some (.object "CartelWatch$Dossier"))) (by decide) rfl ?_
  intro p e s m args below meth c s₁ B hml hv
  obtain ⟨rfl, hP, hK, hE⟩ := hv
  have hx := B.exec
  have hb := B.bytes
  have hr := B.returns
  have hts := atoms_spec (ws := wsX2_dossierAt) B.pre
  have hown : s.vm.findClass RX2 = some m.cls := findClass_of_methodNamed B.named
  have hlocks := B.notSynchronized
  have hc : CallFix p m c cX2_dossierAt 2 s ([.ref (ad 0 0), .int p0] : List Value).toArray wsX2_dossierAt RX2 := ⟨hx, hb, hml, hown, hts⟩
  have hin2 : ∀ w ∈ u_ws RX2 TX2 6, w ∈ wsX2_dossierAt := by decide +kernel
  have hXP := hP
  obtain ⟨hn, hd, hP, hT, hF⟩ := hP
  have hP : va_P D vwCl (xW K ad n d S) s.heap := hP
  have hl := lv_entry ([.ref (ad 0 0), .int p0]) (n := 2) (Nat.le_of_ble_eq_true rfl)
  rw [lg_entry_eq]
  generalize (lg_sl ([.ref (ad 0 0), .int p0]) ++ List.replicate (2 - (lg_sl ([.ref (ad 0 0), .int p0])).length) Slot.unset).toArray = ls at hl ⊢
  have hl : lv_has ls 2 [(0, .ref (ad 0 0)), (1, .int p0)] := hl
  refine lv_iload_n hx hb dX2_dossierAt_0 rfl (lv_at hl 1 rfl) ?_
  refine lv_if_lt (tgt := 22) hx hb dX2_dossierAt_1 (by decide) (fun c_1 => ?_) (fun c_1 => ?_)
  · skip
    refine lv_null hx hb dX2_dossierAt_22 ?_
    exact pu_aret (o := none) hx hb hr hlocks dX2_dossierAt_23 (Eq.symm (Eq.trans (if_pos c_1) (rfl)))
  · skip
    refine lv_iload_n hx hb dX2_dossierAt_4 rfl (lv_at hl 1 rfl) ?_
    refine lv_aload_n hx hb dX2_dossierAt_5 rfl (lv_at hl 0 rfl) ?_
    refine va_get (D := D) (ci := 2) (v := .ref (ad 2 0)) (C := RX2) (T := TX2) (N := 6) hx hb hts hin2 hown hK hP 0 rfl rfl 2 (by decide) (hts (.fieldLink RX2 21 "CartelWatch" "dossiers" "[LCartelWatch$Dossier;") (by decide +kernel)) (fun _ h9 => h9) rfl dX2_dossierAt_6 ?_
    refine va_alen (v := 20) hx hb hK hP 2 2 rfl rfl rfl dX2_dossierAt_9 ?_
    refine lv_icmp_ge (tgt := 22) hx hb dX2_dossierAt_10 (by decide) (fun c_10 => ?_) (fun c_10 => ?_)
    · skip
      refine lv_null hx hb dX2_dossierAt_22 ?_
      exact pu_aret (o := none) hx hb hr hlocks dX2_dossierAt_23 (Eq.symm (Eq.trans (if_neg c_1) (Eq.trans (if_pos c_10) (rfl))))
    · skip
      refine lv_aload_n hx hb dX2_dossierAt_13 rfl (lv_at hl 0 rfl) ?_
      refine va_get (D := D) (ci := 2) (v := .ref (ad 2 0)) (C := RX2) (T := TX2) (N := 6) hx hb hts hin2 hown hK hP 0 rfl rfl 2 (by decide) (hts (.fieldLink RX2 21 "CartelWatch" "dossiers" "[LCartelWatch$Dossier;") (by decide +kernel)) (fun _ h9 => h9) rfl dX2_dossierAt_14 ?_
      refine lv_iload_n hx hb dX2_dossierAt_17 rfl (lv_at hl 1 rfl) ?_
      refine va_aldq hx hb hK hP 2 2 (cA := K 2) rfl rfl (fun q => q.elim c_1 (fun h => c_10 (ge_in h c_1))) dX2_dossierAt_18 ?_
      refine lv_goto (tgt := 23) hx hb dX2_dossierAt_19 (by decide) ?_
      exact pu_aret (o := (dArr ad d) p0.toNatClampNeg) hx hb hr hlocks dX2_dossierAt_23 (Eq.symm (Eq.trans (if_neg c_1) (Eq.trans (if_neg c_10) (rfl))))

theorem at_or {a : Nat → Nat} {n N : Nat} {x y : Int32} (hn : n ≤ N) (hN : N < 2 ^ 31) (hy : y = nI N) : (tIn n x = true ∧ (if x < 0 then none else (if y ≤ x then none else (if x.toNatClampNeg < n then some (a x.toNatClampNeg) else none))) = some (a x.toNatClampNeg)) ∨ (tIn n x = false ∧ (if x < 0 then none else (if y ≤ x then none else (if x.toNatClampNeg < n then some (a x.toNatClampNeg) else none))) = none) := by
  by_cases h0 : x < 0
  · refine Or.inr ⟨decide_eq_false fun h => ?_, if_pos h0⟩
    have := Int32.lt_iff_toInt_lt.mp h0
    have e0 : (0 : Int32).toInt = 0 := by decide
    omega
  · obtain ⟨j, hj, rfl⟩ := nI_of h0
    rw [tIn_nI hj, nI_clamp hj, if_neg h0, hy]
    by_cases h : j < n
    · rw [if_neg (nI_ge (by omega) hN), if_pos h]
      exact Or.inl ⟨decide_eq_true h, rfl⟩
    · rw [if_neg h]
      exact Or.inr ⟨decide_eq_false h, by split <;> rfl⟩
theorem tAt_or {ad : Nat → Nat → Nat} {n : Nat} {x : Int32} (hn : n ≤ 30) : (tIn n x = true ∧ sp_X2_tenderAt ad n x = some (ad 4 x.toNatClampNeg)) ∨ (tIn n x = false ∧ sp_X2_tenderAt ad n x = none) := at_or (a := ad 4) hn (by decide) rfl
theorem dAt_or {ad : Nat → Nat → Nat} {d : Nat} {x : Int32} (hn : d ≤ 20) : (tIn d x = true ∧ sp_X2_dossierAt ad d x = some (ad 7 x.toNatClampNeg)) ∨ (tIn d x = false ∧ sp_X2_dossierAt ad d x = none) := at_or (a := ad 7) hn (by decide) rfl

def sp_X2_turnoverOf_L14 (n : Nat) (S : Nat → Nat → Nat → Int32) (p0 : Int32) : Nat → Int32
  | 0 => 0
  | k + 1 => if tIn n (nI k) = true then ((sp_X2_turnoverOf_L14 n S p0 k) + (sp_X1_incomeOf (S 1 ((nI k).toNatClampNeg)) (S 4 ((nI k).toNatClampNeg) 0) (S 5 ((nI k).toNatClampNeg) 0) (S 6 ((nI k).toNatClampNeg) 0) p0)) else (sp_X2_turnoverOf_L14 n S p0 k)
def sp_X2_turnoverOf (n : Nat) (S : Nat → Nat → Nat → Int32) (p0 : Int32) : Int32 := sp_X2_turnoverOf_L14 n S p0 30
set_option maxHeartbeats 4000000 in
set_option maxRecDepth 100000 in
theorem c_X2_turnoverOf (l : Launch) (D : va_G) (K : Nat → ClassId) (ad : Nat → Nat → Nat) (n d : Nat) (S : Nat → Nat → Nat → Int32) (p0 : Int32) : PU l yX2_turnoverOf wsX2_turnoverOf 3 62 D K [.ref (ad 0 0), .int p0] (fun H => XP D K ad n d S H) (.int (sp_X2_turnoverOf n S p0)) := by
  refine Met.ofW (cc := cX2_turnoverOf) (maxL := 7) (ret := (some .int)) (by decide) rfl ?_
  intro p e s m args below meth c s₁ B hml hv
  obtain ⟨rfl, hP, hK, hE⟩ := hv
  have hx := B.exec
  have hb := B.bytes
  have hr := B.returns
  have hts := atoms_spec (ws := wsX2_turnoverOf) B.pre
  have hown : s.vm.findClass RX2 = some m.cls := findClass_of_methodNamed B.named
  have hlocks := B.notSynchronized
  have hc : CallFix p m c cX2_turnoverOf 7 s ([.ref (ad 0 0), .int p0] : List Value).toArray wsX2_turnoverOf RX2 := ⟨hx, hb, hml, hown, hts⟩
  have hin2 : ∀ w ∈ u_ws RX2 TX2 6, w ∈ wsX2_turnoverOf := by decide +kernel
  have hXP := hP
  obtain ⟨hn, hd, hP, hT, hF⟩ := hP
  have hP : va_P D vwCl (xW K ad n d S) s.heap := hP
  have hl := lv_entry ([.ref (ad 0 0), .int p0]) (n := 7) (Nat.le_of_ble_eq_true rfl)
  rw [lg_entry_eq]
  generalize (lg_sl ([.ref (ad 0 0), .int p0]) ++ List.replicate (7 - (lg_sl ([.ref (ad 0 0), .int p0])).length) Slot.unset).toArray = ls at hl ⊢
  have hl : lv_has ls 7 [(0, .ref (ad 0 0)), (1, .int p0)] := hl
  refine lv_iconst (v := 0) hx hb dX2_turnoverOf_0 (by decide) ?_
  refine lv_istore_n (lv' := [(2, .int 0), (0, .ref (ad 0 0)), (1, .int p0)]) hx hb dX2_turnoverOf_1 rfl hl (by decide) rfl (fun ls hl => ?_)
  refine lv_aload_n hx hb dX2_turnoverOf_2 rfl (lv_at hl 1 rfl) ?_
  refine va_get (D := D) (ci := 2) (v := .ref (ad 1 0)) (C := RX2) (T := TX2) (N := 6) hx hb hts hin2 hown hK hP 0 rfl rfl 0 (by decide) (hts (.fieldLink RX2 11 "CartelWatch" "tenders" "[LCartelWatch$Tender;") (by decide +kernel)) (fun _ h9 => h9) rfl dX2_turnoverOf_3 ?_
  refine lv_astore_n (lv' := [(3, .ref (ad 1 0)), (2, .int 0), (0, .ref (ad 0 0)), (1, .int p0)]) hx hb dX2_turnoverOf_6 rfl hl (by decide) rfl (fun ls hl => ?_)
  refine lv_aload_n hx hb dX2_turnoverOf_7 rfl (lv_at hl 0 rfl) ?_
  refine va_alen (v := 30) hx hb hK hP 1 3 rfl rfl rfl dX2_turnoverOf_8 ?_
  refine lv_istore (lv' := [(4, .int 30), (3, .ref (ad 1 0)), (2, .int 0), (0, .ref (ad 0 0)), (1, .int p0)]) hx hb dX2_turnoverOf_9 hl (by decide) rfl (fun ls hl => ?_)
  refine lv_iconst (v := 0) hx hb dX2_turnoverOf_11 (by decide) ?_
  refine lv_istore (lv' := [(5, .int 0), (4, .int 30), (3, .ref (ad 1 0)), (2, .int 0), (0, .ref (ad 0 0)), (1, .int p0)]) hx hb dX2_turnoverOf_12 hl (by decide) rfl (fun ls hl => ?_)
  have hloop_14 : ∀ (n14 k : Nat), k ≤ 30 → 30 + 1 ≤ k + n14 → ∀ (a14_2 x14 : Int32) (ls : Array Slot), a14_2 = sp_X2_turnoverOf_L14 n S p0 k → x14 = nI k → lv_has ls 7 [(0, .ref (ad 0 0)), (1, .int p0), (2, .int a14_2), (3, .ref (ad 1 0)), (4, .int 30), (5, .int x14)] → W p l e ({ frames := 3, cells := 0, slots := 0, locals := 62 } : Room) s m ([.ref (ad 0 0), .int p0] : List Value).toArray below meth c s.heap [] 0 0 (MQ below (QcV (.int (sp_X2_turnoverOf n S p0))) ([.ref (ad 0 0), .int p0] : List Value).toArray s 0 0 (fun _ => False)) (F0 m 14 ls []) := by
    intro n14
    induction n14 with
    | zero => intro k h1 h2; exact absurd h2 (by omega)
    | succ n14 ih_14 =>
      intro k hk_14 hn_14 a14_2 x14 ls ea14_2 ex14 hl
      subst ea14_2
      subst ex14
      refine lv_iload hx hb dX2_turnoverOf_14 (lv_at hl 5 rfl) ?_
      refine lv_iload hx hb dX2_turnoverOf_16 (lv_at hl 4 rfl) ?_
      refine lv_icmp_ge (tgt := 47) hx hb dX2_turnoverOf_18 (by decide) (fun c_18 => ?_) (fun c_18 => ?_)
      · skip
        have hke_14 : k = 30 := lp_end rfl c_18 hk_14 (by decide)
        subst hke_14
        refine lv_iload_n hx hb dX2_turnoverOf_47 rfl (lv_at hl 2 rfl) ?_
        exact pu_iret hx hb hr hlocks dX2_turnoverOf_48 (Eq.symm (rfl))
      · skip
        have hlt_14 : k < 30 := lp_in rfl c_18 hk_14 (by decide)
        refine lv_aload_n hx hb dX2_turnoverOf_21 rfl (lv_at hl 3 rfl) ?_
        refine lv_iload hx hb dX2_turnoverOf_22 (lv_at hl 5 rfl) ?_
        refine va_aldq hx hb hK hP 1 3 (cA := K 3) rfl rfl (vp_in_nI hlt_14 (by decide)) dX2_turnoverOf_24 ?_
        rcases tArr_or (x := (nI k)) (vp_in_nI hlt_14 (by decide)) with ⟨hs_24, qs_24⟩ | ⟨hs_24, qs_24⟩
        · skip
          refine W.eq (g2 := F0 m 25 ls [.ref (ad 4 ((nI k).toNatClampNeg))]) (by rw [qs_24]; rfl) ?_
          refine lv_astore (lv' := [(6, .ref (ad 4 ((nI k).toNatClampNeg))), (0, .ref (ad 0 0)), (1, .int p0), (2, .int (sp_X2_turnoverOf_L14 n S p0 k)), (3, .ref (ad 1 0)), (4, .int 30), (5, .int (nI k))]) hx hb dX2_turnoverOf_25 hl (by decide) rfl (fun ls hl => ?_)
          refine lv_aload hx hb dX2_turnoverOf_27 (lv_at hl 0 rfl) ?_
          refine lv_ifnull hx hb dX2_turnoverOf_29 ?_
          refine lv_iload_n hx hb dX2_turnoverOf_32 rfl (lv_at hl 3 rfl) ?_
          refine lv_aload hx hb dX2_turnoverOf_33 (lv_at hl 0 rfl) ?_
          refine lv_iload_n hx hb dX2_turnoverOf_35 rfl (lv_at hl 2 rfl) ?_
          refine pu_V (As := [.int p0]) (rest := [.int (sp_X2_turnoverOf_L14 n S p0 k)]) hc (c_X1_incomeOf l D K (ad 4 ((nI k).toNatClampNeg)) (ad 5 ((nI k).toNatClampNeg)) (ad 6 ((nI k).toNatClampNeg)) (S 1 ((nI k).toNatClampNeg)) (S 2 ((nI k).toNatClampNeg)) (S 3 ((nI k).toNatClampNeg) 0) (S 4 ((nI k).toNatClampNeg) 0) (S 5 ((nI k).toNatClampNeg) 0) (S 6 ((nI k).toNatClampNeg) 0) p0) (cwV 1 hts gX2_turnoverOf_X1_incomeOf rfl rfl rfl (by decide +kernel) ⟨Nat.le_of_ble_eq_true rfl, Nat.le_of_ble_eq_true rfl⟩) (hT ((nI k).toNatClampNeg) (tIn_lt hs_24 (by omega))) hK hE (va_recv hK (hT ((nI k).toNatClampNeg) (tIn_lt hs_24 (by omega))) (ci := 1) (q0 := 0) rfl rfl) rfl rfl hl.1 (Nat.le_of_ble_eq_true rfl) dX2_turnoverOf_36 ⟨Nat.le_of_ble_eq_true rfl, Nat.le_of_ble_eq_true rfl⟩ ?_
          refine lv_iadd hx hb dX2_turnoverOf_39 ?_
          refine lv_istore_n (lv' := [(2, .int ((sp_X2_turnoverOf_L14 n S p0 k) + (sp_X1_incomeOf (S 1 ((nI k).toNatClampNeg)) (S 4 ((nI k).toNatClampNeg) 0) (S 5 ((nI k).toNatClampNeg) 0) (S 6 ((nI k).toNatClampNeg) 0) p0))), (6, .ref (ad 4 ((nI k).toNatClampNeg))), (0, .ref (ad 0 0)), (1, .int p0), (3, .ref (ad 1 0)), (4, .int 30), (5, .int (nI k))]) hx hb dX2_turnoverOf_40 rfl hl (by decide) rfl (fun ls hl => ?_)
          refine lv_iinc (v := (nI k) + 1) (lv' := [(5, .int ((nI k) + 1)), (2, .int ((sp_X2_turnoverOf_L14 n S p0 k) + (sp_X1_incomeOf (S 1 ((nI k).toNatClampNeg)) (S 4 ((nI k).toNatClampNeg) 0) (S 5 ((nI k).toNatClampNeg) 0) (S 6 ((nI k).toNatClampNeg) 0) p0))), (6, .ref (ad 4 ((nI k).toNatClampNeg))), (0, .ref (ad 0 0)), (1, .int p0), (3, .ref (ad 1 0)), (4, .int 30)]) hx hb dX2_turnoverOf_41 hl (k := 6) rfl (rfl) (by decide) rfl (fun ls hl => ?_)
          refine lv_goto (tgt := 14) hx hb dX2_turnoverOf_44 (by decide) ?_
          exact ih_14 (k + 1) hlt_14 (by omega) _ _ ls (Eq.symm (Eq.trans (if_pos hs_24) (rfl))) (nI_1 k) (lv_sub hl [3, 4, 1, 5, 6, 0] rfl)
        · skip
          refine W.eq (g2 := F0 m 25 ls [.null]) (by rw [qs_24]; rfl) ?_
          refine lv_astoreN (lv' := [(6, .null), (0, .ref (ad 0 0)), (1, .int p0), (2, .int (sp_X2_turnoverOf_L14 n S p0 k)), (3, .ref (ad 1 0)), (4, .int 30), (5, .int (nI k))]) hx hb dX2_turnoverOf_25 hl (by decide) rfl (fun ls hl => ?_)
          refine lv_aloadN hx hb dX2_turnoverOf_27 (lv_at hl 0 rfl) ?_
          refine lv_ifnullN (tgt := 41) hx hb dX2_turnoverOf_29 (by decide) ?_
          refine lv_iinc (v := (nI k) + 1) (lv' := [(5, .int ((nI k) + 1)), (6, .null), (0, .ref (ad 0 0)), (1, .int p0), (2, .int (sp_X2_turnoverOf_L14 n S p0 k)), (3, .ref (ad 1 0)), (4, .int 30)]) hx hb dX2_turnoverOf_41 hl (k := 6) rfl (rfl) (by decide) rfl (fun ls hl => ?_)
          refine lv_goto (tgt := 14) hx hb dX2_turnoverOf_44 (by decide) ?_
          exact ih_14 (k + 1) hlt_14 (by omega) _ _ ls (Eq.symm (Eq.trans (if_neg (ntr hs_24)) (rfl))) (nI_1 k) (lv_sub hl [2, 3, 4, 5, 6, 0] rfl)
  exact hloop_14 (30 + 1) 0 (Nat.zero_le _) (by omega) _ _ ls rfl nI_0.symm (lv_sub hl [4, 5, 3, 2, 1, 0] rfl)

def sp_X2_lastWinnerBefore_A (n : Nat) (S : Nat → Nat → Nat → Int32) (p1 p2 : Int32) : Nat → Int32
  | 0 => (-1)
  | j + 1 => if tIn n (nI j) = true then (if sp_X1_isAwarded (S 4 ((nI j).toNatClampNeg) 0) = true then (if sp_X1_isStanding (S 1 ((nI j).toNatClampNeg)) (S 2 ((nI j).toNatClampNeg)) p1 = true then (if sp_X1_isStanding (S 1 ((nI j).toNatClampNeg)) (S 2 ((nI j).toNatClampNeg)) p2 = true then (sp_X1_winner (S 4 ((nI j).toNatClampNeg) 0)) else (sp_X2_lastWinnerBefore_A n S p1 p2 j)) else (sp_X2_lastWinnerBefore_A n S p1 p2 j)) else (sp_X2_lastWinnerBefore_A n S p1 p2 j)) else (sp_X2_lastWinnerBefore_A n S p1 p2 j)
def sp_X2_lastWinnerBefore (n : Nat) (S : Nat → Nat → Nat → Int32) (p0 : Int32) (p1 : Int32) (p2 : Int32) : Int32 := sp_X2_lastWinnerBefore_A n S p1 p2 p0.toNatClampNeg
set_option maxHeartbeats 4000000 in
set_option maxRecDepth 100000 in
theorem c_X2_lastWinnerBefore (l : Launch) (D : va_G) (K : Nat → ClassId) (ad : Nat → Nat → Nat) (n d : Nat) (S : Nat → Nat → Nat → Int32) (p0 p1 p2 : Int32) (hp : p0 = nI p0.toNatClampNeg) (hp30 : p0.toNatClampNeg ≤ 30) : PU l yX2_lastWinnerBefore wsX2_lastWinnerBefore 2 41 D K [.ref (ad 0 0), .int p0, .int p1, .int p2] (fun H => XP D K ad n d S H) (.int (sp_X2_lastWinnerBefore n S p0 p1 p2)) := by
  refine Met.ofW (cc := cX2_lastWinnerBefore) (maxL := 6) (ret := (some .int)) (by decide) rfl ?_
  intro p e s m args below meth c s₁ B hml hv
  obtain ⟨rfl, hP, hK, hE⟩ := hv
  have hx := B.exec
  have hb := B.bytes
  have hr := B.returns
  have hts := atoms_spec (ws := wsX2_lastWinnerBefore) B.pre
  have hown : s.vm.findClass RX2 = some m.cls := findClass_of_methodNamed B.named
  have hlocks := B.notSynchronized
  have hc : CallFix p m c cX2_lastWinnerBefore 6 s ([.ref (ad 0 0), .int p0, .int p1, .int p2] : List Value).toArray wsX2_lastWinnerBefore RX2 := ⟨hx, hb, hml, hown, hts⟩
  have hXP := hP
  obtain ⟨hn, hd, hP, hT, hF⟩ := hP
  have hP : va_P D vwCl (xW K ad n d S) s.heap := hP
  have hl := lv_entry ([.ref (ad 0 0), .int p0, .int p1, .int p2]) (n := 6) (Nat.le_of_ble_eq_true rfl)
  rw [lg_entry_eq]
  generalize (lg_sl ([.ref (ad 0 0), .int p0, .int p1, .int p2]) ++ List.replicate (6 - (lg_sl ([.ref (ad 0 0), .int p0, .int p1, .int p2])).length) Slot.unset).toArray = ls at hl ⊢
  have hl : lv_has ls 6 [(0, .ref (ad 0 0)), (1, .int p0), (2, .int p1), (3, .int p2)] := hl
  refine lv_iload_n hx hb dX2_lastWinnerBefore_0 rfl (lv_at hl 1 rfl) ?_
  refine lv_iconst (v := 1) hx hb dX2_lastWinnerBefore_1 (by decide) ?_
  refine lv_isub hx hb dX2_lastWinnerBefore_2 ?_
  refine lv_istore (lv' := [(4, .int (p0 - 1)), (0, .ref (ad 0 0)), (1, .int p0), (2, .int p1), (3, .int p2)]) hx hb dX2_lastWinnerBefore_3 hl (by decide) rfl (fun ls hl => ?_)
  have hloop_5 : ∀ (j : Nat), j ≤ 30 → ∀ (x5 : Int32) (ls : Array Slot), x5 = nI j - 1 → sp_X2_lastWinnerBefore_A n S p1 p2 j = sp_X2_lastWinnerBefore n S p0 p1 p2 → lv_has ls 6 [(0, .ref (ad 0 0)), (1, .int p0), (2, .int p1), (3, .int p2), (4, .int x5)] → W p l e ({ frames := 2, cells := 0, slots := 0, locals := 41 } : Room) s m ([.ref (ad 0 0), .int p0, .int p1, .int p2] : List Value).toArray below meth c s.heap [] 0 0 (MQ below (QcV (.int (sp_X2_lastWinnerBefore n S p0 p1 p2))) ([.ref (ad 0 0), .int p0, .int p1, .int p2] : List Value).toArray s 0 0 (fun _ => False)) (F0 m 5 ls []) := by
    intro j
    induction j with
    | zero =>
      intro _ x5 ls ex5 hA_5 hl
      have ex5 : x5 = -1 := by rw [ex5]; decide
      subst ex5
      refine lv_iload hx hb dX2_lastWinnerBefore_5 (lv_at hl 4 rfl) ?_
      refine lv_if_lt (tgt := 61) hx hb dX2_lastWinnerBefore_7 (by decide) (fun c_7 => ?_) (fun c_7 => ?_)
      · skip
        refine lv_iconst (v := -1) hx hb dX2_lastWinnerBefore_61 (by decide) ?_
        exact pu_iret hx hb hr hlocks dX2_lastWinnerBefore_62 (Eq.trans (Eq.symm (rfl)) hA_5)
      · skip
        exact absurd (by decide) c_7
    | succ j ih_5 =>
      intro hj_5 x5 ls ex5 hA_5 hl
      rw [nI_pred] at ex5
      subst ex5
      refine lv_iload hx hb dX2_lastWinnerBefore_5 (lv_at hl 4 rfl) ?_
      refine lv_if_lt (tgt := 61) hx hb dX2_lastWinnerBefore_7 (by decide) (fun c_7 => ?_) (fun c_7 => ?_)
      · skip
        exact absurd c_7 (nI_pos (by omega))
      · skip
        refine lv_aload_n hx hb dX2_lastWinnerBefore_10 rfl (lv_at hl 0 rfl) ?_
        refine lv_iload hx hb dX2_lastWinnerBefore_11 (lv_at hl 4 rfl) ?_
        refine pu_V (As := [.int (nI j)]) (rest := []) hc (c_X2_tenderAt l D K ad n d S (nI j)) (cwV 1 hts gX2_lastWinnerBefore_X2_tenderAt rfl rfl rfl (by decide +kernel) ⟨Nat.le_of_ble_eq_true rfl, Nat.le_of_ble_eq_true rfl⟩) hXP hK hE (va_recv hK hP (ci := 2) (q0 := 0) rfl rfl) rfl rfl hl.1 (Nat.le_of_ble_eq_true rfl) dX2_lastWinnerBefore_13 ⟨Nat.le_of_ble_eq_true rfl, Nat.le_of_ble_eq_true rfl⟩ ?_
        rcases tAt_or (ad := ad) (x := (nI j)) hn with ⟨hs_13, qs_13⟩ | ⟨hs_13, qs_13⟩
        · skip
          refine W.eq (g2 := F0 m 16 ls [.ref (ad 4 ((nI j).toNatClampNeg))]) (by rw [qs_13]; rfl) ?_
          refine lv_astore (lv' := [(5, .ref (ad 4 ((nI j).toNatClampNeg))), (0, .ref (ad 0 0)), (1, .int p0), (2, .int p1), (3, .int p2), (4, .int (nI j))]) hx hb dX2_lastWinnerBefore_16 hl (by decide) rfl (fun ls hl => ?_)
          refine lv_aload hx hb dX2_lastWinnerBefore_18 (lv_at hl 0 rfl) ?_
          refine lv_ifnull hx hb dX2_lastWinnerBefore_20 ?_
          refine lv_aload hx hb dX2_lastWinnerBefore_23 (lv_at hl 0 rfl) ?_
          refine pu_V (As := []) (rest := []) hc (c_X1_isAwarded l D K (ad 4 ((nI j).toNatClampNeg)) (ad 5 ((nI j).toNatClampNeg)) (ad 6 ((nI j).toNatClampNeg)) (S 1 ((nI j).toNatClampNeg)) (S 2 ((nI j).toNatClampNeg)) (S 3 ((nI j).toNatClampNeg) 0) (S 4 ((nI j).toNatClampNeg) 0) (S 5 ((nI j).toNatClampNeg) 0) (S 6 ((nI j).toNatClampNeg) 0)) (cwV 0 hts gX2_lastWinnerBefore_X1_isAwarded rfl rfl rfl (by decide +kernel) ⟨Nat.le_of_ble_eq_true rfl, Nat.le_of_ble_eq_true rfl⟩) (hT ((nI j).toNatClampNeg) (tIn_lt hs_13 (by omega))) hK hE (va_recv hK (hT ((nI j).toNatClampNeg) (tIn_lt hs_13 (by omega))) (ci := 1) (q0 := 0) rfl rfl) rfl rfl hl.1 (Nat.le_of_ble_eq_true rfl) dX2_lastWinnerBefore_25 ⟨Nat.le_of_ble_eq_true rfl, Nat.le_of_ble_eq_true rfl⟩ ?_
          refine lb_eq (tgt := 55) hx hb dX2_lastWinnerBefore_28 (by decide) (fun c_28 => ?_) (fun c_28 => ?_)
          · skip
            refine lv_iinc (v := (nI j) - 1) (lv' := [(4, .int ((nI j) - 1)), (5, .ref (ad 4 ((nI j).toNatClampNeg))), (0, .ref (ad 0 0)), (1, .int p0), (2, .int p1), (3, .int p2)]) hx hb dX2_lastWinnerBefore_55 hl (k := 5) rfl (by rw [Int32.sub_eq_add_neg]; rfl) (by decide) rfl (fun ls hl => ?_)
            refine lv_goto (tgt := 5) hx hb dX2_lastWinnerBefore_58 (by decide) ?_
            exact ih_5 (by omega) _ ls rfl (Eq.trans (Eq.symm (Eq.trans (if_pos hs_13) (Eq.trans (if_neg (ntr c_28)) (rfl)))) hA_5) (lv_sub hl [2, 3, 4, 5, 0] rfl)
          · skip
            refine lv_aload hx hb dX2_lastWinnerBefore_31 (lv_at hl 0 rfl) ?_
            refine lv_iload_n hx hb dX2_lastWinnerBefore_33 rfl (lv_at hl 3 rfl) ?_
            refine pu_V (As := [.int p1]) (rest := []) hc (c_X1_isStanding l D K (ad 4 ((nI j).toNatClampNeg)) (ad 5 ((nI j).toNatClampNeg)) (ad 6 ((nI j).toNatClampNeg)) (S 1 ((nI j).toNatClampNeg)) (S 2 ((nI j).toNatClampNeg)) (S 3 ((nI j).toNatClampNeg) 0) (S 4 ((nI j).toNatClampNeg) 0) (S 5 ((nI j).toNatClampNeg) 0) (S 6 ((nI j).toNatClampNeg) 0) p1) (cwV 1 hts gX2_lastWinnerBefore_X1_isStanding rfl rfl rfl (by decide +kernel) ⟨Nat.le_of_ble_eq_true rfl, Nat.le_of_ble_eq_true rfl⟩) (hT ((nI j).toNatClampNeg) (tIn_lt hs_13 (by omega))) hK hE (va_recv hK (hT ((nI j).toNatClampNeg) (tIn_lt hs_13 (by omega))) (ci := 1) (q0 := 0) rfl rfl) rfl rfl hl.1 (Nat.le_of_ble_eq_true rfl) dX2_lastWinnerBefore_34 ⟨Nat.le_of_ble_eq_true rfl, Nat.le_of_ble_eq_true rfl⟩ ?_
            refine lb_eq (tgt := 55) hx hb dX2_lastWinnerBefore_37 (by decide) (fun c_37 => ?_) (fun c_37 => ?_)
            · skip
              refine lv_iinc (v := (nI j) - 1) (lv' := [(4, .int ((nI j) - 1)), (5, .ref (ad 4 ((nI j).toNatClampNeg))), (0, .ref (ad 0 0)), (1, .int p0), (2, .int p1), (3, .int p2)]) hx hb dX2_lastWinnerBefore_55 hl (k := 5) rfl (by rw [Int32.sub_eq_add_neg]; rfl) (by decide) rfl (fun ls hl => ?_)
              refine lv_goto (tgt := 5) hx hb dX2_lastWinnerBefore_58 (by decide) ?_
              exact ih_5 (by omega) _ ls rfl (Eq.trans (Eq.symm (Eq.trans (if_pos hs_13) (Eq.trans (if_pos c_28) (Eq.trans (if_neg (ntr c_37)) (rfl))))) hA_5) (lv_sub hl [2, 3, 4, 5, 0] rfl)
            · skip
              refine lv_aload hx hb dX2_lastWinnerBefore_40 (lv_at hl 0 rfl) ?_
              refine lv_iload_n hx hb dX2_lastWinnerBefore_42 rfl (lv_at hl 4 rfl) ?_
              refine pu_V (As := [.int p2]) (rest := []) hc (c_X1_isStanding l D K (ad 4 ((nI j).toNatClampNeg)) (ad 5 ((nI j).toNatClampNeg)) (ad 6 ((nI j).toNatClampNeg)) (S 1 ((nI j).toNatClampNeg)) (S 2 ((nI j).toNatClampNeg)) (S 3 ((nI j).toNatClampNeg) 0) (S 4 ((nI j).toNatClampNeg) 0) (S 5 ((nI j).toNatClampNeg) 0) (S 6 ((nI j).toNatClampNeg) 0) p2) (cwV 1 hts gX2_lastWinnerBefore_X1_isStanding rfl rfl rfl (by decide +kernel) ⟨Nat.le_of_ble_eq_true rfl, Nat.le_of_ble_eq_true rfl⟩) (hT ((nI j).toNatClampNeg) (tIn_lt hs_13 (by omega))) hK hE (va_recv hK (hT ((nI j).toNatClampNeg) (tIn_lt hs_13 (by omega))) (ci := 1) (q0 := 0) rfl rfl) rfl rfl hl.1 (Nat.le_of_ble_eq_true rfl) dX2_lastWinnerBefore_43 ⟨Nat.le_of_ble_eq_true rfl, Nat.le_of_ble_eq_true rfl⟩ ?_
              refine lb_eq (tgt := 55) hx hb dX2_lastWinnerBefore_46 (by decide) (fun c_46 => ?_) (fun c_46 => ?_)
              · skip
                refine lv_iinc (v := (nI j) - 1) (lv' := [(4, .int ((nI j) - 1)), (5, .ref (ad 4 ((nI j).toNatClampNeg))), (0, .ref (ad 0 0)), (1, .int p0), (2, .int p1), (3, .int p2)]) hx hb dX2_lastWinnerBefore_55 hl (k := 5) rfl (by rw [Int32.sub_eq_add_neg]; rfl) (by decide) rfl (fun ls hl => ?_)
                refine lv_goto (tgt := 5) hx hb dX2_lastWinnerBefore_58 (by decide) ?_
                exact ih_5 (by omega) _ ls rfl (Eq.trans (Eq.symm (Eq.trans (if_pos hs_13) (Eq.trans (if_pos c_28) (Eq.trans (if_pos c_37) (Eq.trans (if_neg (ntr c_46)) (rfl)))))) hA_5) (lv_sub hl [2, 3, 4, 5, 0] rfl)
              · skip
                refine lv_aload hx hb dX2_lastWinnerBefore_49 (lv_at hl 0 rfl) ?_
                refine pu_V (As := []) (rest := []) hc (c_X1_winner l D K (ad 4 ((nI j).toNatClampNeg)) (ad 5 ((nI j).toNatClampNeg)) (ad 6 ((nI j).toNatClampNeg)) (S 1 ((nI j).toNatClampNeg)) (S 2 ((nI j).toNatClampNeg)) (S 3 ((nI j).toNatClampNeg) 0) (S 4 ((nI j).toNatClampNeg) 0) (S 5 ((nI j).toNatClampNeg) 0) (S 6 ((nI j).toNatClampNeg) 0)) (cwV 0 hts gX2_lastWinnerBefore_X1_winner rfl rfl rfl (by decide +kernel) ⟨Nat.le_of_ble_eq_true rfl, Nat.le_of_ble_eq_true rfl⟩) (hT ((nI j).toNatClampNeg) (tIn_lt hs_13 (by omega))) hK hE (va_recv hK (hT ((nI j).toNatClampNeg) (tIn_lt hs_13 (by omega))) (ci := 1) (q0 := 0) rfl rfl) rfl rfl hl.1 (Nat.le_of_ble_eq_true rfl) dX2_lastWinnerBefore_51 ⟨Nat.le_of_ble_eq_true rfl, Nat.le_of_ble_eq_true rfl⟩ ?_
                exact pu_iret hx hb hr hlocks dX2_lastWinnerBefore_54 (Eq.trans (Eq.symm (Eq.trans (if_pos hs_13) (Eq.trans (if_pos c_28) (Eq.trans (if_pos c_37) (Eq.trans (if_pos c_46) (rfl)))))) hA_5)
        · skip
          refine W.eq (g2 := F0 m 16 ls [.null]) (by rw [qs_13]; rfl) ?_
          refine lv_astoreN (lv' := [(5, .null), (0, .ref (ad 0 0)), (1, .int p0), (2, .int p1), (3, .int p2), (4, .int (nI j))]) hx hb dX2_lastWinnerBefore_16 hl (by decide) rfl (fun ls hl => ?_)
          refine lv_aloadN hx hb dX2_lastWinnerBefore_18 (lv_at hl 0 rfl) ?_
          refine lv_ifnullN (tgt := 55) hx hb dX2_lastWinnerBefore_20 (by decide) ?_
          refine lv_iinc (v := (nI j) - 1) (lv' := [(4, .int ((nI j) - 1)), (5, .null), (0, .ref (ad 0 0)), (1, .int p0), (2, .int p1), (3, .int p2)]) hx hb dX2_lastWinnerBefore_55 hl (k := 5) rfl (by rw [Int32.sub_eq_add_neg]; rfl) (by decide) rfl (fun ls hl => ?_)
          refine lv_goto (tgt := 5) hx hb dX2_lastWinnerBefore_58 (by decide) ?_
          exact ih_5 (by omega) _ ls rfl (Eq.trans (Eq.symm (Eq.trans (if_neg (ntr hs_13)) (rfl))) hA_5) (lv_sub hl [2, 3, 4, 5, 0] rfl)
  exact hloop_5 p0.toNatClampNeg hp30 _ ls (by rw [← hp]) rfl (lv_sub hl [1, 2, 3, 4, 0] rfl)

def sp_X2_countOf (n : Nat) (S : Nat → Nat → Nat → Int32) (p0 : Int32) (p1 : Int32) (p2 : Int32) : Int32 := if tIn n p0 = true then (if (sp_X1_winner (S 4 p0.toNatClampNeg 0)) = p1 then (if sp_X1_isStanding (S 1 p0.toNatClampNeg) (S 2 p0.toNatClampNeg) p2 = true then (if (sp_X2_lastWinnerBefore n S p0 (sp_X1_winner (S 4 p0.toNatClampNeg 0)) p2) = p2 then ((sp_X1_signsOfLoser (S 1 p0.toNatClampNeg) (S 2 p0.toNatClampNeg) (S 4 p0.toNatClampNeg 0) (S 5 p0.toNatClampNeg 0) p2) + 4) else (sp_X1_signsOfLoser (S 1 p0.toNatClampNeg) (S 2 p0.toNatClampNeg) (S 4 p0.toNatClampNeg 0) (S 5 p0.toNatClampNeg 0) p2)) else (sp_X1_signsOfLoser (S 1 p0.toNatClampNeg) (S 2 p0.toNatClampNeg) (S 4 p0.toNatClampNeg 0) (S 5 p0.toNatClampNeg 0) p2)) else (if (sp_X1_winner (S 4 p0.toNatClampNeg 0)) = p2 then (if sp_X1_isStanding (S 1 p0.toNatClampNeg) (S 2 p0.toNatClampNeg) p1 = true then (if (sp_X2_lastWinnerBefore n S p0 (sp_X1_winner (S 4 p0.toNatClampNeg 0)) p1) = p1 then ((sp_X1_signsOfLoser (S 1 p0.toNatClampNeg) (S 2 p0.toNatClampNeg) (S 4 p0.toNatClampNeg 0) (S 5 p0.toNatClampNeg 0) p1) + 4) else (sp_X1_signsOfLoser (S 1 p0.toNatClampNeg) (S 2 p0.toNatClampNeg) (S 4 p0.toNatClampNeg 0) (S 5 p0.toNatClampNeg 0) p1)) else (sp_X1_signsOfLoser (S 1 p0.toNatClampNeg) (S 2 p0.toNatClampNeg) (S 4 p0.toNatClampNeg 0) (S 5 p0.toNatClampNeg 0) p1)) else 0)) else 0
set_option maxHeartbeats 4000000 in
set_option maxRecDepth 100000 in
theorem c_X2_countOf (l : Launch) (D : va_G) (K : Nat → ClassId) (ad : Nat → Nat → Nat) (n d : Nat) (S : Nat → Nat → Nat → Int32) (p0 p1 p2 : Int32) : PU l yX2_countOf wsX2_countOf 4 85 D K [.ref (ad 0 0), .int p0, .int p1, .int p2] (fun H => XP D K ad n d S H) (.int (sp_X2_countOf n S p0 p1 p2)) := by
  refine Met.ofW (cc := cX2_countOf) (maxL := 8) (ret := (some .int)) (by decide) rfl ?_
  intro p e s m args below meth c s₁ B hml hv
  obtain ⟨rfl, hP, hK, hE⟩ := hv
  have hx := B.exec
  have hb := B.bytes
  have hr := B.returns
  have hts := atoms_spec (ws := wsX2_countOf) B.pre
  have hown : s.vm.findClass RX2 = some m.cls := findClass_of_methodNamed B.named
  have hlocks := B.notSynchronized
  have hc : CallFix p m c cX2_countOf 8 s ([.ref (ad 0 0), .int p0, .int p1, .int p2] : List Value).toArray wsX2_countOf RX2 := ⟨hx, hb, hml, hown, hts⟩
  have hXP := hP
  obtain ⟨hn, hd, hP, hT, hF⟩ := hP
  have hP : va_P D vwCl (xW K ad n d S) s.heap := hP
  have hl := lv_entry ([.ref (ad 0 0), .int p0, .int p1, .int p2]) (n := 8) (Nat.le_of_ble_eq_true rfl)
  rw [lg_entry_eq]
  generalize (lg_sl ([.ref (ad 0 0), .int p0, .int p1, .int p2]) ++ List.replicate (8 - (lg_sl ([.ref (ad 0 0), .int p0, .int p1, .int p2])).length) Slot.unset).toArray = ls at hl ⊢
  have hl : lv_has ls 8 [(0, .ref (ad 0 0)), (1, .int p0), (2, .int p1), (3, .int p2)] := hl
  refine lv_aload_n hx hb dX2_countOf_0 rfl (lv_at hl 0 rfl) ?_
  refine lv_iload_n hx hb dX2_countOf_1 rfl (lv_at hl 1 rfl) ?_
  refine pu_V (As := [.int p0]) (rest := []) hc (c_X2_tenderAt l D K ad n d S p0) (cwV 1 hts gX2_countOf_X2_tenderAt rfl rfl rfl (by decide +kernel) ⟨Nat.le_of_ble_eq_true rfl, Nat.le_of_ble_eq_true rfl⟩) hXP hK hE (va_recv hK hP (ci := 2) (q0 := 0) rfl rfl) rfl rfl hl.1 (Nat.le_of_ble_eq_true rfl) dX2_countOf_2 ⟨Nat.le_of_ble_eq_true rfl, Nat.le_of_ble_eq_true rfl⟩ ?_
  rcases tAt_or (ad := ad) (x := p0) hn with ⟨hs_2, qs_2⟩ | ⟨hs_2, qs_2⟩
  · skip
    refine W.eq (g2 := F0 m 5 ls [.ref (ad 4 p0.toNatClampNeg)]) (by rw [qs_2]; rfl) ?_
    refine lv_astore (lv' := [(4, .ref (ad 4 p0.toNatClampNeg)), (0, .ref (ad 0 0)), (1, .int p0), (2, .int p1), (3, .int p2)]) hx hb dX2_countOf_5 hl (by decide) rfl (fun ls hl => ?_)
    refine lv_aload hx hb dX2_countOf_7 (lv_at hl 0 rfl) ?_
    refine lv_ifnonnull (tgt := 14) hx hb dX2_countOf_9 (by decide) ?_
    refine lv_aload hx hb dX2_countOf_14 (lv_at hl 0 rfl) ?_
    refine pu_V (As := []) (rest := []) hc (c_X1_winner l D K (ad 4 p0.toNatClampNeg) (ad 5 p0.toNatClampNeg) (ad 6 p0.toNatClampNeg) (S 1 p0.toNatClampNeg) (S 2 p0.toNatClampNeg) (S 3 p0.toNatClampNeg 0) (S 4 p0.toNatClampNeg 0) (S 5 p0.toNatClampNeg 0) (S 6 p0.toNatClampNeg 0)) (cwV 0 hts gX2_countOf_X1_winner rfl rfl rfl (by decide +kernel) ⟨Nat.le_of_ble_eq_true rfl, Nat.le_of_ble_eq_true rfl⟩) (hT p0.toNatClampNeg (tIn_lt hs_2 (by omega))) hK hE (va_recv hK (hT p0.toNatClampNeg (tIn_lt hs_2 (by omega))) (ci := 1) (q0 := 0) rfl rfl) rfl rfl hl.1 (Nat.le_of_ble_eq_true rfl) dX2_countOf_16 ⟨Nat.le_of_ble_eq_true rfl, Nat.le_of_ble_eq_true rfl⟩ ?_
    refine lv_istore (lv' := [(5, .int (sp_X1_winner (S 4 p0.toNatClampNeg 0))), (4, .ref (ad 4 p0.toNatClampNeg)), (0, .ref (ad 0 0)), (1, .int p0), (2, .int p1), (3, .int p2)]) hx hb dX2_countOf_19 hl (by decide) rfl (fun ls hl => ?_)
    refine lv_iload hx hb dX2_countOf_21 (lv_at hl 0 rfl) ?_
    refine lv_iload_n hx hb dX2_countOf_23 rfl (lv_at hl 4 rfl) ?_
    refine lv_icmp_eq (tgt := 35) hx hb dX2_countOf_24 (by decide) (fun c_24 => ?_) (fun c_24 => ?_)
    · skip
      refine lv_iload hx hb dX2_countOf_35 (lv_at hl 0 rfl) ?_
      refine lv_iload_n hx hb dX2_countOf_37 rfl (lv_at hl 4 rfl) ?_
      have hj_38 : ∀ (ls : Array Slot), lv_has ls 8 [(0, .ref (ad 0 0)), (1, .int p0), (2, .int p1), (3, .int p2), (4, .ref (ad 4 p0.toNatClampNeg)), (5, .int (sp_X1_winner (S 4 p0.toNatClampNeg 0)))] → W p l e ({ frames := 4, cells := 0, slots := 0, locals := 85 } : Room) s m ([.ref (ad 0 0), .int p0, .int p1, .int p2] : List Value).toArray below meth c s.heap [] 0 0 (MQ below (QcV (.int (sp_X2_countOf n S p0 p1 p2))) ([.ref (ad 0 0), .int p0, .int p1, .int p2] : List Value).toArray s 0 0 (fun _ => False)) (F0 m 46 ls [.int p2]) := by
        intro ls hl
        refine lv_istore (lv' := [(6, .int p2), (0, .ref (ad 0 0)), (1, .int p0), (2, .int p1), (3, .int p2), (4, .ref (ad 4 p0.toNatClampNeg)), (5, .int (sp_X1_winner (S 4 p0.toNatClampNeg 0)))]) hx hb dX2_countOf_46 hl (by decide) rfl (fun ls hl => ?_)
        refine lv_aload hx hb dX2_countOf_48 (lv_at hl 5 rfl) ?_
        refine lv_iload hx hb dX2_countOf_50 (lv_at hl 0 rfl) ?_
        refine pu_V (As := [.int p2]) (rest := []) hc (c_X1_signsOfLoser l D K (ad 4 p0.toNatClampNeg) (ad 5 p0.toNatClampNeg) (ad 6 p0.toNatClampNeg) (S 1 p0.toNatClampNeg) (S 2 p0.toNatClampNeg) (S 3 p0.toNatClampNeg 0) (S 4 p0.toNatClampNeg 0) (S 5 p0.toNatClampNeg 0) (S 6 p0.toNatClampNeg 0) p2) (cwV 1 hts gX2_countOf_X1_signsOfLoser rfl rfl rfl (by decide +kernel) ⟨Nat.le_of_ble_eq_true rfl, Nat.le_of_ble_eq_true rfl⟩) (hT p0.toNatClampNeg (tIn_lt hs_2 (by omega))) hK hE (va_recv hK (hT p0.toNatClampNeg (tIn_lt hs_2 (by omega))) (ci := 1) (q0 := 0) rfl rfl) rfl rfl hl.1 (Nat.le_of_ble_eq_true rfl) dX2_countOf_52 ⟨Nat.le_of_ble_eq_true rfl, Nat.le_of_ble_eq_true rfl⟩ ?_
        refine lv_istore (lv' := [(7, .int (sp_X1_signsOfLoser (S 1 p0.toNatClampNeg) (S 2 p0.toNatClampNeg) (S 4 p0.toNatClampNeg 0) (S 5 p0.toNatClampNeg 0) p2)), (6, .int p2), (0, .ref (ad 0 0)), (1, .int p0), (2, .int p1), (3, .int p2), (4, .ref (ad 4 p0.toNatClampNeg)), (5, .int (sp_X1_winner (S 4 p0.toNatClampNeg 0)))]) hx hb dX2_countOf_55 hl (by decide) rfl (fun ls hl => ?_)
        refine lv_aload hx hb dX2_countOf_57 (lv_at hl 6 rfl) ?_
        refine lv_iload hx hb dX2_countOf_59 (lv_at hl 1 rfl) ?_
        refine pu_V (As := [.int p2]) (rest := []) hc (c_X1_isStanding l D K (ad 4 p0.toNatClampNeg) (ad 5 p0.toNatClampNeg) (ad 6 p0.toNatClampNeg) (S 1 p0.toNatClampNeg) (S 2 p0.toNatClampNeg) (S 3 p0.toNatClampNeg 0) (S 4 p0.toNatClampNeg 0) (S 5 p0.toNatClampNeg 0) (S 6 p0.toNatClampNeg 0) p2) (cwV 1 hts gX2_countOf_X1_isStanding rfl rfl rfl (by decide +kernel) ⟨Nat.le_of_ble_eq_true rfl, Nat.le_of_ble_eq_true rfl⟩) (hT p0.toNatClampNeg (tIn_lt hs_2 (by omega))) hK hE (va_recv hK (hT p0.toNatClampNeg (tIn_lt hs_2 (by omega))) (ci := 1) (q0 := 0) rfl rfl) rfl rfl hl.1 (Nat.le_of_ble_eq_true rfl) dX2_countOf_61 ⟨Nat.le_of_ble_eq_true rfl, Nat.le_of_ble_eq_true rfl⟩ ?_
        refine lb_eq (tgt := 84) hx hb dX2_countOf_64 (by decide) (fun c_64 => ?_) (fun c_64 => ?_)
        · skip
          refine lv_iload hx hb dX2_countOf_84 (lv_at hl 0 rfl) ?_
          exact pu_iret hx hb hr hlocks dX2_countOf_86 (Eq.symm (Eq.trans (if_pos hs_2) (Eq.trans (if_pos c_24) (Eq.trans (if_neg (ntr c_64)) (rfl)))))
        · skip
          refine lv_aload_n hx hb dX2_countOf_67 rfl (lv_at hl 2 rfl) ?_
          refine lv_iload_n hx hb dX2_countOf_68 rfl (lv_at hl 3 rfl) ?_
          refine lv_iload hx hb dX2_countOf_69 (lv_at hl 7 rfl) ?_
          refine lv_iload hx hb dX2_countOf_71 (lv_at hl 1 rfl) ?_
          refine pu_V (As := [.int p0, .int (sp_X1_winner (S 4 p0.toNatClampNeg 0)), .int p2]) (rest := []) hc (c_X2_lastWinnerBefore l D K ad n d S p0 (sp_X1_winner (S 4 p0.toNatClampNeg 0)) p2 (tIn_eq hs_2 (by omega)) (Nat.le_of_lt (Nat.lt_of_lt_of_le (tIn_lt hs_2 (by omega)) hn))) (cwV 3 hts gX2_countOf_X2_lastWinnerBefore rfl rfl rfl (by decide +kernel) ⟨Nat.le_of_ble_eq_true rfl, Nat.le_of_ble_eq_true rfl⟩) hXP hK hE (va_recv hK hP (ci := 2) (q0 := 0) rfl rfl) rfl rfl hl.1 (Nat.le_of_ble_eq_true rfl) dX2_countOf_73 ⟨Nat.le_of_ble_eq_true rfl, Nat.le_of_ble_eq_true rfl⟩ ?_
          refine lv_iload hx hb dX2_countOf_76 (lv_at hl 1 rfl) ?_
          refine lv_icmp_ne (tgt := 84) hx hb dX2_countOf_78 (by decide) (fun c_78 => ?_) (fun c_78 => ?_)
          · skip
            refine lv_iload hx hb dX2_countOf_84 (lv_at hl 0 rfl) ?_
            exact pu_iret hx hb hr hlocks dX2_countOf_86 (Eq.symm (Eq.trans (if_pos hs_2) (Eq.trans (if_pos c_24) (Eq.trans (if_pos c_64) (Eq.trans (if_neg c_78) (rfl))))))
          · skip
            refine lv_iinc (v := (sp_X1_signsOfLoser (S 1 p0.toNatClampNeg) (S 2 p0.toNatClampNeg) (S 4 p0.toNatClampNeg 0) (S 5 p0.toNatClampNeg 0) p2) + 4) (lv' := [(7, .int ((sp_X1_signsOfLoser (S 1 p0.toNatClampNeg) (S 2 p0.toNatClampNeg) (S 4 p0.toNatClampNeg 0) (S 5 p0.toNatClampNeg 0) p2) + 4)), (6, .int p2), (0, .ref (ad 0 0)), (1, .int p0), (2, .int p1), (3, .int p2), (4, .ref (ad 4 p0.toNatClampNeg)), (5, .int (sp_X1_winner (S 4 p0.toNatClampNeg 0)))]) hx hb dX2_countOf_81 hl (k := 0) rfl (rfl) (by decide) rfl (fun ls hl => ?_)
            refine lv_iload hx hb dX2_countOf_84 (lv_at hl 0 rfl) ?_
            exact pu_iret hx hb hr hlocks dX2_countOf_86 (Eq.symm (Eq.trans (if_pos hs_2) (Eq.trans (if_pos c_24) (Eq.trans (if_pos c_64) (Eq.trans (if_pos c_78) (rfl))))))
      refine lv_icmp_ne (tgt := 45) hx hb dX2_countOf_38 (by decide) (fun c_38 => ?_) (fun c_38 => ?_)
      · skip
        exact absurd c_24 c_38
      · skip
        refine lv_iload_n hx hb dX2_countOf_41 rfl (lv_at hl 5 rfl) ?_
        refine lv_goto (tgt := 46) hx hb dX2_countOf_42 (by decide) ?_
        exact hj_38 ls (lv_sub hl [2, 3, 4, 5, 1, 0] rfl)
    · skip
      refine lv_iload hx hb dX2_countOf_27 (lv_at hl 0 rfl) ?_
      refine lv_iload_n hx hb dX2_countOf_29 rfl (lv_at hl 5 rfl) ?_
      refine lv_icmp_eq (tgt := 35) hx hb dX2_countOf_30 (by decide) (fun c_30 => ?_) (fun c_30 => ?_)
      · skip
        refine lv_iload hx hb dX2_countOf_35 (lv_at hl 0 rfl) ?_
        refine lv_iload_n hx hb dX2_countOf_37 rfl (lv_at hl 4 rfl) ?_
        have hj_38 : ∀ (ls : Array Slot), lv_has ls 8 [(0, .ref (ad 0 0)), (1, .int p0), (2, .int p1), (3, .int p2), (4, .ref (ad 4 p0.toNatClampNeg)), (5, .int (sp_X1_winner (S 4 p0.toNatClampNeg 0)))] → W p l e ({ frames := 4, cells := 0, slots := 0, locals := 85 } : Room) s m ([.ref (ad 0 0), .int p0, .int p1, .int p2] : List Value).toArray below meth c s.heap [] 0 0 (MQ below (QcV (.int (sp_X2_countOf n S p0 p1 p2))) ([.ref (ad 0 0), .int p0, .int p1, .int p2] : List Value).toArray s 0 0 (fun _ => False)) (F0 m 46 ls [.int p1]) := by
          intro ls hl
          refine lv_istore (lv' := [(6, .int p1), (0, .ref (ad 0 0)), (1, .int p0), (2, .int p1), (3, .int p2), (4, .ref (ad 4 p0.toNatClampNeg)), (5, .int (sp_X1_winner (S 4 p0.toNatClampNeg 0)))]) hx hb dX2_countOf_46 hl (by decide) rfl (fun ls hl => ?_)
          refine lv_aload hx hb dX2_countOf_48 (lv_at hl 5 rfl) ?_
          refine lv_iload hx hb dX2_countOf_50 (lv_at hl 0 rfl) ?_
          refine pu_V (As := [.int p1]) (rest := []) hc (c_X1_signsOfLoser l D K (ad 4 p0.toNatClampNeg) (ad 5 p0.toNatClampNeg) (ad 6 p0.toNatClampNeg) (S 1 p0.toNatClampNeg) (S 2 p0.toNatClampNeg) (S 3 p0.toNatClampNeg 0) (S 4 p0.toNatClampNeg 0) (S 5 p0.toNatClampNeg 0) (S 6 p0.toNatClampNeg 0) p1) (cwV 1 hts gX2_countOf_X1_signsOfLoser rfl rfl rfl (by decide +kernel) ⟨Nat.le_of_ble_eq_true rfl, Nat.le_of_ble_eq_true rfl⟩) (hT p0.toNatClampNeg (tIn_lt hs_2 (by omega))) hK hE (va_recv hK (hT p0.toNatClampNeg (tIn_lt hs_2 (by omega))) (ci := 1) (q0 := 0) rfl rfl) rfl rfl hl.1 (Nat.le_of_ble_eq_true rfl) dX2_countOf_52 ⟨Nat.le_of_ble_eq_true rfl, Nat.le_of_ble_eq_true rfl⟩ ?_
          refine lv_istore (lv' := [(7, .int (sp_X1_signsOfLoser (S 1 p0.toNatClampNeg) (S 2 p0.toNatClampNeg) (S 4 p0.toNatClampNeg 0) (S 5 p0.toNatClampNeg 0) p1)), (6, .int p1), (0, .ref (ad 0 0)), (1, .int p0), (2, .int p1), (3, .int p2), (4, .ref (ad 4 p0.toNatClampNeg)), (5, .int (sp_X1_winner (S 4 p0.toNatClampNeg 0)))]) hx hb dX2_countOf_55 hl (by decide) rfl (fun ls hl => ?_)
          refine lv_aload hx hb dX2_countOf_57 (lv_at hl 6 rfl) ?_
          refine lv_iload hx hb dX2_countOf_59 (lv_at hl 1 rfl) ?_
          refine pu_V (As := [.int p1]) (rest := []) hc (c_X1_isStanding l D K (ad 4 p0.toNatClampNeg) (ad 5 p0.toNatClampNeg) (ad 6 p0.toNatClampNeg) (S 1 p0.toNatClampNeg) (S 2 p0.toNatClampNeg) (S 3 p0.toNatClampNeg 0) (S 4 p0.toNatClampNeg 0) (S 5 p0.toNatClampNeg 0) (S 6 p0.toNatClampNeg 0) p1) (cwV 1 hts gX2_countOf_X1_isStanding rfl rfl rfl (by decide +kernel) ⟨Nat.le_of_ble_eq_true rfl, Nat.le_of_ble_eq_true rfl⟩) (hT p0.toNatClampNeg (tIn_lt hs_2 (by omega))) hK hE (va_recv hK (hT p0.toNatClampNeg (tIn_lt hs_2 (by omega))) (ci := 1) (q0 := 0) rfl rfl) rfl rfl hl.1 (Nat.le_of_ble_eq_true rfl) dX2_countOf_61 ⟨Nat.le_of_ble_eq_true rfl, Nat.le_of_ble_eq_true rfl⟩ ?_
          refine lb_eq (tgt := 84) hx hb dX2_countOf_64 (by decide) (fun c_64 => ?_) (fun c_64 => ?_)
          · skip
            refine lv_iload hx hb dX2_countOf_84 (lv_at hl 0 rfl) ?_
            exact pu_iret hx hb hr hlocks dX2_countOf_86 (Eq.symm (Eq.trans (if_pos hs_2) (Eq.trans (if_neg c_24) (Eq.trans (if_pos c_30) (Eq.trans (if_neg (ntr c_64)) (rfl))))))
          · skip
            refine lv_aload_n hx hb dX2_countOf_67 rfl (lv_at hl 2 rfl) ?_
            refine lv_iload_n hx hb dX2_countOf_68 rfl (lv_at hl 3 rfl) ?_
            refine lv_iload hx hb dX2_countOf_69 (lv_at hl 7 rfl) ?_
            refine lv_iload hx hb dX2_countOf_71 (lv_at hl 1 rfl) ?_
            refine pu_V (As := [.int p0, .int (sp_X1_winner (S 4 p0.toNatClampNeg 0)), .int p1]) (rest := []) hc (c_X2_lastWinnerBefore l D K ad n d S p0 (sp_X1_winner (S 4 p0.toNatClampNeg 0)) p1 (tIn_eq hs_2 (by omega)) (Nat.le_of_lt (Nat.lt_of_lt_of_le (tIn_lt hs_2 (by omega)) hn))) (cwV 3 hts gX2_countOf_X2_lastWinnerBefore rfl rfl rfl (by decide +kernel) ⟨Nat.le_of_ble_eq_true rfl, Nat.le_of_ble_eq_true rfl⟩) hXP hK hE (va_recv hK hP (ci := 2) (q0 := 0) rfl rfl) rfl rfl hl.1 (Nat.le_of_ble_eq_true rfl) dX2_countOf_73 ⟨Nat.le_of_ble_eq_true rfl, Nat.le_of_ble_eq_true rfl⟩ ?_
            refine lv_iload hx hb dX2_countOf_76 (lv_at hl 1 rfl) ?_
            refine lv_icmp_ne (tgt := 84) hx hb dX2_countOf_78 (by decide) (fun c_78 => ?_) (fun c_78 => ?_)
            · skip
              refine lv_iload hx hb dX2_countOf_84 (lv_at hl 0 rfl) ?_
              exact pu_iret hx hb hr hlocks dX2_countOf_86 (Eq.symm (Eq.trans (if_pos hs_2) (Eq.trans (if_neg c_24) (Eq.trans (if_pos c_30) (Eq.trans (if_pos c_64) (Eq.trans (if_neg c_78) (rfl)))))))
            · skip
              refine lv_iinc (v := (sp_X1_signsOfLoser (S 1 p0.toNatClampNeg) (S 2 p0.toNatClampNeg) (S 4 p0.toNatClampNeg 0) (S 5 p0.toNatClampNeg 0) p1) + 4) (lv' := [(7, .int ((sp_X1_signsOfLoser (S 1 p0.toNatClampNeg) (S 2 p0.toNatClampNeg) (S 4 p0.toNatClampNeg 0) (S 5 p0.toNatClampNeg 0) p1) + 4)), (6, .int p1), (0, .ref (ad 0 0)), (1, .int p0), (2, .int p1), (3, .int p2), (4, .ref (ad 4 p0.toNatClampNeg)), (5, .int (sp_X1_winner (S 4 p0.toNatClampNeg 0)))]) hx hb dX2_countOf_81 hl (k := 0) rfl (rfl) (by decide) rfl (fun ls hl => ?_)
              refine lv_iload hx hb dX2_countOf_84 (lv_at hl 0 rfl) ?_
              exact pu_iret hx hb hr hlocks dX2_countOf_86 (Eq.symm (Eq.trans (if_pos hs_2) (Eq.trans (if_neg c_24) (Eq.trans (if_pos c_30) (Eq.trans (if_pos c_64) (Eq.trans (if_pos c_78) (rfl)))))))
        refine lv_icmp_ne (tgt := 45) hx hb dX2_countOf_38 (by decide) (fun c_38 => ?_) (fun c_38 => ?_)
        · skip
          refine lv_iload_n hx hb dX2_countOf_45 rfl (lv_at hl 4 rfl) ?_
          exact hj_38 ls (lv_sub hl [2, 3, 4, 5, 1, 0] rfl)
        · skip
          exact absurd c_38 c_24
      · skip
        refine lv_iconst (v := 0) hx hb dX2_countOf_33 (by decide) ?_
        exact pu_iret hx hb hr hlocks dX2_countOf_34 (Eq.symm (Eq.trans (if_pos hs_2) (Eq.trans (if_neg c_24) (Eq.trans (if_neg c_30) (rfl)))))
  · skip
    refine W.eq (g2 := F0 m 5 ls [.null]) (by rw [qs_2]; rfl) ?_
    refine lv_astoreN (lv' := [(4, .null), (0, .ref (ad 0 0)), (1, .int p0), (2, .int p1), (3, .int p2)]) hx hb dX2_countOf_5 hl (by decide) rfl (fun ls hl => ?_)
    refine lv_aloadN hx hb dX2_countOf_7 (lv_at hl 0 rfl) ?_
    refine lv_ifnonnullN hx hb dX2_countOf_9 ?_
    refine lv_iconst (v := 0) hx hb dX2_countOf_12 (by decide) ?_
    exact pu_iret hx hb hr hlocks dX2_countOf_13 (Eq.symm (Eq.trans (if_neg (ntr hs_2)) (rfl)))

def sp_X2_suspicionOf_L5 (n : Nat) (S : Nat → Nat → Nat → Int32) (p0 : Int32) (p1 : Int32) : Nat → Int32
  | 0 => 0
  | k + 1 => (sp_X2_suspicionOf_L5 n S p0 p1 k) + (sp_X2_countOf n S (nI k) p0 p1)
def sp_X2_suspicionOf (n : Nat) (S : Nat → Nat → Nat → Int32) (p0 : Int32) (p1 : Int32) : Int32 := sp_X2_suspicionOf_L5 n S p0 p1 30
set_option maxHeartbeats 4000000 in
set_option maxRecDepth 100000 in
theorem c_X2_suspicionOf (l : Launch) (D : va_G) (K : Nat → ClassId) (ad : Nat → Nat → Nat) (n d : Nat) (S : Nat → Nat → Nat → Int32) (p0 p1 : Int32) : PU l yX2_suspicionOf wsX2_suspicionOf 5 112 D K [.ref (ad 0 0), .int p0, .int p1] (fun H => XP D K ad n d S H) (.int (sp_X2_suspicionOf n S p0 p1)) := by
  refine Met.ofW (cc := cX2_suspicionOf) (maxL := 5) (ret := (some .int)) (by decide) rfl ?_
  intro p e s m args below meth c s₁ B hml hv
  obtain ⟨rfl, hP, hK, hE⟩ := hv
  have hx := B.exec
  have hb := B.bytes
  have hr := B.returns
  have hts := atoms_spec (ws := wsX2_suspicionOf) B.pre
  have hown : s.vm.findClass RX2 = some m.cls := findClass_of_methodNamed B.named
  have hlocks := B.notSynchronized
  have hc : CallFix p m c cX2_suspicionOf 5 s ([.ref (ad 0 0), .int p0, .int p1] : List Value).toArray wsX2_suspicionOf RX2 := ⟨hx, hb, hml, hown, hts⟩
  have hin2 : ∀ w ∈ u_ws RX2 TX2 6, w ∈ wsX2_suspicionOf := by decide +kernel
  have hXP := hP
  obtain ⟨hn, hd, hP, hT, hF⟩ := hP
  have hP : va_P D vwCl (xW K ad n d S) s.heap := hP
  have hl := lv_entry ([.ref (ad 0 0), .int p0, .int p1]) (n := 5) (Nat.le_of_ble_eq_true rfl)
  rw [lg_entry_eq]
  generalize (lg_sl ([.ref (ad 0 0), .int p0, .int p1]) ++ List.replicate (5 - (lg_sl ([.ref (ad 0 0), .int p0, .int p1])).length) Slot.unset).toArray = ls at hl ⊢
  have hl : lv_has ls 5 [(0, .ref (ad 0 0)), (1, .int p0), (2, .int p1)] := hl
  refine lv_iconst (v := 0) hx hb dX2_suspicionOf_0 (by decide) ?_
  refine lv_istore_n (lv' := [(3, .int 0), (0, .ref (ad 0 0)), (1, .int p0), (2, .int p1)]) hx hb dX2_suspicionOf_1 rfl hl (by decide) rfl (fun ls hl => ?_)
  refine lv_iconst (v := 0) hx hb dX2_suspicionOf_2 (by decide) ?_
  refine lv_istore (lv' := [(4, .int 0), (3, .int 0), (0, .ref (ad 0 0)), (1, .int p0), (2, .int p1)]) hx hb dX2_suspicionOf_3 hl (by decide) rfl (fun ls hl => ?_)
  have hloop_5 : ∀ (n5 k : Nat), k ≤ 30 → 30 + 1 ≤ k + n5 → ∀ (a5_3 x5 : Int32) (ls : Array Slot), a5_3 = sp_X2_suspicionOf_L5 n S p0 p1 k → x5 = nI k → lv_has ls 5 [(0, .ref (ad 0 0)), (1, .int p0), (2, .int p1), (3, .int a5_3), (4, .int x5)] → W p l e ({ frames := 5, cells := 0, slots := 0, locals := 112 } : Room) s m ([.ref (ad 0 0), .int p0, .int p1] : List Value).toArray below meth c s.heap [] 0 0 (MQ below (QcV (.int (sp_X2_suspicionOf n S p0 p1))) ([.ref (ad 0 0), .int p0, .int p1] : List Value).toArray s 0 0 (fun _ => False)) (F0 m 5 ls []) := by
    intro n5
    induction n5 with
    | zero => intro k h1 h2; exact absurd h2 (by omega)
    | succ n5 ih_5 =>
      intro k hk_5 hn_5 a5_3 x5 ls ea5_3 ex5 hl
      subst ea5_3
      subst ex5
      refine lv_iload hx hb dX2_suspicionOf_5 (lv_at hl 4 rfl) ?_
      refine lv_aload_n hx hb dX2_suspicionOf_7 rfl (lv_at hl 0 rfl) ?_
      refine va_get (D := D) (ci := 2) (v := .ref (ad 1 0)) (C := RX2) (T := TX2) (N := 6) hx hb hts hin2 hown hK hP 0 rfl rfl 0 (by decide) (hts (.fieldLink RX2 11 "CartelWatch" "tenders" "[LCartelWatch$Tender;") (by decide +kernel)) (fun _ h9 => h9) rfl dX2_suspicionOf_8 ?_
      refine va_alen (v := 30) hx hb hK hP 1 3 rfl rfl rfl dX2_suspicionOf_11 ?_
      refine lv_icmp_ge (tgt := 32) hx hb dX2_suspicionOf_12 (by decide) (fun c_12 => ?_) (fun c_12 => ?_)
      · skip
        have hke_5 : k = 30 := lp_end rfl c_12 hk_5 (by decide)
        subst hke_5
        refine lv_iload_n hx hb dX2_suspicionOf_32 rfl (lv_at hl 3 rfl) ?_
        exact pu_iret hx hb hr hlocks dX2_suspicionOf_33 (Eq.symm (rfl))
      · skip
        have hlt_5 : k < 30 := lp_in rfl c_12 hk_5 (by decide)
        refine lv_iload_n hx hb dX2_suspicionOf_15 rfl (lv_at hl 3 rfl) ?_
        refine lv_aload_n hx hb dX2_suspicionOf_16 rfl (lv_at hl 0 rfl) ?_
        refine lv_iload hx hb dX2_suspicionOf_17 (lv_at hl 4 rfl) ?_
        refine lv_iload_n hx hb dX2_suspicionOf_19 rfl (lv_at hl 1 rfl) ?_
        refine lv_iload_n hx hb dX2_suspicionOf_20 rfl (lv_at hl 2 rfl) ?_
        refine pu_V (As := [.int (nI k), .int p0, .int p1]) (rest := [.int (sp_X2_suspicionOf_L5 n S p0 p1 k)]) hc (c_X2_countOf l D K ad n d S (nI k) p0 p1) (cwV 3 hts gX2_suspicionOf_X2_countOf rfl rfl rfl (by decide +kernel) ⟨Nat.le_of_ble_eq_true rfl, Nat.le_of_ble_eq_true rfl⟩) hXP hK hE (va_recv hK hP (ci := 2) (q0 := 0) rfl rfl) rfl rfl hl.1 (Nat.le_of_ble_eq_true rfl) dX2_suspicionOf_21 ⟨Nat.le_of_ble_eq_true rfl, Nat.le_of_ble_eq_true rfl⟩ ?_
        refine lv_iadd hx hb dX2_suspicionOf_24 ?_
        refine lv_istore_n (lv' := [(3, .int ((sp_X2_suspicionOf_L5 n S p0 p1 k) + (sp_X2_countOf n S (nI k) p0 p1))), (0, .ref (ad 0 0)), (1, .int p0), (2, .int p1), (4, .int (nI k))]) hx hb dX2_suspicionOf_25 rfl hl (by decide) rfl (fun ls hl => ?_)
        refine lv_iinc (v := (nI k) + 1) (lv' := [(4, .int ((nI k) + 1)), (3, .int ((sp_X2_suspicionOf_L5 n S p0 p1 k) + (sp_X2_countOf n S (nI k) p0 p1))), (0, .ref (ad 0 0)), (1, .int p0), (2, .int p1)]) hx hb dX2_suspicionOf_26 hl (k := 4) rfl (rfl) (by decide) rfl (fun ls hl => ?_)
        refine lv_goto (tgt := 5) hx hb dX2_suspicionOf_29 (by decide) ?_
        exact ih_5 (k + 1) hlt_5 (by omega) _ _ ls (Eq.symm (rfl)) (nI_1 k) (lv_sub hl [2, 3, 4, 1, 0] rfl)
  exact hloop_5 (30 + 1) 0 (Nat.zero_le _) (by omega) _ _ ls rfl nI_0.symm (lv_sub hl [2, 3, 4, 1, 0] rfl)

def wIn (f : Int32 → Int32 → Int32) (k : Nat) (i : Int32 × Int32) : Nat → Int32 × Int32
  | 0 => i
  | j + 1 => if f (nI k) (nI (k + 1 + j)) ≤ (wIn f k i j).2 then wIn f k i j else ((10 * (nI k)) + (nI (k + 1 + j)), f (nI k) (nI (k + 1 + j)))
def wOut (f : Int32 → Int32 → Int32) : Nat → Int32 × Int32
  | 0 => ((-1), 0)
  | k + 1 => wIn f k (wOut f k) (6 - k)

def sp_X2_worst (n : Nat) (S : Nat → Nat → Nat → Int32) : Int32 := (wOut (sp_X2_suspicionOf n S) 7).1
set_option maxHeartbeats 4000000 in
set_option maxRecDepth 100000 in
theorem c_X2_worst (l : Launch) (D : va_G) (K : Nat → ClassId) (ad : Nat → Nat → Nat) (n d : Nat) (S : Nat → Nat → Nat → Int32) : PU l yX2_worst wsX2_worst 6 136 D K [.ref (ad 0 0)] (fun H => XP D K ad n d S H) (.int (sp_X2_worst n S)) := by
  refine Met.ofW (cc := cX2_worst) (maxL := 6) (ret := (some .int)) (by decide) rfl ?_
  intro p e s m args below meth c s₁ B hml hv
  obtain ⟨rfl, hP, hK, hE⟩ := hv
  have hx := B.exec
  have hb := B.bytes
  have hr := B.returns
  have hts := atoms_spec (ws := wsX2_worst) B.pre
  have hown : s.vm.findClass RX2 = some m.cls := findClass_of_methodNamed B.named
  have hlocks := B.notSynchronized
  have hc : CallFix p m c cX2_worst 6 s ([.ref (ad 0 0)] : List Value).toArray wsX2_worst RX2 := ⟨hx, hb, hml, hown, hts⟩
  have hXP := hP
  obtain ⟨hn, hd, hP, hT, hF⟩ := hP
  have hP : va_P D vwCl (xW K ad n d S) s.heap := hP
  have hl := lv_entry ([.ref (ad 0 0)]) (n := 6) (Nat.le_of_ble_eq_true rfl)
  rw [lg_entry_eq]
  generalize (lg_sl ([.ref (ad 0 0)]) ++ List.replicate (6 - (lg_sl ([.ref (ad 0 0)])).length) Slot.unset).toArray = ls at hl ⊢
  have hl : lv_has ls 6 [(0, .ref (ad 0 0))] := hl
  refine lv_iconst (v := -1) hx hb dX2_worst_0 (by decide) ?_
  refine lv_istore_n (lv' := [(1, .int (-1)), (0, .ref (ad 0 0))]) hx hb dX2_worst_1 rfl hl (by decide) rfl (fun ls hl => ?_)
  refine lv_iconst (v := 0) hx hb dX2_worst_2 (by decide) ?_
  refine lv_istore_n (lv' := [(2, .int 0), (1, .int (-1)), (0, .ref (ad 0 0))]) hx hb dX2_worst_3 rfl hl (by decide) rfl (fun ls hl => ?_)
  refine lv_iconst (v := 0) hx hb dX2_worst_4 (by decide) ?_
  refine lv_istore_n (lv' := [(3, .int 0), (2, .int 0), (1, .int (-1)), (0, .ref (ad 0 0))]) hx hb dX2_worst_5 rfl hl (by decide) rfl (fun ls hl => ?_)
  have hloop_6 : ∀ (n6 k : Nat), k ≤ 7 → 7 + 1 ≤ k + n6 → ∀ (a6_1 a6_2 x6 : Int32) (ls : Array Slot), a6_1 = (wOut (sp_X2_suspicionOf n S) k).1 → a6_2 = (wOut (sp_X2_suspicionOf n S) k).2 → x6 = nI k → lv_has ls 6 [(0, .ref (ad 0 0)), (1, .int a6_1), (2, .int a6_2), (3, .int x6)] → W p l e ({ frames := 6, cells := 0, slots := 0, locals := 136 } : Room) s m ([.ref (ad 0 0)] : List Value).toArray below meth c s.heap [] 0 0 (MQ below (QcV (.int (sp_X2_worst n S))) ([.ref (ad 0 0)] : List Value).toArray s 0 0 (fun _ => False)) (F0 m 6 ls []) := by
    intro n6
    induction n6 with
    | zero => intro k h1 h2; exact absurd h2 (by omega)
    | succ n6 ih_6 =>
      intro k hk_6 hn_6 a6_1 a6_2 x6 ls ea6_1 ea6_2 ex6 hl
      subst ea6_1
      subst ea6_2
      subst ex6
      refine lv_iload_n hx hb dX2_worst_6 rfl (lv_at hl 3 rfl) ?_
      refine lv_bipush (v := 7) hx hb dX2_worst_7 (by decide) ?_
      refine lv_icmp_ge (tgt := 62) hx hb dX2_worst_9 (by decide) (fun c_9 => ?_) (fun c_9 => ?_)
      · skip
        have hke_6 : k = 7 := lp_end rfl c_9 hk_6 (by decide)
        subst hke_6
        refine lv_iload_n hx hb dX2_worst_62 rfl (lv_at hl 1 rfl) ?_
        exact pu_iret hx hb hr hlocks dX2_worst_63 (Eq.symm (rfl))
      · skip
        have hlt_6 : k < 7 := lp_in rfl c_9 hk_6 (by decide)
        refine lv_iload_n hx hb dX2_worst_12 rfl (lv_at hl 3 rfl) ?_
        refine lv_iconst (v := 1) hx hb dX2_worst_13 (by decide) ?_
        refine lv_iadd hx hb dX2_worst_14 ?_
        refine lv_istore (lv' := [(4, .int ((nI k) + 1)), (0, .ref (ad 0 0)), (1, .int ((wOut (sp_X2_suspicionOf n S) k).1)), (2, .int ((wOut (sp_X2_suspicionOf n S) k).2)), (3, .int (nI k))]) hx hb dX2_worst_15 hl (by decide) rfl (fun ls hl => ?_)
        have hloop_17 : ∀ (n17 j : Nat), j ≤ (6 - k) → (6 - k) + 1 ≤ j + n17 → ∀ (a17_1 a17_2 x17 : Int32) (ls : Array Slot), a17_1 = (wIn (sp_X2_suspicionOf n S) k (wOut (sp_X2_suspicionOf n S) k) j).1 → a17_2 = (wIn (sp_X2_suspicionOf n S) k (wOut (sp_X2_suspicionOf n S) k) j).2 → x17 = nI (k + 1 + j) → lv_has ls 6 [(0, .ref (ad 0 0)), (1, .int a17_1), (2, .int a17_2), (3, .int (nI k)), (4, .int x17)] → W p l e ({ frames := 6, cells := 0, slots := 0, locals := 136 } : Room) s m ([.ref (ad 0 0)] : List Value).toArray below meth c s.heap [] 0 0 (MQ below (QcV (.int (sp_X2_worst n S))) ([.ref (ad 0 0)] : List Value).toArray s 0 0 (fun _ => False)) (F0 m 17 ls []) := by
          intro n17
          induction n17 with
          | zero => intro j h1 h2; exact absurd h2 (by omega)
          | succ n17 ih_17 =>
            intro j hk_17 hn_17 a17_1 a17_2 x17 ls ea17_1 ea17_2 ex17 hl
            subst ea17_1
            subst ea17_2
            subst ex17
            refine lv_iload hx hb dX2_worst_17 (lv_at hl 4 rfl) ?_
            refine lv_bipush (v := 7) hx hb dX2_worst_19 (by decide) ?_
            refine lv_icmp_ge (tgt := 56) hx hb dX2_worst_21 (by decide) (fun c_21 => ?_) (fun c_21 => ?_)
            · skip
              have hke_17 : j = 6 - k := by have := lp_end (N := 7) rfl c_21 (by omega) (by decide); omega
              subst hke_17
              refine lv_iinc (v := (nI k) + 1) (lv' := [(3, .int ((nI k) + 1)), (0, .ref (ad 0 0)), (1, .int ((wIn (sp_X2_suspicionOf n S) k (wOut (sp_X2_suspicionOf n S) k) (6 - k)).1)), (2, .int ((wIn (sp_X2_suspicionOf n S) k (wOut (sp_X2_suspicionOf n S) k) (6 - k)).2)), (4, .int (nI (k + 1 + (6 - k))))]) hx hb dX2_worst_56 hl (k := 3) rfl (rfl) (by decide) rfl (fun ls hl => ?_)
              refine lv_goto (tgt := 6) hx hb dX2_worst_59 (by decide) ?_
              exact ih_6 (k + 1) hlt_6 (by omega) _ _ _ ls (congrArg Prod.fst (Eq.symm (rfl))) (congrArg Prod.snd (Eq.symm (rfl))) (nI_1 k) (lv_sub hl [1, 2, 3, 0] rfl)
            · skip
              have hlt_17 : j < 6 - k := by have := lp_in (N := 7) rfl c_21 (by omega) (by decide); omega
              refine lv_aload_n hx hb dX2_worst_24 rfl (lv_at hl 0 rfl) ?_
              refine lv_iload_n hx hb dX2_worst_25 rfl (lv_at hl 3 rfl) ?_
              refine lv_iload hx hb dX2_worst_26 (lv_at hl 4 rfl) ?_
              refine pu_V (As := [.int (nI k), .int (nI (k + 1 + j))]) (rest := []) hc (c_X2_suspicionOf l D K ad n d S (nI k) (nI (k + 1 + j))) (cwV 2 hts gX2_worst_X2_suspicionOf rfl rfl rfl (by decide +kernel) ⟨Nat.le_of_ble_eq_true rfl, Nat.le_of_ble_eq_true rfl⟩) hXP hK hE (va_recv hK hP (ci := 2) (q0 := 0) rfl rfl) rfl rfl hl.1 (Nat.le_of_ble_eq_true rfl) dX2_worst_28 ⟨Nat.le_of_ble_eq_true rfl, Nat.le_of_ble_eq_true rfl⟩ ?_
              refine lv_istore (lv' := [(5, .int (sp_X2_suspicionOf n S (nI k) (nI (k + 1 + j)))), (0, .ref (ad 0 0)), (1, .int ((wIn (sp_X2_suspicionOf n S) k (wOut (sp_X2_suspicionOf n S) k) j).1)), (2, .int ((wIn (sp_X2_suspicionOf n S) k (wOut (sp_X2_suspicionOf n S) k) j).2)), (3, .int (nI k)), (4, .int (nI (k + 1 + j)))]) hx hb dX2_worst_31 hl (by decide) rfl (fun ls hl => ?_)
              refine lv_iload hx hb dX2_worst_33 (lv_at hl 0 rfl) ?_
              refine lv_iload_n hx hb dX2_worst_35 rfl (lv_at hl 3 rfl) ?_
              refine lv_icmp_le (tgt := 50) hx hb dX2_worst_36 (by decide) (fun c_36 => ?_) (fun c_36 => ?_)
              · skip
                refine lv_iinc (v := (nI (k + 1 + j)) + 1) (lv' := [(4, .int ((nI (k + 1 + j)) + 1)), (5, .int (sp_X2_suspicionOf n S (nI k) (nI (k + 1 + j)))), (0, .ref (ad 0 0)), (1, .int ((wIn (sp_X2_suspicionOf n S) k (wOut (sp_X2_suspicionOf n S) k) j).1)), (2, .int ((wIn (sp_X2_suspicionOf n S) k (wOut (sp_X2_suspicionOf n S) k) j).2)), (3, .int (nI k))]) hx hb dX2_worst_50 hl (k := 5) rfl (rfl) (by decide) rfl (fun ls hl => ?_)
                refine lv_goto (tgt := 17) hx hb dX2_worst_53 (by decide) ?_
                exact ih_17 (j + 1) hlt_17 (by omega) _ _ _ ls (congrArg Prod.fst (Eq.symm (Eq.trans (if_pos c_36) (rfl)))) (congrArg Prod.snd (Eq.symm (Eq.trans (if_pos c_36) (rfl)))) (nI_1 (k + 1 + j)) (lv_sub hl [2, 3, 4, 5, 0] rfl)
              · skip
                refine lv_iload hx hb dX2_worst_39 (lv_at hl 0 rfl) ?_
                refine lv_istore_n (lv' := [(2, .int (sp_X2_suspicionOf n S (nI k) (nI (k + 1 + j)))), (5, .int (sp_X2_suspicionOf n S (nI k) (nI (k + 1 + j)))), (0, .ref (ad 0 0)), (1, .int ((wIn (sp_X2_suspicionOf n S) k (wOut (sp_X2_suspicionOf n S) k) j).1)), (3, .int (nI k)), (4, .int (nI (k + 1 + j)))]) hx hb dX2_worst_41 rfl hl (by decide) rfl (fun ls hl => ?_)
                refine lv_bipush (v := 10) hx hb dX2_worst_42 (by decide) ?_
                refine lv_iload_n hx hb dX2_worst_44 rfl (lv_at hl 4 rfl) ?_
                refine lv_imul hx hb dX2_worst_45 ?_
                refine lv_iload hx hb dX2_worst_46 (lv_at hl 5 rfl) ?_
                refine lv_iadd hx hb dX2_worst_48 ?_
                refine lv_istore_n (lv' := [(1, .int ((10 * (nI k)) + (nI (k + 1 + j)))), (2, .int (sp_X2_suspicionOf n S (nI k) (nI (k + 1 + j)))), (5, .int (sp_X2_suspicionOf n S (nI k) (nI (k + 1 + j)))), (0, .ref (ad 0 0)), (3, .int (nI k)), (4, .int (nI (k + 1 + j)))]) hx hb dX2_worst_49 rfl hl (by decide) rfl (fun ls hl => ?_)
                refine lv_iinc (v := (nI (k + 1 + j)) + 1) (lv' := [(4, .int ((nI (k + 1 + j)) + 1)), (1, .int ((10 * (nI k)) + (nI (k + 1 + j)))), (2, .int (sp_X2_suspicionOf n S (nI k) (nI (k + 1 + j)))), (5, .int (sp_X2_suspicionOf n S (nI k) (nI (k + 1 + j)))), (0, .ref (ad 0 0)), (3, .int (nI k))]) hx hb dX2_worst_50 hl (k := 5) rfl (rfl) (by decide) rfl (fun ls hl => ?_)
                refine lv_goto (tgt := 17) hx hb dX2_worst_53 (by decide) ?_
                exact ih_17 (j + 1) hlt_17 (by omega) _ _ _ ls (congrArg Prod.fst (Eq.symm (Eq.trans (if_neg c_36) (rfl)))) (congrArg Prod.snd (Eq.symm (Eq.trans (if_neg c_36) (rfl)))) (nI_1 (k + 1 + j)) (lv_sub hl [4, 1, 2, 5, 0] rfl)
        exact hloop_17 ((6 - k) + 1) 0 (Nat.zero_le _) (by omega) _ _ _ ls rfl rfl (nI_1 k) (lv_sub hl [1, 2, 3, 4, 0] rfl)
  exact hloop_6 (7 + 1) 0 (Nat.zero_le _) (by omega) _ _ _ ls rfl rfl nI_0.symm (lv_sub hl [3, 2, 1, 0] rfl)

def sp_X2_hasDossier_A (d : Nat) (S : Nat → Nat → Nat → Int32) (p0 p1 : Int32) : Nat → Nat → Bool
  | 0, _ => false
  | f + 1, k => if tIn d (nI k) = true then (if sp_X0_isOf (S 7 ((nI k).toNatClampNeg) 0) (S 8 ((nI k).toNatClampNeg) 0) p0 = true then (if sp_X0_isOf (S 7 ((nI k).toNatClampNeg) 0) (S 8 ((nI k).toNatClampNeg) 0) p1 = true then true else (sp_X2_hasDossier_A d S p0 p1 f (k + 1))) else (sp_X2_hasDossier_A d S p0 p1 f (k + 1))) else (sp_X2_hasDossier_A d S p0 p1 f (k + 1))
def sp_X2_hasDossier (d : Nat) (S : Nat → Nat → Nat → Int32) (p0 : Int32) (p1 : Int32) : Bool := sp_X2_hasDossier_A d S p0 p1 20 0
set_option maxHeartbeats 4000000 in
set_option maxRecDepth 100000 in
theorem c_X2_hasDossier (l : Launch) (D : va_G) (K : Nat → ClassId) (ad : Nat → Nat → Nat) (n d : Nat) (S : Nat → Nat → Nat → Int32) (p0 p1 : Int32) : PU l yX2_hasDossier wsX2_hasDossier 1 21 D K [.ref (ad 0 0), .int p0, .int p1] (fun H => XP D K ad n d S H) (.int (bI (sp_X2_hasDossier d S p0 p1))) := by
  refine Met.ofW (cc := cX2_hasDossier) (maxL := 7) (ret := (some .boolean)) (by decide) rfl ?_
  intro p e s m args below meth c s₁ B hml hv
  obtain ⟨rfl, hP, hK, hE⟩ := hv
  have hx := B.exec
  have hb := B.bytes
  have hr := B.returns
  have hts := atoms_spec (ws := wsX2_hasDossier) B.pre
  have hown : s.vm.findClass RX2 = some m.cls := findClass_of_methodNamed B.named
  have hlocks := B.notSynchronized
  have hc : CallFix p m c cX2_hasDossier 7 s ([.ref (ad 0 0), .int p0, .int p1] : List Value).toArray wsX2_hasDossier RX2 := ⟨hx, hb, hml, hown, hts⟩
  have hin2 : ∀ w ∈ u_ws RX2 TX2 6, w ∈ wsX2_hasDossier := by decide +kernel
  have hXP := hP
  obtain ⟨hn, hd, hP, hT, hF⟩ := hP
  have hP : va_P D vwCl (xW K ad n d S) s.heap := hP
  have hl := lv_entry ([.ref (ad 0 0), .int p0, .int p1]) (n := 7) (Nat.le_of_ble_eq_true rfl)
  rw [lg_entry_eq]
  generalize (lg_sl ([.ref (ad 0 0), .int p0, .int p1]) ++ List.replicate (7 - (lg_sl ([.ref (ad 0 0), .int p0, .int p1])).length) Slot.unset).toArray = ls at hl ⊢
  have hl : lv_has ls 7 [(0, .ref (ad 0 0)), (1, .int p0), (2, .int p1)] := hl
  refine lv_aload_n hx hb dX2_hasDossier_0 rfl (lv_at hl 0 rfl) ?_
  refine va_get (D := D) (ci := 2) (v := .ref (ad 2 0)) (C := RX2) (T := TX2) (N := 6) hx hb hts hin2 hown hK hP 0 rfl rfl 2 (by decide) (hts (.fieldLink RX2 21 "CartelWatch" "dossiers" "[LCartelWatch$Dossier;") (by decide +kernel)) (fun _ h9 => h9) rfl dX2_hasDossier_1 ?_
  refine lv_astore_n (lv' := [(3, .ref (ad 2 0)), (0, .ref (ad 0 0)), (1, .int p0), (2, .int p1)]) hx hb dX2_hasDossier_4 rfl hl (by decide) rfl (fun ls hl => ?_)
  refine lv_aload_n hx hb dX2_hasDossier_5 rfl (lv_at hl 0 rfl) ?_
  refine va_alen (v := 20) hx hb hK hP 2 2 rfl rfl rfl dX2_hasDossier_6 ?_
  refine lv_istore (lv' := [(4, .int 20), (3, .ref (ad 2 0)), (0, .ref (ad 0 0)), (1, .int p0), (2, .int p1)]) hx hb dX2_hasDossier_7 hl (by decide) rfl (fun ls hl => ?_)
  refine lv_iconst (v := 0) hx hb dX2_hasDossier_9 (by decide) ?_
  refine lv_istore (lv' := [(5, .int 0), (4, .int 20), (3, .ref (ad 2 0)), (0, .ref (ad 0 0)), (1, .int p0), (2, .int p1)]) hx hb dX2_hasDossier_10 hl (by decide) rfl (fun ls hl => ?_)
  have hloop_12 : ∀ (f k : Nat), k + f = 20 → ∀ (x12 : Int32) (ls : Array Slot), x12 = nI k → sp_X2_hasDossier_A d S p0 p1 f k = sp_X2_hasDossier d S p0 p1 → lv_has ls 7 [(0, .ref (ad 0 0)), (1, .int p0), (2, .int p1), (3, .ref (ad 2 0)), (4, .int 20), (5, .int x12)] → W p l e ({ frames := 1, cells := 0, slots := 0, locals := 21 } : Room) s m ([.ref (ad 0 0), .int p0, .int p1] : List Value).toArray below meth c s.heap [] 0 0 (MQ below (QcV (.int (bI (sp_X2_hasDossier d S p0 p1)))) ([.ref (ad 0 0), .int p0, .int p1] : List Value).toArray s 0 0 (fun _ => False)) (F0 m 12 ls []) := by
    intro f
    induction f with
    | zero =>
      intro k hk_12 x12 ls ex12 hA_12 hl
      obtain rfl : k = 20 := hk_12
      subst ex12
      refine lv_iload hx hb dX2_hasDossier_12 (lv_at hl 5 rfl) ?_
      refine lv_iload hx hb dX2_hasDossier_14 (lv_at hl 4 rfl) ?_
      refine lv_icmp_ge (tgt := 56) hx hb dX2_hasDossier_16 (by decide) (fun c_16 => ?_) (fun c_16 => ?_)
      · skip
        refine lv_iconst (v := 0) hx hb dX2_hasDossier_56 (by decide) ?_
        exact pu_zret hx hb hr hlocks dX2_hasDossier_57 (bI_nar _) (bI_eq (a := false) (Eq.trans (Eq.symm (rfl)) hA_12))
      · skip
        exact absurd (by decide) c_16
    | succ f ih_12 =>
      intro k hk_12 x12 ls ex12 hA_12 hl
      have hlt_12 : k < 20 := by omega
      subst ex12
      refine lv_iload hx hb dX2_hasDossier_12 (lv_at hl 5 rfl) ?_
      refine lv_iload hx hb dX2_hasDossier_14 (lv_at hl 4 rfl) ?_
      refine lv_icmp_ge (tgt := 56) hx hb dX2_hasDossier_16 (by decide) (fun c_16 => ?_) (fun c_16 => ?_)
      · skip
        exact absurd c_16 (nI_ge hlt_12 (by decide))
      · skip
        refine lv_aload_n hx hb dX2_hasDossier_19 rfl (lv_at hl 3 rfl) ?_
        refine lv_iload hx hb dX2_hasDossier_20 (lv_at hl 5 rfl) ?_
        refine va_aldq hx hb hK hP 2 2 (cA := K 2) rfl rfl (vp_in_nI hlt_12 (by decide)) dX2_hasDossier_22 ?_
        rcases dArr_or (x := (nI k)) (vp_in_nI hlt_12 (by decide)) with ⟨hs_22, qs_22⟩ | ⟨hs_22, qs_22⟩
        · skip
          refine W.eq (g2 := F0 m 23 ls [.ref (ad 7 ((nI k).toNatClampNeg))]) (by rw [qs_22]; rfl) ?_
          refine lv_astore (lv' := [(6, .ref (ad 7 ((nI k).toNatClampNeg))), (0, .ref (ad 0 0)), (1, .int p0), (2, .int p1), (3, .ref (ad 2 0)), (4, .int 20), (5, .int (nI k))]) hx hb dX2_hasDossier_23 hl (by decide) rfl (fun ls hl => ?_)
          refine lv_aload hx hb dX2_hasDossier_25 (lv_at hl 0 rfl) ?_
          refine lv_ifnull hx hb dX2_hasDossier_27 ?_
          refine lv_aload hx hb dX2_hasDossier_30 (lv_at hl 0 rfl) ?_
          refine lv_iload_n hx hb dX2_hasDossier_32 rfl (lv_at hl 2 rfl) ?_
          refine pu_V (As := [.int p0]) (rest := []) hc (c_X0_isOf l D K (ad 7 ((nI k).toNatClampNeg)) (ad 8 ((nI k).toNatClampNeg)) (ad 9 ((nI k).toNatClampNeg)) (ad 10 ((nI k).toNatClampNeg)) (S 7 ((nI k).toNatClampNeg) 0) (S 8 ((nI k).toNatClampNeg) 0) (S 9 ((nI k).toNatClampNeg)) (S 10 ((nI k).toNatClampNeg)) (S 11 ((nI k).toNatClampNeg)) (S 12 ((nI k).toNatClampNeg) 0) (S 13 ((nI k).toNatClampNeg) 0) (S 14 ((nI k).toNatClampNeg) 0) p0) (cwV 1 hts gX2_hasDossier_X0_isOf rfl rfl rfl (by decide +kernel) ⟨Nat.le_of_ble_eq_true rfl, Nat.le_of_ble_eq_true rfl⟩) (hF ((nI k).toNatClampNeg) (tIn_lt hs_22 (by omega))) hK hE (va_recv hK (hF ((nI k).toNatClampNeg) (tIn_lt hs_22 (by omega))) (ci := 0) (q0 := 0) rfl rfl) rfl rfl hl.1 (Nat.le_of_ble_eq_true rfl) dX2_hasDossier_33 ⟨Nat.le_of_ble_eq_true rfl, Nat.le_of_ble_eq_true rfl⟩ ?_
          refine lb_eq (tgt := 50) hx hb dX2_hasDossier_36 (by decide) (fun c_36 => ?_) (fun c_36 => ?_)
          · skip
            refine lv_iinc (v := (nI k) + 1) (lv' := [(5, .int ((nI k) + 1)), (6, .ref (ad 7 ((nI k).toNatClampNeg))), (0, .ref (ad 0 0)), (1, .int p0), (2, .int p1), (3, .ref (ad 2 0)), (4, .int 20)]) hx hb dX2_hasDossier_50 hl (k := 6) rfl (rfl) (by decide) rfl (fun ls hl => ?_)
            refine lv_goto (tgt := 12) hx hb dX2_hasDossier_53 (by decide) ?_
            exact ih_12 (k + 1) (by omega) _ ls (nI_1 k) (Eq.trans (Eq.symm (Eq.trans (if_pos hs_22) (Eq.trans (if_neg (ntr c_36)) (rfl)))) hA_12) (lv_sub hl [2, 3, 4, 5, 6, 0] rfl)
          · skip
            refine lv_aload hx hb dX2_hasDossier_39 (lv_at hl 0 rfl) ?_
            refine lv_iload_n hx hb dX2_hasDossier_41 rfl (lv_at hl 3 rfl) ?_
            refine pu_V (As := [.int p1]) (rest := []) hc (c_X0_isOf l D K (ad 7 ((nI k).toNatClampNeg)) (ad 8 ((nI k).toNatClampNeg)) (ad 9 ((nI k).toNatClampNeg)) (ad 10 ((nI k).toNatClampNeg)) (S 7 ((nI k).toNatClampNeg) 0) (S 8 ((nI k).toNatClampNeg) 0) (S 9 ((nI k).toNatClampNeg)) (S 10 ((nI k).toNatClampNeg)) (S 11 ((nI k).toNatClampNeg)) (S 12 ((nI k).toNatClampNeg) 0) (S 13 ((nI k).toNatClampNeg) 0) (S 14 ((nI k).toNatClampNeg) 0) p1) (cwV 1 hts gX2_hasDossier_X0_isOf rfl rfl rfl (by decide +kernel) ⟨Nat.le_of_ble_eq_true rfl, Nat.le_of_ble_eq_true rfl⟩) (hF ((nI k).toNatClampNeg) (tIn_lt hs_22 (by omega))) hK hE (va_recv hK (hF ((nI k).toNatClampNeg) (tIn_lt hs_22 (by omega))) (ci := 0) (q0 := 0) rfl rfl) rfl rfl hl.1 (Nat.le_of_ble_eq_true rfl) dX2_hasDossier_42 ⟨Nat.le_of_ble_eq_true rfl, Nat.le_of_ble_eq_true rfl⟩ ?_
            refine lb_eq (tgt := 50) hx hb dX2_hasDossier_45 (by decide) (fun c_45 => ?_) (fun c_45 => ?_)
            · skip
              refine lv_iinc (v := (nI k) + 1) (lv' := [(5, .int ((nI k) + 1)), (6, .ref (ad 7 ((nI k).toNatClampNeg))), (0, .ref (ad 0 0)), (1, .int p0), (2, .int p1), (3, .ref (ad 2 0)), (4, .int 20)]) hx hb dX2_hasDossier_50 hl (k := 6) rfl (rfl) (by decide) rfl (fun ls hl => ?_)
              refine lv_goto (tgt := 12) hx hb dX2_hasDossier_53 (by decide) ?_
              exact ih_12 (k + 1) (by omega) _ ls (nI_1 k) (Eq.trans (Eq.symm (Eq.trans (if_pos hs_22) (Eq.trans (if_pos c_36) (Eq.trans (if_neg (ntr c_45)) (rfl))))) hA_12) (lv_sub hl [2, 3, 4, 5, 6, 0] rfl)
            · skip
              refine lv_iconst (v := 1) hx hb dX2_hasDossier_48 (by decide) ?_
              exact pu_zret hx hb hr hlocks dX2_hasDossier_49 (bI_nar _) (bI_eq (a := true) (Eq.trans (Eq.symm (Eq.trans (if_pos hs_22) (Eq.trans (if_pos c_36) (Eq.trans (if_pos c_45) (rfl))))) hA_12))
        · skip
          refine W.eq (g2 := F0 m 23 ls [.null]) (by rw [qs_22]; rfl) ?_
          refine lv_astoreN (lv' := [(6, .null), (0, .ref (ad 0 0)), (1, .int p0), (2, .int p1), (3, .ref (ad 2 0)), (4, .int 20), (5, .int (nI k))]) hx hb dX2_hasDossier_23 hl (by decide) rfl (fun ls hl => ?_)
          refine lv_aloadN hx hb dX2_hasDossier_25 (lv_at hl 0 rfl) ?_
          refine lv_ifnullN (tgt := 50) hx hb dX2_hasDossier_27 (by decide) ?_
          refine lv_iinc (v := (nI k) + 1) (lv' := [(5, .int ((nI k) + 1)), (6, .null), (0, .ref (ad 0 0)), (1, .int p0), (2, .int p1), (3, .ref (ad 2 0)), (4, .int 20)]) hx hb dX2_hasDossier_50 hl (k := 6) rfl (rfl) (by decide) rfl (fun ls hl => ?_)
          refine lv_goto (tgt := 12) hx hb dX2_hasDossier_53 (by decide) ?_
          exact ih_12 (k + 1) (by omega) _ ls (nI_1 k) (Eq.trans (Eq.symm (Eq.trans (if_neg (ntr hs_22)) (rfl))) hA_12) (lv_sub hl [2, 3, 4, 5, 6, 0] rfl)
  exact hloop_12 20 0 rfl _ ls nI_0.symm rfl (lv_sub hl [3, 4, 5, 2, 1, 0] rfl)
end
