/-! the law's own calls: each catches what the class throws and answers its number -/
def ncT : List (String × String) := [("java/lang/IndexOutOfBoundsException", "java/lang/IllegalArgumentException"), ("java/lang/IndexOutOfBoundsException", "java/lang/IllegalStateException"), ("java/lang/IllegalArgumentException", "java/lang/IndexOutOfBoundsException"), ("java/lang/IllegalArgumentException", "java/lang/IllegalStateException"), ("java/lang/IllegalStateException", "java/lang/IndexOutOfBoundsException"), ("java/lang/IllegalStateException", "java/lang/IllegalArgumentException")]
def EN (U : State) : Prop := ∀ q ∈ ncT, va_Nc q.1 q.2 U
theorem EN.moved {u U : State} (h : u.vm.Alike U.vm) (hE : EN u) : EN U := fun q hq => va_Nc.moved h (hE q hq)
theorem Met_ofWH {l : Launch} {y : MethodName} {ws ws' : List Cond} {rm : Room} {Pc : Array Value → State → Prop} {Qc : Array Value → State → Outcome → State → Prop} {mc ms : Nat} {free : Addr → Prop} {cc : ByteArray} {maxL : Nat} {ret : Option FieldType} {hh : List (Nat × Nat × Nat × Nat)}
    (hy : plainName y.cls = true) (hw : ws = Cond.codeWith y cc maxL ret hh :: ws')
    (body : ∀ p e s m args below meth c s₁, BodyLoose p l y (headSpec ws rm) cc maxL ret e s m args below meth c s₁ → c.maxLocals = maxL → Pc args s →
      W p l e (headSpec ws rm).room s m args below meth c s.heap [] 0 0 (MQ below Qc args s mc ms free) (entryFrame m args maxL)) : Met l y ws rm Pc Qc mc ms free := by
  refine MetFree.of_bodyS (code := cc) (maxLocals := maxL) (ret := ret) hy ?_ ?_
  · intro args s m h hn
    obtain ⟨m9, meth, c, hn9, h1, h2, h3, h4, -, h5, h6, -⟩ := Cond.codeWith_spec (atoms_spec (ws := ws) h _ (by rw [hw]; exact List.mem_cons_self))
    cases hn.symm.trans hn9
    exact ⟨meth, c, h1, h2, h3, h4, h5, h6⟩
  · intro p e s m args below meth c s₁ B hml hP _
    have hh0 : s₁.heap = s.heap := by rw [B.state]; rfl
    obtain ⟨t, a1, o, b1, b2, b3⟩ := body p e s m args below meth c s₁ B hml hP s₁ hh0 (Stand.of_body B)
    exact ⟨t, o, a1, b1, b2, ⟨b3.1, b3.2⟩⟩
def LA (ad : Nat → Nat → Nat) (o sz : Nat) : Nat → Prop := fun q => XA ad sz q ∨ q = o
abbrev oW (K : Nat → ClassId) (o : Nat) (f : Nat → Int64) : va_W := [(o, .inl (K 4, 1, .inr (.inl f)))]
def LPre (D : va_G) (K : Nat → ClassId) (sz : Nat) (A : Nat → Prop) (B : Heap → Prop) (o : Nat) (f : Nat → Int64) : State → Prop := fun U => XPre D K sz A B U ∧ EN U ∧ va_P D vwCl (oW K o f) U.heap ∧ va_K D vwCl [(K 4, .long)] U
def LB (code : Int32) (B B2 : Heap → Prop) (D : va_G) (K : Nat → ClassId) (o : Nat) (f : Nat → Int64) (v : Int64) (H : Heap) : Prop := (code = 0 ∧ B2 H ∧ va_P D vwCl (oW K o (vp_updL f 0 v)) H) ∨ (¬ code = 0 ∧ B H ∧ va_P D vwCl (oW K o f) H)
def LMet (l : Launch) (y : MethodName) (ws : List Cond) (fr lo : Nat) (D : va_G) (K : Nat → ClassId) (av : List Value) (sz : Nat) (ad : Nat → Nat → Nat) (o : Nat) (f : Nat → Int64) (B : Heap → Prop) (code : Int32) (v : Int64) (B2 : Heap → Prop) : Prop :=
  Met l y ws ({ frames := fr, cells := 4, slots := 60, locals := lo }) (va_Pc av (LPre D K sz (LA ad o sz) B o f)) (va_Qi (fun x (_ : Unit) => x = code) (fun _ t => LB code B B2 D K o f v t.heap) (LA ad o sz)) 4 60 (LA ad o sz)
theorem LPre_blind {D : va_G} {K : Nat → ClassId} {sz : Nat} {A : Nat → Prop} {B : Heap → Prop} {o : Nat} {f : Nat → Int64} {av : List Value} : FrameBlind (va_Pc av (LPre D K sz A B o f)) := fun _ U g mk q => ⟨q.1, (XPre_blind (av := av) _ U g mk ⟨q.1, q.2.1⟩).2, EN.moved (u := U) (U := U.calling g mk _) (Vm.Alike.refl U.vm) q.2.2.1, q.2.2.2.1, va_K.moved (u := U) (U := U.calling g mk _) (Vm.Alike.refl U.vm) q.2.2.2.2⟩
theorem LPre_at {D : va_G} {K : Nat → ClassId} {A : Nat → Prop} {B : Heap → Prop} {o : Nat} {f : Nat → Int64} {av : List Value} {s : State} {H : Heap} (hB : B H) (hK : va_K D vwCl (TYS K) s) (hE : EV s) (hX : EX s) (hZ : vx_Zq Bundle.tN "UNASSIGNED_STACK" Bundle.steD A s H ∧ vx_Zq Bundle.tN "SUPPRESSED_SENTINEL" Bundle.listD A s H) (hN : EN s) (hPo : va_P D vwCl (oW K o f) H) (hK5 : va_K D vwCl [(K 4, .long)] s) : ∀ U : State, U.heap = H → s.WarmedH U.vm → va_Pc av (LPre D K H.size A B o f) av.toArray U := fun U hU hW => ⟨rfl, (XPre_at (av := av) hB hK hE hX hZ U hU hW).2, EN.moved hW.alike hN, by rw [hU]; exact hPo, va_K.moved hW.alike hK5⟩
theorem XP_off {D : va_G} {K : Nat → ClassId} {ad : Nat → Nat → Nat} {n d o : Nat} {S : Nat → Nat → Nat → Int32} {H H1 : Heap} (ho : ∀ k i, ad k i ≠ o) (h : XP D K ad n d S H) (oq : ∀ q : Nat, q ≠ o → H1[q]? = H[q]?) : XP D K ad n d S H1 := by
  refine ⟨h.1, h.2.1, h.2.2.1.kept (fun i p hi => oq _ ?_), fun k hk => (h.2.2.2.1 k hk).kept (fun i p hi => oq _ ?_), fun k hk => (h.2.2.2.2 k hk).kept (fun i p hi => oq _ ?_)⟩
  · obtain ⟨x, -, ex⟩ := xids (ids := xWi) (ad := ad) rfl hi; rw [ex]; exact ho _ _
  · obtain ⟨x, -, ex⟩ := xids (ids := xTi k) (ad := ad) rfl hi; rw [ex]; exact ho _ _
  · obtain ⟨x, -, ex⟩ := xids (ids := xDi k) (ad := ad) rfl hi; rw [ex]; exact ho _ _
section VOL
variable {p : Program} {l : Launch} {e : Env} {R : Room} {s : State} {m : MethodId} {args : Array Value} {below : List Frame} {meth : Method} {c : Code} {H : Heap} {locs : List Loc} {cells slots : Nat} {Q : State → Prop}
variable {cc : ByteArray} {pc : Nat} {ls : Array Slot} {rest : List Value} {D : va_G} {K : Nat → ClassId} {A : Nat → Prop} {o : Nat} {H0 : Heap}
/-- the answer is laid down; all other cells stay -/
theorem vo_last (hexec : p.tables.exec = Jvm.exec) (hb : c.code = cc) (hK : va_K D vwCl [(K 4, .long)] s) {f : Nat → Int64} (hP : va_P D vwCl (oW K o f) H) (hA : A o) (hS : va_S A H0 H locs) {x : Int64} (hdg : decode cc pc = .ok (.lastore, 1))
    (kk : ∀ (H1 : Heap) (locs1 : List Loc), va_P D vwCl (oW K o (vp_updL f 0 x)) H1 → (∀ q : Nat, q ≠ o → H1[q]? = H[q]?) → va_S A H0 H1 locs1 → W p l e R s m args below meth c H1 locs1 cells slots Q (F0 m (pc + 1) ls rest)) : W p l e R s m args below meth c H locs cells slots Q (F0 m pc ls (.long x :: .int 0 :: .ref o :: rest)) := by
  have hin : vp_in (0 : Int32) 1 := vp_in_nI (n := 0) (by decide) (by decide)
  refine W.last hexec hb (hP 0 _ rfl) ((hK.2 0 _ rfl).1 1 (fun j => .long (f j))) (fun q => by cases q) (by show ¬ ((0 : Int32) < 0 ∨ (arrV _ _ _).slots.size ≤ _); rw [arrV_size]; exact hin) rfl rfl hdg fun H1 e z oq => ?_
  refine kk H1 _ (hP.set (p := 0) (A := fun _ => True) ⟨fun i j p q hi hj _ => ?_, fun _ _ _ => trivial⟩ rfl ?_ oq) oq (hS.put z oq hA)
  · rcases i with _ | i <;> rcases j with _ | j <;> first | rfl | (simp at hi hj)
  · show H1[o]? = some (vp_cell _ _)
    rw [e]
    rw [vp_cell_l, vp_cell_l, arrV_store]
    congr 2
    funext q
    have e0 : (0 : Int32).toNatClampNeg = 0 := by decide
    rw [e0]
    by_cases hq : q = 0
    · subst hq
      simp [updV, vp_updL]
    · simp [updV, vp_updL, hq]
end VOL
