/-! the law's methods that call the class and write: what they start from, what they free -/
def ncT : List (String × String) := [("java/lang/IllegalStateException", "java/lang/IllegalArgumentException")]
def EN (U : State) : Prop := ∀ q ∈ ncT, va_Nc q.1 q.2 U
theorem EN.moved {u U : State} (h : u.vm.Alike U.vm) (hE : EN u) : EN U := fun q hq => va_Nc.moved h (hE q hq)
theorem Met_ofWH {l : Launch} {y : MethodName} {ws ws' : List Cond} {rm : Room} {Pc : Array Value → State → Prop} {Qc : Array Value → State → Outcome → State → Prop} {mc ms : Nat} {free : Addr → Prop} {cc : ByteArray} {maxL : Nat} {ret : Option FieldType} {hh : List (Nat × Nat × Nat × Nat)}
    (hy : plainName y.cls = true) (hw : ws = Cond.codeWith y cc maxL ret hh :: ws')
    (body : ∀ p e s m args below meth c s₁, BodyLoose p l y (headSpec ws rm) cc maxL ret e s m args below meth c s₁ → c.maxLocals = maxL → Pc args s →
      W p l e (headSpec ws rm).room s m args below meth c s.heap [] 0 0 (MQ below Qc args s mc ms free) (entryFrame m args maxL)) : Met l y ws rm Pc Qc mc ms free := by
  refine MetFree.of_bodyS (code := cc) (maxLocals := maxL) (ret := ret) hy ?_ ?_
  · intro args s m h hn
    obtain ⟨m9, meth, c, hn9, h1, h2, h3, h4, -, h5, h6, -⟩ := Cond.codeWith_spec (atoms_spec (ws := ws) h _ (by rw [hw]; exact List.mem_cons_self))
    cases hn.symm.trans hn9
    exact ⟨meth, c, h1, h2, h3, h4, h5, h6⟩
  · intro p e s m args below meth c s₁ B hml hP _
    have hh0 : s₁.heap = s.heap := by rw [B.state]; rfl
    obtain ⟨t, a1, o, b1, b2, b3⟩ := body p e s m args below meth c s₁ B hml hP s₁ hh0 (Stand.of_body B)
    exact ⟨t, o, a1, b1, b2, ⟨b3.1, b3.2⟩⟩
/-- behind a call of the class: it has answered, or it has thrown and nothing has changed -/
def CB (code : Int32) (B B2 : Heap → Prop) (H : Heap) : Prop := (code = 0 ∧ B2 H) ∨ (¬ code = 0 ∧ B H)
def CPre (D : va_G) (K : Nat → ClassId) (sz : Nat) (A : Nat → Prop) (B : Heap → Prop) : State → Prop := fun U => XPre D K sz A B U ∧ EN U
def CMet (l : Launch) (y : MethodName) (ws : List Cond) (fr lo : Nat) (D : va_G) (K : Nat → ClassId) (av : List Value) (sz : Nat) (ad : Nat → Nat → Nat) (B : Heap → Prop) (rv : Int32) (B2 : Heap → Prop) : Prop :=
  Met l y ws ({ frames := fr, cells := 4, slots := 60, locals := lo }) (va_Pc av (CPre D K sz (XA ad sz) B)) (va_Qi (fun x (_ : Unit) => x = rv) (fun _ t => B2 t.heap) (XA ad sz)) 4 60 (XA ad sz)
theorem CPre_blind {D : va_G} {K : Nat → ClassId} {sz : Nat} {A : Nat → Prop} {B : Heap → Prop} {av : List Value} : FrameBlind (va_Pc av (CPre D K sz A B)) := fun _ U g mk q => ⟨q.1, (XPre_blind (av := av) _ U g mk ⟨q.1, q.2.1⟩).2, EN.moved (u := U) (U := U.calling g mk _) (Vm.Alike.refl U.vm) q.2.2⟩
theorem CPre_at {D : va_G} {K : Nat → ClassId} {A : Nat → Prop} {B : Heap → Prop} {av : List Value} {s : State} {H : Heap} (hB : B H) (hK : va_K D vwCl (TYS K) s) (hE : EV s) (hX : EX s) (hZ : vx_Zq Bundle.tN "UNASSIGNED_STACK" Bundle.steD A s H ∧ vx_Zq Bundle.tN "SUPPRESSED_SENTINEL" Bundle.listD A s H) (hN : EN s) : ∀ U : State, U.heap = H → s.WarmedH U.vm → va_Pc av (CPre D K H.size A B) av.toArray U := fun U hU hW => ⟨rfl, (XPre_at (av := av) hB hK hE hX hZ U hU hW).2, EN.moved hW.alike hN⟩
theorem XP_off {D : va_G} {K : Nat → ClassId} {ad : Nat → Nat → Nat} {n d o : Nat} {S : Nat → Nat → Nat → Int32} {H H1 : Heap} (ho : ∀ k i, ad k i ≠ o) (h : XP D K ad n d S H) (oq : ∀ q : Nat, q ≠ o → H1[q]? = H[q]?) : XP D K ad n d S H1 := by
  refine ⟨h.1, h.2.1, h.2.2.1.kept (fun i p hi => oq _ ?_), fun k hk => (h.2.2.2.1 k hk).kept (fun i p hi => oq _ ?_), fun k hk => (h.2.2.2.2 k hk).kept (fun i p hi => oq _ ?_)⟩
  · obtain ⟨x, -, ex⟩ := xids (ids := xWi) (ad := ad) rfl hi; rw [ex]; exact ho _ _
  · obtain ⟨x, -, ex⟩ := xids (ids := xTi k) (ad := ad) rfl hi; rw [ex]; exact ho _ _
  · obtain ⟨x, -, ex⟩ := xids (ids := xDi k) (ad := ad) rfl hi; rw [ex]; exact ho _ _
theorem XP_keep {D : va_G} {K : Nat → ClassId} {ad : Nat → Nat → Nat} {n d : Nat} {S : Nat → Nat → Nat → Int32} {H H1 : Heap} (h : XP D K ad n d S H) (oq : ∀ k i, ad k i < H.size → H1[ad k i]? = H[ad k i]?) : XP D K ad n d S H1 := by
  refine ⟨h.1, h.2.1, h.2.2.1.kept (fun i p hi => ?_), fun k hk => (h.2.2.2.1 k hk).kept (fun i p hi => ?_), fun k hk => (h.2.2.2.2 k hk).kept (fun i p hi => ?_)⟩
  · have hlt := (h.2.2.1 i p hi).lt
    obtain ⟨x, -, ex⟩ := xids (ids := xWi) (ad := ad) rfl hi; rw [ex] at hlt ⊢; exact oq _ _ hlt
  · have hlt := (h.2.2.2.1 k hk i p hi).lt
    obtain ⟨x, -, ex⟩ := xids (ids := xTi k) (ad := ad) rfl hi; rw [ex] at hlt ⊢; exact oq _ _ hlt
  · have hlt := (h.2.2.2.2 k hk i p hi).lt
    obtain ⟨x, -, ex⟩ := xids (ids := xDi k) (ad := ad) rfl hi; rw [ex] at hlt ⊢; exact oq _ _ hlt
def GA (ad : Nat → Nat → Nat) (oa : Nat → Nat) (sz : Nat) : Nat → Prop := fun q => XA ad sz q ∨ ∃ j, oa j = q
def GPre (D : va_G) (K : Nat → ClassId) (sz : Nat) (ad : Nat → Nat → Nat) (oa : Nat → Nat) (B : Heap → Prop) : State → Prop := fun U => XPre D K sz (GA ad oa sz) B U ∧ EN U
theorem GPre_blind {D : va_G} {K : Nat → ClassId} {sz : Nat} {ad : Nat → Nat → Nat} {oa : Nat → Nat} {B : Heap → Prop} {av : List Value} : FrameBlind (va_Pc av (GPre D K sz ad oa B)) := fun _ U g mk q => ⟨q.1, (XPre_blind (av := av) _ U g mk ⟨q.1, q.2.1⟩).2, EN.moved (u := U) (U := U.calling g mk _) (Vm.Alike.refl U.vm) q.2.2⟩
theorem GPre_at {D : va_G} {K : Nat → ClassId} {ad : Nat → Nat → Nat} {oa : Nat → Nat} {B : Heap → Prop} {av : List Value} {s : State} {H : Heap} (hB : B H) (hK : va_K D vwCl (TYS K) s) (hE : EV s) (hX : EX s) (hZ : vx_Zq Bundle.tN "UNASSIGNED_STACK" Bundle.steD (GA ad oa H.size) s H ∧ vx_Zq Bundle.tN "SUPPRESSED_SENTINEL" Bundle.listD (GA ad oa H.size) s H) (hN : EN s) : ∀ U : State, U.heap = H → s.WarmedH U.vm → va_Pc av (GPre D K H.size ad oa B) av.toArray U := fun U hU hW => ⟨rfl, (XPre_at (av := av) hB hK hE hX hZ U hU hW).2, EN.moved hW.alike hN⟩
/-- the watch and the arrays, and that the arrays are apart and apart from the watch -/
def LPH (D : va_G) (K : Nat → ClassId) (ad : Nat → Nat → Nat) (oa : Nat → Nat) (n d : Nat) (S : Nat → Nat → Nat → Int32) (M : Nat → Nat → Int32) (H : Heap) : Prop := XP D K ad n d S H ∧ va_P D vwCl (aW K oa M) H
def Sep (ad : Nat → Nat → Nat) (oa : Nat → Nat) (n d : Nat) : Prop := DJ ad n d ∧ (∀ k i j, ad k i ≠ oa j) ∧ ∀ i j, i < 6 → j < 6 → oa i = oa j → i = j
/-- .. behind one of the law's methods -/
def GB (ad : Nat → Nat → Nat) (oa : Nat → Nat) (sz : Nat) (D : va_G) (K : Nat → ClassId) (c : Nat) (H : Heap) : Prop := ∃ (ad2 : Nat → Nat → Nat) (n2 d2 : Nat) (S2 : Nat → Nat → Nat → Int32) (M2 : Nat → Nat → Int32), Rel n2 d2 S2 M2 c ∧ DJ ad2 n2 d2 ∧ (∀ k i, ad2 k i = ad k i ∨ 4 ≤ k ∧ sz ≤ ad2 k i) ∧ LPH D K ad2 oa n2 d2 S2 M2 H
def GMet (l : Launch) (y : MethodName) (ws : List Cond) (fr lo : Nat) (D : va_G) (K : Nat → ClassId) (av : List Value) (sz : Nat) (ad : Nat → Nat → Nat) (oa : Nat → Nat) (B B2 : Heap → Prop) : Prop :=
  Met l y ws ({ frames := fr, cells := 4, slots := 60, locals := lo }) (va_Pc av (GPre D K sz ad oa B)) (va_Qi (fun x (_ : Unit) => x = 1) (fun _ t => B2 t.heap) (GA ad oa sz)) 4 60 (GA ad oa sz)
theorem aW_ix {K : Nat → ClassId} {oa : Nat → Nat} {M : Nat → Nat → Int32} {i : Nat} {p : Nat × va_E} (h : (aW K oa M)[i]? = some p) : i < 6 ∧ p.1 = oa i := by
  rcases i with _ | _ | _ | _ | _ | _ | i
  · cases h; exact ⟨by decide, rfl⟩
  · cases h; exact ⟨by decide, rfl⟩
  · cases h; exact ⟨by decide, rfl⟩
  · cases h; exact ⟨by decide, rfl⟩
  · cases h; exact ⟨by decide, rfl⟩
  · cases h; exact ⟨by decide, rfl⟩
  · exact absurd h (by simp)
theorem aW_D {K : Nat → ClassId} {oa : Nat → Nat} {M : Nat → Nat → Int32} {A : Nat → Prop} (h : ∀ i j, i < 6 → j < 6 → oa i = oa j → i = j) (hA : ∀ j, A (oa j)) : va_D A (aW K oa M) := by
  refine ⟨fun i j p q hi hj e => ?_, fun k q hk => ?_⟩
  · obtain ⟨h1, e1⟩ := aW_ix hi
    obtain ⟨h2, e2⟩ := aW_ix hj
    exact h i j h1 h2 (by rw [← e1, ← e2]; exact e)
  · rw [(aW_ix hk).2]; exact hA k
theorem aW_lt {D : va_G} {K : Nat → ClassId} {oa : Nat → Nat} {M : Nat → Nat → Int32} {H : Heap} (h : va_P D vwCl (aW K oa M) H) {i : Nat} {p : Nat × va_E} (hi : (aW K oa M)[i]? = some p) : p.1 < H.size := (h i p hi).lt
section VOI
variable {p : Program} {l : Launch} {e : Env} {R : Room} {s : State} {m : MethodId} {args : Array Value} {below : List Frame} {meth : Method} {c : Code} {H : Heap} {locs : List Loc} {cells slots : Nat} {Q : State → Prop}
variable {cc : ByteArray} {pc : Nat} {ls : Array Slot} {rest : List Value} {D : va_G} {K : Nat → ClassId} {A : Nat → Prop} {H0 : Heap}
/-- an int is laid into an array; all other cells stay -/
theorem vo_iast (hexec : p.tables.exec = Jvm.exec) (hb : c.code = cc) (hK : va_K D vwCl (TYS K) s) {ws : va_W} (hP : va_P D vwCl ws H) (hD : va_D A ws) (hS : va_S A H0 H locs) (q0 : Nat) {a n : Nat} {f : Nat → Int32} (ha : ws[q0]? = some (a, .inl (K 0, n, .inl f))) {i x : Int32} (hin : vp_in i n) (hdg : decode cc pc = .ok (.iastore, 1))
    (kk : ∀ (H1 : Heap) (locs1 : List Loc), va_P D vwCl (ws.set q0 (a, .inl (K 0, n, .inl (upd f i.toNatClampNeg x)))) H1 → va_D A (ws.set q0 (a, .inl (K 0, n, .inl (upd f i.toNatClampNeg x)))) → va_S A H0 H1 locs1 → (∀ q : Nat, q ≠ a → H1[q]? = H[q]?) → W p l e R s m args below meth c H1 locs1 cells slots Q (F0 m (pc + 1) ls rest)) : W p l e R s m args below meth c H locs cells slots Q (F0 m pc ls (.int x :: .int i :: .ref a :: rest)) := by
  refine W.iast hexec hb (hP q0 _ ha) ((hK.2 0 _ rfl).1 n (fun j => .int (f j))) (fun q => by cases q) (by show ¬ (i < 0 ∨ (arrV _ _ _).slots.size ≤ _); rw [arrV_size]; exact hin) rfl rfl hdg fun H1 e z oq => ?_
  refine kk H1 _ (hP.set hD ha ?_ oq) (hD.set ha) (hS.put z oq (hD.2 q0 _ ha)) oq
  show H1[a]? = some (vp_cell _ _)
  rw [e, vp_cell_i, vp_cell_i, arrV_store]
  congr 2
  funext q
  by_cases hq : q = i.toNatClampNeg
  · subst hq
    simp [updV, upd]
  · simp [updV, upd, hq]
variable {y : MethodName} {bytes : ByteArray} {maxL nL nn index fr lo : Nat} {ret : Option FieldType} {hh : List (Nat × Nat × Nat × Nat)} {ws Ts : List Cond} {own : String} {As st0 : List Value}
variable {ad : Nat → Nat → Nat} {oa : Nat → Nat} {rv : Int32} {n d : Nat} {S : Nat → Nat → Nat → Int32} {M : Nat → Nat → Int32} {B2 : Heap → Prop}
theorem GA_XA (hS : va_S (GA ad oa s.heap.size) s.heap H locs) : ∀ q, XA ad H.size q → GA ad oa s.heap.size q := fun q h => h.elim (fun z => Or.inl (Or.inl z)) (fun z => Or.inl (Or.inr (Nat.le_trans hS.1 z)))
/-- the law's own 'calls', out of a method that holds the watch and the arrays -/
theorem gc_S (Sx : CallFix p m c cc nL s args Ts own) (hM : CMet l y ws fr lo D K As H.size ad (fun H => XP D K ad n d S H) rv B2) (cw : vx_CSW R s args own index y bytes maxL ret hh ws ({ frames := fr, cells := 4, slots := 60, locals := lo }) 4 60 nn) (hK : va_K D vwCl (TYS K) s) (hE : EV s) (hX : EX s) (hN : EN s) (hZ : SZ (GA ad oa s.heap.size) s)
    (hXP : XP D K ad n d S H) (hPa : va_P D vwCl (aW K oa M) H) (hsep : ∀ k i j, ad k i ≠ oa j) (hS : va_S (GA ad oa s.heap.size) s.heap H locs)
    (hst : st0 = As.reverse ++ rest) (hn : As.length = nn) (hsz : ls.size = nL) (hW : (rest.map fun v => v.category).sum ≤ 8) (hdg : decode cc pc = .ok (.invokestatic index, 3)) (hf : cells + 4 ≤ R.cells ∧ slots + 60 ≤ R.slots)
    (kk : ∀ (H1 : Heap) (locs1 : List Loc), H.size ≤ H1.size → B2 H1 → va_P D vwCl (aW K oa M) H1 → va_S (GA ad oa s.heap.size) s.heap H1 locs1 → W p l e R s m args below meth c H1 locs1 (cells + 4) (slots + 60) Q (F0 m (pc + 3) ls (.int rv :: rest))) : W p l e R s m args below meth c H locs cells slots Q (F0 m pc ls st0) := by
  have hLA := GA_XA hS
  refine va_calli (vx_runSW (g := F0 m pc ls st0) Sx hM cw ⟨CPre_blind, CPre_at hXP hK hE hX ⟨(hZ.1.kept (fun a h1 h2 => hS.2.1 a h1 h2)).narrow hLA, (hZ.2.kept (fun a h1 h2 => hS.2.1 a h1 h2)).narrow hLA⟩ hN⟩ rfl hn hsz hst (lv_room hW) hdg hf) hS (fun q _ h => hLA q h) hLA (fun r u t H1 locs1 ht _ hp hB hz hk hS1 => ?_)
  subst hp
  rw [ht] at hB
  refine kk H1 locs1 hz hB (hPa.kept (fun k q hq => ?_)) hS1
  have hlt := aW_lt hPa hq
  obtain ⟨h1, e1⟩ := aW_ix hq
  rw [e1] at hlt ⊢
  refine hk _ hlt ?_
  rintro (⟨k9, i9, h⟩ | h)
  · exact hsep k9 i9 _ h
  · omega
end VOI
/-! numbers out of the script -/
theorem low_ex (v : Int32) (N : Nat) (h0 : 0 < N) (hN : N < 2 ^ 31) : ∃ r, r < N ∧ sp_L_low v (nI N) = nI r := by
  refine ⟨v.toBitVec.toNat % 2 ^ 31 % N, Nat.mod_lt _ h0, ?_⟩
  unfold sp_L_low
  rw [pk_and v (m := 2147483647) 31 (by decide)]
  exact pk_rem (Nat.mod_lt _ (by decide)) h0 hN
