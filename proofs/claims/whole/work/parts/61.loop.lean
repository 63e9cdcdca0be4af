/-! the law's loop: its state, a call of each side, the comparison -/
def lA (z : Nat) (ad : Nat → Nat → Nat) (am : Nat → Nat) (o : Nat) (H : Heap) : Prop := (∀ k i, z ≤ ad k i) ∧ (∀ j, z ≤ am j ∧ am j < H.size) ∧ z ≤ o ∧ o < H.size ∧ (∀ k i, ad k i ≠ o) ∧ (∀ k i j, ad k i ≠ am j) ∧ ∀ j, am j ≠ o
def lI (D : va_G) (K : Nat → ClassId) (s : State) (ad : Nat → Nat → Nat) (am : Nat → Nat) (o : Nat) (f : Nat → Int64) (th : Int32) (n d : Nat) (S : Nat → Nat → Nat → Int32) (M : Nat → Nat → Int32) (c0 : Nat) (H : Heap) (locs : List Loc) : Prop :=
  lA s.heap.size ad am o H ∧ Rel n d S M c0 ∧ DJ ad n d ∧ XP D K ad n d S H ∧ va_P D vwCl (mW K am th M) H ∧ va_P D vwCl (oW K o f) H ∧ va_D (fun _ => True) (mW K am th M) ∧ va_S (fun q => s.heap.size ≤ q) s.heap H locs
theorem mW_ad {K : Nat → ClassId} {am : Nat → Nat} {th : Int32} {M : Nat → Nat → Int32} {k : Nat} {q : Nat × va_E} (hq : (mW K am th M)[k]? = some q) : ∃ j, q.1 = am j := by
  have h := List.mem_of_getElem? hq
  simp only [mW, List.mem_cons, List.not_mem_nil, or_false] at h
  rcases h with rfl | rfl | rfl | rfl | rfl | rfl | rfl | rfl | rfl | rfl | rfl | rfl | rfl | rfl | rfl | rfl <;> exact ⟨_, rfl⟩
theorem oW_ad {K : Nat → ClassId} {o : Nat} {f : Nat → Int64} {k : Nat} {q : Nat × va_E} (hq : (oW K o f)[k]? = some q) : q.1 = o := by
  have h := List.mem_of_getElem? hq
  simp only [oW, List.mem_cons, List.not_mem_nil, or_false] at h
  rw [h]
theorem XP_keep {D : va_G} {K : Nat → ClassId} {ad : Nat → Nat → Nat} {n d : Nat} {S : Nat → Nat → Nat → Int32} {H H1 : Heap} (h : XP D K ad n d S H) (oq : ∀ k i, ad k i < H.size → H1[ad k i]? = H[ad k i]?) : XP D K ad n d S H1 := by
  refine ⟨h.1, h.2.1, h.2.2.1.kept (fun i p hi => ?_), fun k hk => (h.2.2.2.1 k hk).kept (fun i p hi => ?_), fun k hk => (h.2.2.2.2 k hk).kept (fun i p hi => ?_)⟩
  · have hlt := (h.2.2.1 i p hi).lt
    obtain ⟨x, -, ex⟩ := xids (ids := xWi) (ad := ad) rfl hi; rw [ex] at hlt ⊢; exact oq _ _ hlt
  · have hlt := (h.2.2.2.1 k hk i p hi).lt
    obtain ⟨x, -, ex⟩ := xids (ids := xTi k) (ad := ad) rfl hi; rw [ex] at hlt ⊢; exact oq _ _ hlt
  · have hlt := (h.2.2.2.2 k hk i p hi).lt
    obtain ⟨x, -, ex⟩ := xids (ids := xDi k) (ad := ad) rfl hi; rw [ex] at hlt ⊢; exact oq _ _ hlt
/-- behind a call of the class, in one form for all -/
def lB (ad : Nat → Nat → Nat) (z : Nat) (D : va_G) (K : Nat → ClassId) (n2 d2 : Nat) (S2 : Nat → Nat → Nat → Int32) (H : Heap) : Prop := ∃ ad2, XP D K ad2 n2 d2 S2 H ∧ DJ ad2 n2 d2 ∧ ∀ k i, ad2 k i = ad k i ∨ 4 ≤ k ∧ z ≤ ad2 k i
theorem LB.to {code : Int32} {B B2 B3 : Heap → Prop} {D : va_G} {K : Nat → ClassId} {o : Nat} {f : Nat → Int64} {v : Int64} {H : Heap} (h : LB code B B2 D K o f v H) (hB : B2 H → B3 H) : LB code B B3 D K o f v H := h.elim (fun q => Or.inl ⟨q.1, hB q.2.1, q.2.2⟩) (fun q => Or.inr q)
theorem lB.refl {ad : Nat → Nat → Nat} {z : Nat} {D : va_G} {K : Nat → ClassId} {n2 d2 : Nat} {S2 : Nat → Nat → Nat → Int32} {H : Heap} (hDJ : DJ ad n2 d2) (h : XP D K ad n2 d2 S2 H) : lB ad z D K n2 d2 S2 H := ⟨ad, h, hDJ, fun _ _ => Or.inl rfl⟩
section LOOP
variable {p : Program} {l : Launch} {e : Env} {R : Room} {s : State} {m : MethodId} {args : Array Value} {below : List Frame} {meth : Method} {c : Code} {H : Heap} {locs : List Loc} {cells slots : Nat} {Q : State → Prop}
variable {y : MethodName} {bytes cc : ByteArray} {maxL nL nn index fr lo : Nat} {ret : Option FieldType} {hh : List (Nat × Nat × Nat × Nat)} {ws Ts : List Cond} {D : va_G} {K : Nat → ClassId} {own : String} {As rest st0 : List Value} {pc : Nat} {ls : Array Slot}
variable {ad : Nat → Nat → Nat} {am : Nat → Nat} {o : Nat} {f : Nat → Int64} {th code : Int32} {v : Int64} {n d c0 : Nat} {S : Nat → Nat → Nat → Int32} {M : Nat → Nat → Int32} {B2 : Heap → Prop}
theorem lc_S (Sx : CallFix p m c cc nL s args Ts own) (hM : LMet l y ws fr lo D K As H.size ad o f (fun H => XP D K ad n d S H) code v B2) (cw : vx_CSW R s args own index y bytes maxL ret hh ws ({ frames := fr, cells := 4, slots := 60, locals := lo }) 4 60 nn) (hE : lE D K s) (I : lI D K s ad am o f th n d S M c0 H locs)
    (hst : st0 = As.reverse ++ rest) (hn : As.length = nn) (hsz : ls.size = nL) (hW : (rest.map fun v => v.category).sum ≤ 8) (hdg : decode cc pc = .ok (.invokestatic index, 3)) (hf : cells + 4 ≤ R.cells ∧ slots + 60 ≤ R.slots)
    (kk : ∀ (H1 : Heap) (locs1 : List Loc), H.size ≤ H1.size → LB code (fun H => XP D K ad n d S H) B2 D K o f v H1 → va_P D vwCl (mW K am th M) H1 → va_S (fun q => s.heap.size ≤ q) s.heap H1 locs1 → W p l e R s m args below meth c H1 locs1 (cells + 4) (slots + 60) Q (F0 m (pc + 3) ls (.int code :: rest))) : W p l e R s m args below meth c H locs cells slots Q (F0 m pc ls st0) := by
  obtain ⟨⟨a1, a2, a3, a4, a5, a6, a7⟩, hR, hDJ, hXP, hPm, hPo, hDm, hS⟩ := I
  obtain ⟨hK, hK5, hV, hX, hN, hZ1, hZ2⟩ := hE
  have hLA : ∀ q, LA ad o H.size q → s.heap.size ≤ q := fun q h => by
    rcases h with (⟨k, i, rfl⟩ | h) | rfl
    · exact a1 k i
    · exact Nat.le_trans hS.1 h
    · exact a3
  refine va_calli (vx_runSW (g := F0 m pc ls st0) Sx hM cw ⟨LPre_blind, LPre_at hXP hK hV hX ⟨(hZ1.kept (fun a h1 h2 => hS.2.1 a h1 h2)).narrow hLA, (hZ2.kept (fun a h1 h2 => hS.2.1 a h1 h2)).narrow hLA⟩ hN hPo hK5⟩ rfl hn hsz hst (lv_room hW) hdg hf) hS (fun q _ h => hLA q h) hLA (fun r u t H1 locs1 ht _ hp hB hz hk hS1 => ?_)
  subst hp
  rw [ht] at hB
  refine kk H1 locs1 hz hB (hPm.kept (fun k q hq => ?_)) hS1
  obtain ⟨j, ej⟩ := mW_ad hq
  rw [ej]
  refine hk _ (a2 j).2 ?_
  rintro ((⟨k, i, h⟩ | h) | h)
  · exact a6 k i j h
  · exact absurd (a2 j).2 (by omega)
  · exact a7 j h
/-- both sides have answered -/
theorem lI_step {H1 H2 : Heap} {locs2 : List Loc} {cx rx rm tm : Int32} {n2 d2 : Nat} {S2 : Nat → Nat → Nat → Int32} {M2 : Nat → Nat → Int32} (I : lI D K s ad am o f th n d S M c0 H locs) (hz : H.size ≤ H1.size) (hB : LB cx (fun H => XP D K ad n d S H) (lB ad H.size D K n2 d2 S2) D K o f v H1) (hz2 : H1.size ≤ H2.size)
    (hk2 : ∀ q : Nat, q < H1.size → ¬ va_A (mW K am th M) H1.size q → H2[q]? = H1[q]?) (hP2 : va_P D vwCl (mW K am tm M2) H2) (hD2 : va_D (va_A (mW K am th M) H1.size) (mW K am tm M2)) (hS2 : va_S (fun q => s.heap.size ≤ q) s.heap H2 locs2) (st : StepW cx rx rm tm (Rel n2 d2 S2 M2 (c0 + 1)) (Rel n d S M2 (c0 + 1))) :
    tm = cx ∧ (cx = 0 → rm = rx ∧ ∃ ad2, ad2 0 0 = ad 0 0 ∧ lI D K s ad2 am o (vp_updL f 0 v) tm n2 d2 S2 M2 (c0 + 1) H2 locs2) ∧ (¬ cx = 0 → lI D K s ad am o f tm n d S M2 (c0 + 1) H2 locs2) := by
  obtain ⟨⟨a1, a2, a3, a4, a5, a6, a7⟩, hR, hDJ, hXP, hPm, hPo, hDm, hS⟩ := I
  obtain ⟨t1, t2, t3⟩ := st
  have hnA : ∀ q : Nat, q < H1.size → (∀ j, q ≠ am j) → H2[q]? = H1[q]? := fun q h1 h2 => hk2 q h1 (by
    rintro (⟨i, x, hx⟩ | h)
    · obtain ⟨j, ej⟩ := mW_ad hx
      exact h2 j ej
    · omega)
  have ho : H2[o]? = H1[o]? := hnA o (by omega) (fun j h => a7 j h.symm)
  have hDT : va_D (fun _ => True) (mW K am tm M2) := hD2.weaken (fun _ _ _ _ => trivial)
  refine ⟨t1, fun h0 => ⟨(t2 h0).1, ?_⟩, fun h0 => ?_⟩
  · rcases hB with ⟨-, ⟨ad2, g1, g2, g3⟩, hPo1⟩ | ⟨h9, -⟩
    · have hne : ∀ k i j, ad2 k i ≠ am j := fun k i j h => by
        rcases g3 k i with q | q
        · exact a6 k i j (by rw [← q]; exact h)
        · have := (a2 j).2; omega
      refine ⟨ad2, (g3 0 0).elim id (fun q => absurd q.1 (by decide)), ⟨fun k i => ?_, fun j => ⟨(a2 j).1, by have := (a2 j).2; omega⟩, a3, by omega, fun k i h => ?_, hne, a7⟩, (t2 h0).2, g2, XP_keep g1 (fun k i h => hnA _ h (fun j => hne k i j)), hP2, hPo1.kept (fun k q hq => by rw [oW_ad hq]; exact ho), hDT, hS2⟩
      · rcases g3 k i with q | q
        · rw [q]; exact a1 k i
        · exact Nat.le_trans hS.1 q.2
      · rcases g3 k i with q | q
        · exact a5 k i (by rw [← q]; exact h)
        · omega
    · exact absurd h0 h9
  · rcases hB with ⟨h9, -⟩ | ⟨-, hX1, hPo1⟩
    · exact absurd h9 h0
    · exact ⟨⟨a1, fun j => ⟨(a2 j).1, by have := (a2 j).2; omega⟩, a3, by omega, a5, a6, a7⟩, t3 h0, hDJ, XP_keep hX1 (fun k i h => hnA _ h (fun j => a6 k i j)), hP2, hPo1.kept (fun k q hq => by rw [oW_ad hq]; exact ho), hDT, hS2⟩
theorem lo_lcmpE (hexec : p.tables.exec = Jvm.exec) (hb : c.code = cc) {x y : Int64} (h : x = y) (hdg : decode cc pc = .ok (.lcmp, 1))
    (k : W p l e R s m args below meth c H locs cells slots Q (F0 m (pc + 1) ls (.int 0 :: rest))) : W p l e R s m args below meth c H locs cells slots Q (F0 m pc ls (.long y :: .long x :: rest)) := by
  subst h
  intro T hT X
  obtain ⟨t, a, b⟩ := k T hT X
  refine ⟨t, ?_, b⟩
  have h1 : ¬ x > x := fun q => absurd (Int64.lt_iff_toInt_lt.mp q) (by omega)
  have h2 : (x == x) = true := beq_self_eq_true x
  jvm_step X.here [X.here.top, hexec, hb, hdg, h1, h2]
  exact a
end LOOP
