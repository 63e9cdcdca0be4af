/-! the law's start -/
def S00 : Nat → Nat → Nat → Int32 := fun k _ _ => match k with | 16 => 10 | _ => 0
def M00 : Nat → Nat → Int32 := fun k => match k with | 0 => upd (fun _ => 0) 1 10 | _ => fun _ => 0
theorem rel_start : Rel 0 0 S00 M00 0 := ⟨Nat.zero_le _, Nat.zero_le _, by decide, by decide, by decide, by decide, fun k hk => absurd hk (Nat.not_lt_zero _), fun _ _ _ => ⟨fun _ _ => rfl, rfl, fun _ _ => rfl⟩, fun k hk => absurd hk (Nat.not_lt_zero _), fun _ _ _ => ⟨fun _ _ => rfl, rfl, rfl⟩, fun _ _ _ h => absurd h (Nat.not_lt_zero _)⟩
/-- the state at the loop's first head -/
theorem lI_start {D : va_G} {K : Nat → ClassId} {s : State} {H : Heap} {locs : List Loc} {x0 y7 y21 y35 q0 q1 q2 q3 q4 q5 : Nat} (hP : va_P D vwCl [(x0, .inr (2, [.ref y7, .int 0, .ref y21, .int 0, .ref y35, .int 10])), (y7, .inl (K 3, 30, .inr (.inr (.inr (.inr (fun _ => none)))))), (y21, .inl (K 2, 20, .inr (.inr (.inr (.inr (fun _ => none)))))), (y35, .inl (K 0, 7, .inl (fun _ => 0))), (q0, .inl (K 0, 7, .inl (upd (fun _ => 0) 1 10))), (q1, .inl (K 0, 32, .inl (fun _ => 0))), (q2, .inl (K 0, 32, .inl (fun _ => 0))), (q3, .inl (K 0, 8, .inl (fun _ => 0))), (q4, .inl (K 0, 48, .inl (fun _ => 0))), (q5, .inl (K 0, 12, .inl (fun _ => 0)))] H) (hD : va_D (fun q => s.heap.size ≤ q) [(x0, .inr (2, [.ref y7, .int 0, .ref y21, .int 0, .ref y35, .int 10])), (y7, .inl (K 3, 30, .inr (.inr (.inr (.inr (fun _ => none)))))), (y21, .inl (K 2, 20, .inr (.inr (.inr (.inr (fun _ => none)))))), (y35, .inl (K 0, 7, .inl (fun _ => 0))), (q0, .inl (K 0, 7, .inl (upd (fun _ => 0) 1 10))), (q1, .inl (K 0, 32, .inl (fun _ => 0))), (q2, .inl (K 0, 32, .inl (fun _ => 0))), (q3, .inl (K 0, 8, .inl (fun _ => 0))), (q4, .inl (K 0, 48, .inl (fun _ => 0))), (q5, .inl (K 0, 12, .inl (fun _ => 0)))]) (hS : va_S (fun q => s.heap.size ≤ q) s.heap H locs) :
    lI D K s (fun k _ => match k with | 0 => x0 | 1 => y7 | 2 => y21 | 3 => y35 | _ => x0) (fun j => match j with | 0 => q0 | 1 => q1 | 2 => q2 | 3 => q3 | 4 => q4 | 5 => q5 | _ => q0) 0 0 S00 M00 0 H locs := by
  have ha : ∀ k i : Nat, ∃ r p, r < 4 ∧ ([(x0, .inr (2, [.ref y7, .int 0, .ref y21, .int 0, .ref y35, .int 10])), (y7, .inl (K 3, 30, .inr (.inr (.inr (.inr (fun _ => none)))))), (y21, .inl (K 2, 20, .inr (.inr (.inr (.inr (fun _ => none)))))), (y35, .inl (K 0, 7, .inl (fun _ => 0))), (q0, .inl (K 0, 7, .inl (upd (fun _ => 0) 1 10))), (q1, .inl (K 0, 32, .inl (fun _ => 0))), (q2, .inl (K 0, 32, .inl (fun _ => 0))), (q3, .inl (K 0, 8, .inl (fun _ => 0))), (q4, .inl (K 0, 48, .inl (fun _ => 0))), (q5, .inl (K 0, 12, .inl (fun _ => 0)))] : va_W)[r]? = some p ∧ p.1 = (fun k _ => match k with | 0 => x0 | 1 => y7 | 2 => y21 | 3 => y35 | _ => x0 : Nat → Nat → Nat) k i := by
    intro k i
    rcases k with _ | _ | _ | _ | k
    · exact ⟨0, _, by decide, rfl, rfl⟩
    · exact ⟨1, _, by decide, rfl, rfl⟩
    · exact ⟨2, _, by decide, rfl, rfl⟩
    · exact ⟨3, _, by decide, rfl, rfl⟩
    · exact ⟨0, _, by decide, rfl, rfl⟩
  have ho : ∀ j : Nat, j < 6 → ∃ p, ([(x0, .inr (2, [.ref y7, .int 0, .ref y21, .int 0, .ref y35, .int 10])), (y7, .inl (K 3, 30, .inr (.inr (.inr (.inr (fun _ => none)))))), (y21, .inl (K 2, 20, .inr (.inr (.inr (.inr (fun _ => none)))))), (y35, .inl (K 0, 7, .inl (fun _ => 0))), (q0, .inl (K 0, 7, .inl (upd (fun _ => 0) 1 10))), (q1, .inl (K 0, 32, .inl (fun _ => 0))), (q2, .inl (K 0, 32, .inl (fun _ => 0))), (q3, .inl (K 0, 8, .inl (fun _ => 0))), (q4, .inl (K 0, 48, .inl (fun _ => 0))), (q5, .inl (K 0, 12, .inl (fun _ => 0)))] : va_W)[4 + j]? = some p ∧ p.1 = (fun j => match j with | 0 => q0 | 1 => q1 | 2 => q2 | 3 => q3 | 4 => q4 | 5 => q5 | _ => q0 : Nat → Nat) j := by
    intro j hj
    rcases (show j = 0 ∨ j = 1 ∨ j = 2 ∨ j = 3 ∨ j = 4 ∨ j = 5 by omega) with rfl | rfl | rfl | rfl | rfl | rfl <;> exact ⟨_, rfl, rfl⟩
  have hm : ∀ j : Nat, ∃ i, i < 6 ∧ (fun j => match j with | 0 => q0 | 1 => q1 | 2 => q2 | 3 => q3 | 4 => q4 | 5 => q5 | _ => q0 : Nat → Nat) j = (fun j => match j with | 0 => q0 | 1 => q1 | 2 => q2 | 3 => q3 | 4 => q4 | 5 => q5 | _ => q0 : Nat → Nat) i := by
    intro j
    rcases j with _ | _ | _ | _ | _ | _ | j
    · exact ⟨0, by decide, rfl⟩
    · exact ⟨1, by decide, rfl⟩
    · exact ⟨2, by decide, rfl⟩
    · exact ⟨3, by decide, rfl⟩
    · exact ⟨4, by decide, rfl⟩
    · exact ⟨5, by decide, rfl⟩
    · exact ⟨0, by decide, rfl⟩
  have hx : ∀ {r1 r2 : Nat} {p1 p2 : Nat × va_E}, ([(x0, .inr (2, [.ref y7, .int 0, .ref y21, .int 0, .ref y35, .int 10])), (y7, .inl (K 3, 30, .inr (.inr (.inr (.inr (fun _ => none)))))), (y21, .inl (K 2, 20, .inr (.inr (.inr (.inr (fun _ => none)))))), (y35, .inl (K 0, 7, .inl (fun _ => 0))), (q0, .inl (K 0, 7, .inl (upd (fun _ => 0) 1 10))), (q1, .inl (K 0, 32, .inl (fun _ => 0))), (q2, .inl (K 0, 32, .inl (fun _ => 0))), (q3, .inl (K 0, 8, .inl (fun _ => 0))), (q4, .inl (K 0, 48, .inl (fun _ => 0))), (q5, .inl (K 0, 12, .inl (fun _ => 0)))] : va_W)[r1]? = some p1 → ([(x0, .inr (2, [.ref y7, .int 0, .ref y21, .int 0, .ref y35, .int 10])), (y7, .inl (K 3, 30, .inr (.inr (.inr (.inr (fun _ => none)))))), (y21, .inl (K 2, 20, .inr (.inr (.inr (.inr (fun _ => none)))))), (y35, .inl (K 0, 7, .inl (fun _ => 0))), (q0, .inl (K 0, 7, .inl (upd (fun _ => 0) 1 10))), (q1, .inl (K 0, 32, .inl (fun _ => 0))), (q2, .inl (K 0, 32, .inl (fun _ => 0))), (q3, .inl (K 0, 8, .inl (fun _ => 0))), (q4, .inl (K 0, 48, .inl (fun _ => 0))), (q5, .inl (K 0, 12, .inl (fun _ => 0)))] : va_W)[r2]? = some p2 → r1 ≠ r2 → p1.1 ≠ p2.1 := fun h1 h2 hn h => hn (hD.1 _ _ _ _ h1 h2 h)
  refine ⟨⟨fun k i => ?_, fun j => ⟨?_, hm j⟩⟩, ⟨?_, fun k i j => ?_, fun i j hi hj h => ?_⟩, rel_start, ⟨⟨Nat.zero_le _, Nat.zero_le _, ?_, fun k hk => absurd hk (Nat.not_lt_zero _), fun k hk => absurd hk (Nat.not_lt_zero _)⟩, hP.sub [4, 5, 6, 7, 8, 9] rfl⟩, hS⟩
  · obtain ⟨r, p, hr, h1, h2⟩ := ha k i
    rw [← h2]; exact hD.2 r p h1
  · obtain ⟨i, hi, h⟩ := hm j
    obtain ⟨p, h1, h2⟩ := ho i hi
    rw [h, ← h2]; exact hD.2 _ p h1
  · intro k i k2 i2 h1 h2 h
    have g : ∀ {k i : Nat}, XL 0 0 k i → k ≤ 3 ∧ i = 0 := fun h => by rcases h with h | h | h <;> omega
    obtain ⟨u1, rfl⟩ := g h1
    obtain ⟨u2, rfl⟩ := g h2
    refine ⟨?_, rfl⟩
    have w : ∀ k : Nat, k ≤ 3 → ∃ p, ([(x0, .inr (2, [.ref y7, .int 0, .ref y21, .int 0, .ref y35, .int 10])), (y7, .inl (K 3, 30, .inr (.inr (.inr (.inr (fun _ => none)))))), (y21, .inl (K 2, 20, .inr (.inr (.inr (.inr (fun _ => none)))))), (y35, .inl (K 0, 7, .inl (fun _ => 0))), (q0, .inl (K 0, 7, .inl (upd (fun _ => 0) 1 10))), (q1, .inl (K 0, 32, .inl (fun _ => 0))), (q2, .inl (K 0, 32, .inl (fun _ => 0))), (q3, .inl (K 0, 8, .inl (fun _ => 0))), (q4, .inl (K 0, 48, .inl (fun _ => 0))), (q5, .inl (K 0, 12, .inl (fun _ => 0)))] : va_W)[k]? = some p ∧ p.1 = (fun k _ => match k with | 0 => x0 | 1 => y7 | 2 => y21 | 3 => y35 | _ => x0 : Nat → Nat → Nat) k 0 := fun k hk => by
      rcases (show k = 0 ∨ k = 1 ∨ k = 2 ∨ k = 3 by omega) with rfl | rfl | rfl | rfl <;> exact ⟨_, rfl, rfl⟩
    obtain ⟨p1, e1, f1⟩ := w k u1
    obtain ⟨p2, e2, f2⟩ := w k2 u2
    exact hD.1 _ _ _ _ e1 e2 (by rw [f1, f2]; exact h)
  · obtain ⟨r, p, hr, h1, h2⟩ := ha k i
    obtain ⟨i', hi', h'⟩ := hm j
    obtain ⟨p', h1', h2'⟩ := ho i' hi'
    rw [h', ← h2, ← h2']; exact hx h1 h1' (by omega)
  · obtain ⟨p1, h1, h2⟩ := ho i hi
    obtain ⟨p2, h3, h4⟩ := ho j hj
    have := hD.1 _ _ _ _ h1 h3 (by rw [h2, h4]; exact h)
    omega
  · have et : ∀ ad : Nat → Nat → Nat, tArr ad 0 = fun _ => none := fun ad => by funext k; simp [tArr]
    have ed : ∀ ad : Nat → Nat → Nat, dArr ad 0 = fun _ => none := fun ad => by funext k; simp [dArr]
    have h := hP.sub (ws' := [(x0, .inr (2, [.ref y7, .int 0, .ref y21, .int 0, .ref y35, .int 10])), (y7, .inl (K 3, 30, .inr (.inr (.inr (.inr (fun _ => none)))))), (y21, .inl (K 2, 20, .inr (.inr (.inr (.inr (fun _ => none)))))), (y35, .inl (K 0, 7, .inl (fun _ => 0)))]) [0, 1, 2, 3] rfl
    unfold xW
    rw [et, ed]
    exact h
set_option maxHeartbeats 4000000 in
set_option maxRecDepth 100000 in
theorem whole_start {p : Program} {e : Env} {s : State} {m : MethodId} {below : List Frame} {meth : Method} {c : Code} (l : Launch) (hflags : l.flags = flags0) {b L : Nat} {xs : Nat → Int32} (hL : L ≤ 260) (C0 : lw_At p s m meth c b L xs) : W p l e room_1 s m #[Value.ref b] below meth c s.heap [] 0 0 (lw_Z below #[Value.ref b] s) (entryFrame m ([Value.ref b] : List Value).toArray 14) := by
  obtain ⟨hx, hb, hr, hml, hown, htb, hX, hbl, hlocks, hgv⟩ := C0
  have hl0 : l.stackTraces = false := by unfold Launch.stackTraces; rw [hflags]; decide
  obtain ⟨D, K, hE⟩ := lE_of htb hgv
  have hts : ∀ w ∈ wsL_law, w.before #[Value.ref b] s = true := fun w h => htb w (wsL_law_in w h)
  have hb : c.code = cL_law := hb
  have hown : s.vm.findClass RL = some m.cls := hown
  have hc : CallFix p m c cL_law 14 s #[Value.ref b] wsL_law RL := ⟨hx, hb, hml, hown, hts⟩
  have hK := hE.1
  have hEV := hE.2.1
  have hA : ∀ q : Nat, s.heap.size ≤ q → (fun q => s.heap.size ≤ q) q := fun q h => h
  have hS : va_S (fun q => s.heap.size ≤ q) s.heap s.heap [] := va_S.rf
  have hP : va_P D vwCl [] s.heap := fun k q h => by simp at h
  have hD : va_D (fun q => s.heap.size ≤ q) [] := ⟨fun i j p q h => by simp at h, fun k q h => by simp at h⟩
  have hl := lv_entry ([.ref b]) (n := 14) (Nat.le_of_ble_eq_true rfl)
  rw [lg_entry_eq]
  generalize (lg_sl ([.ref b]) ++ List.replicate (14 - (lg_sl ([.ref b])).length) Slot.unset).toArray = ls at hl ⊢
  have hl : lv_has ls 14 [(0, .ref b)] := hl
  refine va_new (ci := 2) (fs := [.null, .int 0, .null, .int 0, .null, .int 0]) (C := RX2) (T := TX2) (N := 6) hx hb hts inlX2 tyX2 tyX2_ok hown (hts (.classLink RL 11 RX2) (by decide +kernel)) (hts (.instantiable RX2 6) (by decide +kernel)) (hts (.initialized RX2) (by decide +kernel)) hK hP hD hS hA rfl (fun j hj => by rcases (show j = 0 ∨ j = 1 ∨ j = 2 ∨ j = 3 ∨ j = 4 ∨ j = 5 by omega) with rfl | rfl | rfl | rfl | rfl | rfl <;> rfl) (Nat.le_of_ble_eq_true rfl) (Nat.le_of_ble_eq_true rfl) dL_law_0 (fun x0 H hP hD hS => ?_)
  have hP : va_P D vwCl [(x0, .inr (2, [.null, .int 0, .null, .int 0, .null, .int 0]))] H := hP
  have hD : va_D (fun q => s.heap.size ≤ q) [(x0, .inr (2, [.null, .int 0, .null, .int 0, .null, .int 0]))] := hD
  refine lv_dup hx hb dL_law_3 rfl ?_
  have hF9 := va_free (wc := [(x0, .inr (2, [.null, .int 0, .null, .int 0, .null, .int 0]))]) hD hS hA [0] rfl
  refine va_callv (va_runI (As := []) (rest := [.ref x0]) hc (c_X2_init l D K H.size x0) (cwI 0 hts gL_law_X2_init rfl rfl rfl (hts (.initialized RX2) (by decide +kernel)) (hts (.methodLink RL 97 yX2_init) (by decide +kernel)) (hts (.instanceMethod yX2_init) (by decide +kernel)) rfl (by decide +kernel) ⟨(Nat.le_of_ble_eq_true rfl), (Nat.le_of_ble_eq_true rfl)⟩) ⟨EF_blind, EF_at hP (hD.weaken (fun _ _ _ _ => trivial)) hK hEV⟩ rfl rfl hl.1 rfl (lv_room (Nat.le_of_ble_eq_true rfl)) dL_law_4 ⟨(Nat.le_of_ble_eq_true rfl), (Nat.le_of_ble_eq_true rfl)⟩) hS (fun q _ h => hF9 q h) hF9 (fun u t H locs ht hvm hw hB hz1 hk1 hS => ?_)
  rw [ht] at hB
  obtain ⟨y7, y21, y35, hP1, hD1⟩ := hB
  have hP : va_P D vwCl [(x0, .inr (2, [.ref y7, .int 0, .ref y21, .int 0, .ref y35, .int 10])), (y7, .inl (K 3, 30, .inr (.inr (.inr (.inr (fun _ => none)))))), (y21, .inl (K 2, 20, .inr (.inr (.inr (.inr (fun _ => none)))))), (y35, .inl (K 0, 7, .inl (fun _ => 0)))] H := hP1
  have hD : va_D (fun q => s.heap.size ≤ q) [(x0, .inr (2, [.ref y7, .int 0, .ref y21, .int 0, .ref y35, .int 10])), (y7, .inl (K 3, 30, .inr (.inr (.inr (.inr (fun _ => none)))))), (y21, .inl (K 2, 20, .inr (.inr (.inr (.inr (fun _ => none)))))), (y35, .inl (K 0, 7, .inl (fun _ => 0)))] := hD1.weaken (fun k q _ h => hF9 q.1 h)
  clear hP1 hD1
  refine lv_astore_n (lv' := [(1, .ref x0), (0, .ref b)]) hx hb dL_law_7 rfl hl (by decide) rfl (fun ls hl => ?_)
  refine lv_bipush (v := 7) hx hb dL_law_8 (by decide) ?_
  refine va_newa (atype := .int) (a0 := (7, .inl (fun _ => 0))) hx hb (hts (.arrayClass .int) (by decide +kernel)) rfl hK hP hD hS hA (fun cA => rfl) (by decide) (by decide) (by decide) (Nat.le_of_ble_eq_true rfl) (Nat.le_of_ble_eq_true rfl) dL_law_10 (fun q0 co H hK9 hP hD hS => ?_)
  have eco : co = K 0 := va_K_uniq hK9 (i := 4) (j := 0) rfl rfl
  subst eco
  clear hK9
  have hP : va_P D vwCl [(x0, .inr (2, [.ref y7, .int 0, .ref y21, .int 0, .ref y35, .int 10])), (y7, .inl (K 3, 30, .inr (.inr (.inr (.inr (fun _ => none)))))), (y21, .inl (K 2, 20, .inr (.inr (.inr (.inr (fun _ => none)))))), (y35, .inl (K 0, 7, .inl (fun _ => 0))), (q0, .inl (K 0, 7, .inl (fun _ => 0)))] H := hP
  have hD : va_D (fun q => s.heap.size ≤ q) [(x0, .inr (2, [.ref y7, .int 0, .ref y21, .int 0, .ref y35, .int 10])), (y7, .inl (K 3, 30, .inr (.inr (.inr (.inr (fun _ => none)))))), (y21, .inl (K 2, 20, .inr (.inr (.inr (.inr (fun _ => none)))))), (y35, .inl (K 0, 7, .inl (fun _ => 0))), (q0, .inl (K 0, 7, .inl (fun _ => 0)))] := hD
  refine lv_astore_n (lv' := [(2, .ref q0), (1, .ref x0), (0, .ref b)]) hx hb dL_law_12 rfl hl (by decide) rfl (fun ls hl => ?_)
  refine lv_bipush (v := 32) hx hb dL_law_13 (by decide) ?_
  refine va_newa (atype := .int) (a0 := (32, .inl (fun _ => 0))) hx hb (hts (.arrayClass .int) (by decide +kernel)) rfl hK hP hD hS hA (fun cA => rfl) (by decide) (by decide) (by decide) (Nat.le_of_ble_eq_true rfl) (Nat.le_of_ble_eq_true rfl) dL_law_15 (fun q1 co H hK9 hP hD hS => ?_)
  have eco : co = K 0 := va_K_uniq hK9 (i := 4) (j := 0) rfl rfl
  subst eco
  clear hK9
  have hP : va_P D vwCl [(x0, .inr (2, [.ref y7, .int 0, .ref y21, .int 0, .ref y35, .int 10])), (y7, .inl (K 3, 30, .inr (.inr (.inr (.inr (fun _ => none)))))), (y21, .inl (K 2, 20, .inr (.inr (.inr (.inr (fun _ => none)))))), (y35, .inl (K 0, 7, .inl (fun _ => 0))), (q0, .inl (K 0, 7, .inl (fun _ => 0))), (q1, .inl (K 0, 32, .inl (fun _ => 0)))] H := hP
  have hD : va_D (fun q => s.heap.size ≤ q) [(x0, .inr (2, [.ref y7, .int 0, .ref y21, .int 0, .ref y35, .int 10])), (y7, .inl (K 3, 30, .inr (.inr (.inr (.inr (fun _ => none)))))), (y21, .inl (K 2, 20, .inr (.inr (.inr (.inr (fun _ => none)))))), (y35, .inl (K 0, 7, .inl (fun _ => 0))), (q0, .inl (K 0, 7, .inl (fun _ => 0))), (q1, .inl (K 0, 32, .inl (fun _ => 0)))] := hD
  refine lv_astore_n (lv' := [(3, .ref q1), (2, .ref q0), (1, .ref x0), (0, .ref b)]) hx hb dL_law_17 rfl hl (by decide) rfl (fun ls hl => ?_)
  refine lv_bipush (v := 32) hx hb dL_law_18 (by decide) ?_
  refine va_newa (atype := .int) (a0 := (32, .inl (fun _ => 0))) hx hb (hts (.arrayClass .int) (by decide +kernel)) rfl hK hP hD hS hA (fun cA => rfl) (by decide) (by decide) (by decide) (Nat.le_of_ble_eq_true rfl) (Nat.le_of_ble_eq_true rfl) dL_law_20 (fun q2 co H hK9 hP hD hS => ?_)
  have eco : co = K 0 := va_K_uniq hK9 (i := 4) (j := 0) rfl rfl
  subst eco
  clear hK9
  have hP : va_P D vwCl [(x0, .inr (2, [.ref y7, .int 0, .ref y21, .int 0, .ref y35, .int 10])), (y7, .inl (K 3, 30, .inr (.inr (.inr (.inr (fun _ => none)))))), (y21, .inl (K 2, 20, .inr (.inr (.inr (.inr (fun _ => none)))))), (y35, .inl (K 0, 7, .inl (fun _ => 0))), (q0, .inl (K 0, 7, .inl (fun _ => 0))), (q1, .inl (K 0, 32, .inl (fun _ => 0))), (q2, .inl (K 0, 32, .inl (fun _ => 0)))] H := hP
  have hD : va_D (fun q => s.heap.size ≤ q) [(x0, .inr (2, [.ref y7, .int 0, .ref y21, .int 0, .ref y35, .int 10])), (y7, .inl (K 3, 30, .inr (.inr (.inr (.inr (fun _ => none)))))), (y21, .inl (K 2, 20, .inr (.inr (.inr (.inr (fun _ => none)))))), (y35, .inl (K 0, 7, .inl (fun _ => 0))), (q0, .inl (K 0, 7, .inl (fun _ => 0))), (q1, .inl (K 0, 32, .inl (fun _ => 0))), (q2, .inl (K 0, 32, .inl (fun _ => 0)))] := hD
  refine lv_astore (lv' := [(4, .ref q2), (3, .ref q1), (2, .ref q0), (1, .ref x0), (0, .ref b)]) hx hb dL_law_22 hl (by decide) rfl (fun ls hl => ?_)
  refine lv_bipush (v := 8) hx hb dL_law_24 (by decide) ?_
  refine va_newa (atype := .int) (a0 := (8, .inl (fun _ => 0))) hx hb (hts (.arrayClass .int) (by decide +kernel)) rfl hK hP hD hS hA (fun cA => rfl) (by decide) (by decide) (by decide) (Nat.le_of_ble_eq_true rfl) (Nat.le_of_ble_eq_true rfl) dL_law_26 (fun q3 co H hK9 hP hD hS => ?_)
  have eco : co = K 0 := va_K_uniq hK9 (i := 4) (j := 0) rfl rfl
  subst eco
  clear hK9
  have hP : va_P D vwCl [(x0, .inr (2, [.ref y7, .int 0, .ref y21, .int 0, .ref y35, .int 10])), (y7, .inl (K 3, 30, .inr (.inr (.inr (.inr (fun _ => none)))))), (y21, .inl (K 2, 20, .inr (.inr (.inr (.inr (fun _ => none)))))), (y35, .inl (K 0, 7, .inl (fun _ => 0))), (q0, .inl (K 0, 7, .inl (fun _ => 0))), (q1, .inl (K 0, 32, .inl (fun _ => 0))), (q2, .inl (K 0, 32, .inl (fun _ => 0))), (q3, .inl (K 0, 8, .inl (fun _ => 0)))] H := hP
  have hD : va_D (fun q => s.heap.size ≤ q) [(x0, .inr (2, [.ref y7, .int 0, .ref y21, .int 0, .ref y35, .int 10])), (y7, .inl (K 3, 30, .inr (.inr (.inr (.inr (fun _ => none)))))), (y21, .inl (K 2, 20, .inr (.inr (.inr (.inr (fun _ => none)))))), (y35, .inl (K 0, 7, .inl (fun _ => 0))), (q0, .inl (K 0, 7, .inl (fun _ => 0))), (q1, .inl (K 0, 32, .inl (fun _ => 0))), (q2, .inl (K 0, 32, .inl (fun _ => 0))), (q3, .inl (K 0, 8, .inl (fun _ => 0)))] := hD
  refine lv_astore (lv' := [(5, .ref q3), (4, .ref q2), (3, .ref q1), (2, .ref q0), (1, .ref x0), (0, .ref b)]) hx hb dL_law_28 hl (by decide) rfl (fun ls hl => ?_)
  refine lv_bipush (v := 48) hx hb dL_law_30 (by decide) ?_
  refine va_newa (atype := .int) (a0 := (48, .inl (fun _ => 0))) hx hb (hts (.arrayClass .int) (by decide +kernel)) rfl hK hP hD hS hA (fun cA => rfl) (by decide) (by decide) (by decide) (Nat.le_of_ble_eq_true rfl) (Nat.le_of_ble_eq_true rfl) dL_law_32 (fun q4 co H hK9 hP hD hS => ?_)
  have eco : co = K 0 := va_K_uniq hK9 (i := 4) (j := 0) rfl rfl
  subst eco
  clear hK9
  have hP : va_P D vwCl [(x0, .inr (2, [.ref y7, .int 0, .ref y21, .int 0, .ref y35, .int 10])), (y7, .inl (K 3, 30, .inr (.inr (.inr (.inr (fun _ => none)))))), (y21, .inl (K 2, 20, .inr (.inr (.inr (.inr (fun _ => none)))))), (y35, .inl (K 0, 7, .inl (fun _ => 0))), (q0, .inl (K 0, 7, .inl (fun _ => 0))), (q1, .inl (K 0, 32, .inl (fun _ => 0))), (q2, .inl (K 0, 32, .inl (fun _ => 0))), (q3, .inl (K 0, 8, .inl (fun _ => 0))), (q4, .inl (K 0, 48, .inl (fun _ => 0)))] H := hP
  have hD : va_D (fun q => s.heap.size ≤ q) [(x0, .inr (2, [.ref y7, .int 0, .ref y21, .int 0, .ref y35, .int 10])), (y7, .inl (K 3, 30, .inr (.inr (.inr (.inr (fun _ => none)))))), (y21, .inl (K 2, 20, .inr (.inr (.inr (.inr (fun _ => none)))))), (y35, .inl (K 0, 7, .inl (fun _ => 0))), (q0, .inl (K 0, 7, .inl (fun _ => 0))), (q1, .inl (K 0, 32, .inl (fun _ => 0))), (q2, .inl (K 0, 32, .inl (fun _ => 0))), (q3, .inl (K 0, 8, .inl (fun _ => 0))), (q4, .inl (K 0, 48, .inl (fun _ => 0)))] := hD
  refine lv_astore (lv' := [(6, .ref q4), (5, .ref q3), (4, .ref q2), (3, .ref q1), (2, .ref q0), (1, .ref x0), (0, .ref b)]) hx hb dL_law_34 hl (by decide) rfl (fun ls hl => ?_)
  refine lv_bipush (v := 12) hx hb dL_law_36 (by decide) ?_
  refine va_newa (atype := .int) (a0 := (12, .inl (fun _ => 0))) hx hb (hts (.arrayClass .int) (by decide +kernel)) rfl hK hP hD hS hA (fun cA => rfl) (by decide) (by decide) (by decide) (Nat.le_of_ble_eq_true rfl) (Nat.le_of_ble_eq_true rfl) dL_law_38 (fun q5 co H hK9 hP hD hS => ?_)
  have eco : co = K 0 := va_K_uniq hK9 (i := 4) (j := 0) rfl rfl
  subst eco
  clear hK9
  have hP : va_P D vwCl [(x0, .inr (2, [.ref y7, .int 0, .ref y21, .int 0, .ref y35, .int 10])), (y7, .inl (K 3, 30, .inr (.inr (.inr (.inr (fun _ => none)))))), (y21, .inl (K 2, 20, .inr (.inr (.inr (.inr (fun _ => none)))))), (y35, .inl (K 0, 7, .inl (fun _ => 0))), (q0, .inl (K 0, 7, .inl (fun _ => 0))), (q1, .inl (K 0, 32, .inl (fun _ => 0))), (q2, .inl (K 0, 32, .inl (fun _ => 0))), (q3, .inl (K 0, 8, .inl (fun _ => 0))), (q4, .inl (K 0, 48, .inl (fun _ => 0))), (q5, .inl (K 0, 12, .inl (fun _ => 0)))] H := hP
  have hD : va_D (fun q => s.heap.size ≤ q) [(x0, .inr (2, [.ref y7, .int 0, .ref y21, .int 0, .ref y35, .int 10])), (y7, .inl (K 3, 30, .inr (.inr (.inr (.inr (fun _ => none)))))), (y21, .inl (K 2, 20, .inr (.inr (.inr (.inr (fun _ => none)))))), (y35, .inl (K 0, 7, .inl (fun _ => 0))), (q0, .inl (K 0, 7, .inl (fun _ => 0))), (q1, .inl (K 0, 32, .inl (fun _ => 0))), (q2, .inl (K 0, 32, .inl (fun _ => 0))), (q3, .inl (K 0, 8, .inl (fun _ => 0))), (q4, .inl (K 0, 48, .inl (fun _ => 0))), (q5, .inl (K 0, 12, .inl (fun _ => 0)))] := hD
  refine lv_astore (lv' := [(7, .ref q5), (6, .ref q4), (5, .ref q3), (4, .ref q2), (3, .ref q1), (2, .ref q0), (1, .ref x0), (0, .ref b)]) hx hb dL_law_40 hl (by decide) rfl (fun ls hl => ?_)
  refine lv_aload_n hx hb dL_law_42 rfl (lv_at hl 5 rfl) ?_
  refine lv_iconst (v := 1) hx hb dL_law_43 (by decide) ?_
  refine lv_bipush (v := 10) hx hb dL_law_44 (by decide) ?_
  refine vo_iast hx hb hK hP hD hS 4 (n := 7) (f := fun _ => 0) rfl (vp_in_nI (n := 1) (by decide) (by decide)) dL_law_46 (fun H locs hP hD hS oq => ?_)
  have hP : va_P D vwCl [(x0, .inr (2, [.ref y7, .int 0, .ref y21, .int 0, .ref y35, .int 10])), (y7, .inl (K 3, 30, .inr (.inr (.inr (.inr (fun _ => none)))))), (y21, .inl (K 2, 20, .inr (.inr (.inr (.inr (fun _ => none)))))), (y35, .inl (K 0, 7, .inl (fun _ => 0))), (q0, .inl (K 0, 7, .inl (upd (fun _ => 0) 1 10))), (q1, .inl (K 0, 32, .inl (fun _ => 0))), (q2, .inl (K 0, 32, .inl (fun _ => 0))), (q3, .inl (K 0, 8, .inl (fun _ => 0))), (q4, .inl (K 0, 48, .inl (fun _ => 0))), (q5, .inl (K 0, 12, .inl (fun _ => 0)))] H := hP
  have hD : va_D (fun q => s.heap.size ≤ q) [(x0, .inr (2, [.ref y7, .int 0, .ref y21, .int 0, .ref y35, .int 10])), (y7, .inl (K 3, 30, .inr (.inr (.inr (.inr (fun _ => none)))))), (y21, .inl (K 2, 20, .inr (.inr (.inr (.inr (fun _ => none)))))), (y35, .inl (K 0, 7, .inl (fun _ => 0))), (q0, .inl (K 0, 7, .inl (upd (fun _ => 0) 1 10))), (q1, .inl (K 0, 32, .inl (fun _ => 0))), (q2, .inl (K 0, 32, .inl (fun _ => 0))), (q3, .inl (K 0, 8, .inl (fun _ => 0))), (q4, .inl (K 0, 48, .inl (fun _ => 0))), (q5, .inl (K 0, 12, .inl (fun _ => 0)))] := hD
  refine lv_iconst (v := 0) hx hb dL_law_47 (by decide) ?_
  refine lv_istore (lv' := [(8, .int 0), (7, .ref q5), (6, .ref q4), (5, .ref q3), (4, .ref q2), (3, .ref q1), (2, .ref q0), (1, .ref x0), (0, .ref b)]) hx hb dL_law_48 hl (by decide) rfl (fun ls hl => ?_)
  refine W.widen (k := 20) (n := 500) (Nat.le_of_ble_eq_true rfl) (Nat.le_of_ble_eq_true rfl) ?_
  exact lo_loop (x := x0) l hl0 hx hb hr hlocks hc hE hX hbl hL 100 0 rfl _ _ H _ ls _ _ _ _ _ rfl rfl rfl (lI_start hP hD hS) (lv_sub hl [8, 7, 6, 5, 4, 3, 2, 1, 0] rfl)
