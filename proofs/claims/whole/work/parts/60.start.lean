/-! what the tables say at the law's entry -/
def lE (D : va_G) (K : Nat → ClassId) (s : State) : Prop := va_K D vwCl (TYS K) s ∧ va_K D vwCl [(K 4, .long)] s ∧ EV s ∧ EX s ∧ EN s ∧ vx_Zq Bundle.tN "UNASSIGNED_STACK" Bundle.steD (fun q => s.heap.size ≤ q) s s.heap ∧ vx_Zq Bundle.tN "SUPPRESSED_SENTINEL" Bundle.listD (fun q => s.heap.size ≤ q) s s.heap
theorem lE_prim {ty : FieldType} {args : Array Value} {s : State} (h : (Cond.arrayClass ty).before args s = true) (hp : ∀ c, va_RA s c ty ↔ s.vm.findClass ("[" ++ ty.toString) = some c) (hc : ty = .int ∨ ty = .boolean ∨ ty = .long) : ∃ c, ArrOfT s c ty ∧ va_RA s c ty := by
  obtain ⟨c, k, comp, h1, h2, h3⟩ := Cond.arrayClass_spec h
  refine ⟨c, fun n z => ⟨fun k9 h9 => ?_, k, h2, comp, h3⟩, (hp c).mpr h1⟩
  rcases hc with rfl | rfl | rfl <;> cases h9
theorem lE_obj {C : String} {args : Array Value} {s : State} (h : (Cond.arrayOver (.object C)).before args s = true) : ∃ c, ArrOfT s c (.object C) ∧ va_RA s c (.object C) := by
  obtain ⟨comp, c, k, h1, -, h2, h3, h4⟩ := Cond.arrayOver_spec h
  exact ⟨c, fun n z => ⟨(fun k9 h9 => by cases h9), k, h2, comp, h3⟩, k, comp, h2, h3, h1, h4⟩
theorem lE_w0 : Cond.arrayClass .int ∈ lw_tbl := wsL_law_in _ (by decide +kernel)
theorem lE_w1 : Cond.arrayClass .boolean ∈ lw_tbl := wsL_law_in _ (by decide +kernel)
theorem lE_w2 : Cond.arrayOver (.object RX0) ∈ lw_tbl := by decide +kernel
theorem lE_w3 : Cond.arrayOver (.object RX1) ∈ lw_tbl := by decide +kernel
theorem lE_w4 : Cond.arrayClass .long ∈ lw_tbl := wsL_law_in _ (by decide +kernel)
theorem lE_i0 : Cond.instantiable RX0 8 ∈ lw_tbl := wsL_law_in _ (by decide +kernel)
theorem lE_i1 : Cond.instantiable RX1 6 ∈ lw_tbl := wsL_law_in _ (by decide +kernel)
theorem lE_i2 : Cond.instantiable RX2 6 ∈ lw_tbl := wsL_law_in _ (by decide +kernel)
theorem lE_i3 : Cond.instantiable RX3 19 ∈ lw_tbl := wsL_law_in _ (by decide +kernel)
theorem lE_n0 : Cond.methodLinkNest RX1 33 yX2_isBidder RX2 ∈ lw_tbl := by decide +kernel
theorem lE_n1 : Cond.methodLinkNest RX0 39 yX2_isBidder RX2 ∈ lw_tbl := by decide +kernel
theorem lE_n2 : Cond.methodLinkNest RX2 42 yX1_init RX2 ∈ lw_tbl := by decide +kernel
theorem lE_str : ∀ q ∈ strT, Cond.stringRef RX2 q.1 q.2 ∈ lw_tbl := by decide +kernel
theorem lE_dcl : ∀ w ∈ dclT, w ∈ lw_tbl := by decide +kernel
theorem lE_z0 : Cond.laysStatic Bundle.tN "UNASSIGNED_STACK" Bundle.steD ∈ lw_tbl := by decide +kernel
theorem lE_z1 : Cond.laysStatic Bundle.tN "SUPPRESSED_SENTINEL" Bundle.listD ∈ lw_tbl := by decide +kernel
theorem lE_z2 : Cond.initialized Bundle.tN ∈ lw_tbl := by decide +kernel
theorem lE_K {args : Array Value} {s : State} (hts : ∀ w ∈ lw_tbl, w.before args s = true) : ∃ (D : va_G) (K : Nat → ClassId), va_K D vwCl (TYS K) s ∧ va_K D vwCl [(K 4, .long)] s := by
  obtain ⟨d0, e0, k0⟩ := u_known hts (fun w h => inX0 w h) (hts _ lE_i0)
  obtain ⟨d1, e1, k1⟩ := u_known hts (fun w h => inX1 w h) (hts _ lE_i1)
  obtain ⟨d2, e2, k2⟩ := u_known hts (fun w h => inX2 w h) (hts _ lE_i2)
  obtain ⟨d3, e3, k3⟩ := u_known hts (fun w h => inX3 w h) (hts _ lE_i3)
  obtain ⟨a0, x0, y0⟩ := lE_prim (hts _ lE_w0) (fun c => Iff.rfl) (Or.inl rfl)
  obtain ⟨a1, x1, y1⟩ := lE_prim (hts _ lE_w1) (fun c => Iff.rfl) (Or.inr (Or.inl rfl))
  obtain ⟨a2, x2, y2⟩ := lE_obj (hts _ lE_w2)
  obtain ⟨a3, x3, y3⟩ := lE_obj (hts _ lE_w3)
  obtain ⟨a4, x4, y4⟩ := lE_prim (hts _ lE_w4) (fun c => Iff.rfl) (Or.inr (Or.inr rfl))
  have hcl : ∀ (c : Nat) (q : vw_C), vwCl[c]? = some q → u_Kn s q.1 q.2.1 q.2.2 ((fun c => match c with | 0 => d0 | 1 => d1 | 2 => d2 | _ => d3) c) ((fun c => match c with | 0 => e0 | 1 => e1 | 2 => e2 | _ => e3) c) := by
    intro c q hq
    rcases c with _ | _ | _ | _ | c
    · cases hq; exact k0
    · cases hq; exact k1
    · cases hq; exact k2
    · cases hq; exact k3
    · exact absurd hq (by simp [vwCl])
  refine ⟨(fun c => match c with | 0 => d0 | 1 => d1 | 2 => d2 | _ => d3, fun c => match c with | 0 => e0 | 1 => e1 | 2 => e2 | _ => e3), fun k => match k with | 0 => a0 | 1 => a1 | 2 => a2 | 3 => a3 | _ => a4, ⟨hcl, fun k q hq => ?_⟩, ⟨hcl, fun k q hq => ?_⟩⟩
  · rcases k with _ | _ | _ | _ | k
    · cases hq; exact ⟨x0, y0⟩
    · cases hq; exact ⟨x1, y1⟩
    · cases hq; exact ⟨x2, y2⟩
    · cases hq; exact ⟨x3, y3⟩
    · exact absurd hq (by simp [TYS])
  · rcases k with _ | k
    · cases hq; exact ⟨x4, y4⟩
    · exact absurd hq (by simp)
theorem lE_of {b : Addr} {s : State} (hts : ∀ w ∈ lw_tbl, w.before #[Value.ref b] s = true) (hgv : (Jvm.Cond.and given_1 narrow_1).before #[Value.ref b] s = true) : ∃ (D : va_G) (K : Nat → ClassId), lE D K s := by
  obtain ⟨D, K, hK, hK5⟩ := lE_K hts
  have hs := flat_of_before _ hgv
  refine ⟨D, K, hK, hK5, ⟨va_Nw.of rfl (hts _ lE_n0), va_Nw.of rfl (hts _ lE_n1), va_Nw.of rfl (hts _ lE_n2), va_AO.of (hts _ lE_w2), va_AO.of (hts _ lE_w3)⟩, ⟨fun q hq => ?_, fun w hw => va_Nw.of (dcl_on w hw) (hts _ (lE_dcl w hw))⟩, fun q hq => ?_, vx_Zqof (hts _ lE_z0) (hts _ lE_z2) (hs _ (by decide +kernel)) (fun a h1 h2 => by omega), vx_Zqof (hts _ lE_z1) (hts _ lE_z2) (hs _ (by decide +kernel)) (fun a h1 h2 => by omega)⟩
  · obtain ⟨cC, kC, hfc, -⟩ := Cond.instantiable_spec (hts _ lE_i2)
    have h1 := hts _ (lE_str q hq)
    obtain ⟨k, cf, i, a, -, -, -, -, -, h2⟩ := Cond.stringRef_spec hfc h1
    exact ⟨a, vk_R.of h1 h2⟩
  · simp only [ncT, List.mem_cons, List.not_mem_nil, or_false] at hq
    rcases hq with rfl | rfl | rfl | rfl | rfl | rfl <;> exact va_Nc.of (hs _ (by decide +kernel))
