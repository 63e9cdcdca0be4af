/-! the law's six arrays -/
abbrev aW (K : Nat → ClassId) (oa : Nat → Nat) (M : Nat → Nat → Int32) : va_W := [(oa 0, .inl (K 0, 7, .inl (M 0))), (oa 1, .inl (K 0, 32, .inl (M 1))), (oa 2, .inl (K 0, 32, .inl (M 2))), (oa 3, .inl (K 0, 8, .inl (M 3))), (oa 4, .inl (K 0, 48, .inl (M 4))), (oa 5, .inl (K 0, 12, .inl (M 5)))]
theorem two_ix {a b : Nat} {t c : Int32} {N : Nat} (ht : ∃ k, k < a ∧ t = nI k) (hc : ∃ j, j < b ∧ c = nI j) (m : Nat) (h : m * a + b ≤ N + m) (hN : N < 2 ^ 20 := by decide) : vp_in (nI m * t + c) N := by
  obtain ⟨k, hk, rfl⟩ := ht
  obtain ⟨j, hj, rfl⟩ := hc
  have h1 : m * k + m ≤ m * a := by rw [← Nat.mul_succ]; exact Nat.mul_le_mul_left m hk
  rw [pk_mul, nI_add]
  exact vp_in_nI (by omega) (by omega)
theorem vx {x : Int32} {N : Nat} (h : vp_in x N) (hN : N < 2 ^ 31 := by decide) : ∃ k, k < N ∧ x = nI k := vp_in_of h hN
theorem i4 {t b : Int32} (ht : vp_in t 8) (hb : vp_in b 4) : vp_in (4 * t + b) 32 := two_ix (vx ht) (vx hb) 4 (by decide)
theorem i40 {t : Int32} (ht : vp_in t 8) : vp_in (4 * t) 32 := by
  have h := i4 ht (show vp_in 0 4 from vp_in_nI (n := 0) (by decide) (by decide))
  rwa [Int32.add_zero] at h
theorem i8 {t b : Int32} (ht : vp_in t 6) (hb : vp_in b 8) : vp_in (8 * t + b) 48 := two_ix (vx ht) (vx hb) 8 (by decide)
theorem i80 {t : Int32} (ht : vp_in t 6) : vp_in (8 * t) 48 := by
  have h := i8 ht (show vp_in 0 8 from vp_in_nI (n := 0) (by decide) (by decide))
  rwa [Int32.add_zero] at h
theorem i85 {t b : Int32} (ht : vp_in t 6) (hb : vp_in b 2) : vp_in ((8 * t + 5) + b) 48 := by
  obtain ⟨j, hj, rfl⟩ := vx hb
  rw [Int32.add_assoc, show (5 : Int32) = nI 5 from rfl, nI_add]
  exact i8 ht (vp_in_nI (by omega) (by decide))
theorem i2 {t b : Int32} (ht : vp_in t 6) (hb : vp_in b 2) : vp_in (2 * t + b) 12 := two_ix (vx ht) (vx hb) 2 (by decide)
theorem i20 {t : Int32} (ht : vp_in t 6) : vp_in (2 * t) 12 := by
  have h := i2 ht (show vp_in 0 2 from vp_in_nI (n := 0) (by decide) (by decide))
  rwa [Int32.add_zero] at h
theorem i3 {b : Int32} (hb : vp_in b 4) : vp_in (3 + b) 7 := by
  obtain ⟨j, hj, rfl⟩ := vx hb
  rw [show (3 : Int32) = nI 3 from rfl, nI_add]
  exact vp_in_nI (by omega) (by decide)
theorem in42 {b : Int32} (hb : vp_in b 2) : vp_in b 8 := by
  obtain ⟨j, hj, rfl⟩ := vx hb
  exact vp_in_nI (by omega) (by decide)
theorem add_sub_l (a b : Int32) : a + b - a = b := by rw [Int32.add_comm, Int32.add_sub_cancel]
theorem oth1 {a b w : Int32} (e : w = a) (hb : vp_in b 4) : vp_in (a + b - w) 4 := by rw [e, add_sub_l]; exact hb
theorem oth2 {a b w : Int32} (e : w = b) (ha : vp_in a 4) : vp_in (a + b - w) 4 := by rw [e, Int32.add_sub_cancel]; exact ha
theorem val_in {x y : Int32} {N : Nat} (e : x = y) (h : vp_in y N) : vp_in x N := by rw [e]; exact h

def sp_L_low (p0 : Int32) (p1 : Int32) : Int32 := (p0 &&& 2147483647) - (p0 &&& 2147483647) / p1 * p1
set_option maxHeartbeats 4000000 in
set_option maxRecDepth 100000 in
theorem c_L_low (l : Launch) (D : va_G) (K : Nat → ClassId) (p0 p1 : Int32) (hne : ¬ p1 = 0) : PU l yL_low wsL_low 0 0 D K [.int p0, .int p1] (fun H => True) (.int (sp_L_low p0 p1)) := by
  refine Met.ofW (cc := cL_low) (maxL := 2) (ret := (some .int)) (by decide) rfl ?_
  intro p e s m args below meth c s₁ B hml hv
  obtain ⟨rfl, hP, hK, hE⟩ := hv
  have hx := B.exec
  have hb := B.bytes
  have hr := B.returns
  have hts := atoms_spec (ws := wsL_low) B.pre
  have hown : s.vm.findClass RL = some m.cls := findClass_of_methodNamed B.named
  have hlocks := B.notSynchronized
  have hc : CallFix p m c cL_low 2 s ([.int p0, .int p1] : List Value).toArray wsL_low RL := ⟨hx, hb, hml, hown, hts⟩
  have hl := lv_entry ([.int p0, .int p1]) (n := 2) (Nat.le_of_ble_eq_true rfl)
  rw [lg_entry_eq]
  generalize (lg_sl ([.int p0, .int p1]) ++ List.replicate (2 - (lg_sl ([.int p0, .int p1])).length) Slot.unset).toArray = ls at hl ⊢
  have hl : lv_has ls 2 [(0, .int p0), (1, .int p1)] := hl
  refine lv_iload_n hx hb dL_low_0 rfl (lv_at hl 0 rfl) ?_
  refine lv_ldc hx hb hown (hts (.constant RL 9 (2147483647)) (by decide +kernel)) dL_low_1 ?_
  refine lv_iand hx hb dL_low_3 ?_
  refine lv_iload_n hx hb dL_low_4 rfl (lv_at hl 1 rfl) ?_
  refine lv_irem hx hb dL_low_5 (hne) ?_
  exact pu_iret hx hb hr hlocks dL_low_6 (Eq.symm (rfl))

def sp_L_in (M : Nat → Nat → Int32) (p0 : Int32) (p1 : Int32) : Bool := if (M 2 (((4 * p0) + p1).toNatClampNeg)) ≤ 0 then false else (if (((M 3 p0.toNatClampNeg) >>> (p1 &&& 31)) &&& 1) = 0 then true else false)
set_option maxHeartbeats 4000000 in
set_option maxRecDepth 100000 in
theorem c_L_in (l : Launch) (D : va_G) (K : Nat → ClassId) (oa : Nat → Nat) (M : Nat → Nat → Int32) (p0 p1 : Int32) (ht : vp_in p0 8) (hb4 : vp_in p1 4) : PU l yL_in wsL_in 0 0 D K [.int p0, .int p1, .ref (oa 2), .ref (oa 3)] (fun H => va_P D vwCl (aW K oa M) H) (.int (bI (sp_L_in M p0 p1))) := by
  refine Met.ofW (cc := cL_in) (maxL := 4) (ret := (some .boolean)) (by decide) rfl ?_
  intro p e s m args below meth c s₁ B hml hv
  obtain ⟨rfl, hP, hK, hE⟩ := hv
  have hx := B.exec
  have hb := B.bytes
  have hr := B.returns
  have hts := atoms_spec (ws := wsL_in) B.pre
  have hown : s.vm.findClass RL = some m.cls := findClass_of_methodNamed B.named
  have hlocks := B.notSynchronized
  have hc : CallFix p m c cL_in 4 s ([.int p0, .int p1, .ref (oa 2), .ref (oa 3)] : List Value).toArray wsL_in RL := ⟨hx, hb, hml, hown, hts⟩
  have hP : va_P D vwCl (aW K oa M) s.heap := hP
  have hl := lv_entry ([.int p0, .int p1, .ref (oa 2), .ref (oa 3)]) (n := 4) (Nat.le_of_ble_eq_true rfl)
  rw [lg_entry_eq]
  generalize (lg_sl ([.int p0, .int p1, .ref (oa 2), .ref (oa 3)]) ++ List.replicate (4 - (lg_sl ([.int p0, .int p1, .ref (oa 2), .ref (oa 3)])).length) Slot.unset).toArray = ls at hl ⊢
  have hl : lv_has ls 4 [(0, .int p0), (1, .int p1), (2, .ref (oa 2)), (3, .ref (oa 3))] := hl
  refine lv_aload_n hx hb dL_in_0 rfl (lv_at hl 2 rfl) ?_
  refine lv_iconst (v := 4) hx hb dL_in_1 (by decide) ?_
  refine lv_iload_n hx hb dL_in_2 rfl (lv_at hl 0 rfl) ?_
  refine lv_imul hx hb dL_in_3 ?_
  refine lv_iload_n hx hb dL_in_4 rfl (lv_at hl 1 rfl) ?_
  refine lv_iadd hx hb dL_in_5 ?_
  refine va_iald hx hb hK hP 2 0 (cA := K 0) rfl rfl (i4 ht hb4) dL_in_6 ?_
  refine lv_if_le (tgt := 24) hx hb dL_in_7 (by decide) (fun c_7 => ?_) (fun c_7 => ?_)
  · skip
    refine lv_iconst (v := 0) hx hb dL_in_24 (by decide) ?_
    exact pu_zret hx hb hr hlocks dL_in_25 (bI_nar _) (bI_eq (a := false) (Eq.symm (Eq.trans (if_pos c_7) (rfl))))
  · skip
    refine W.eq (g2 := F0 m 10 ls []) rfl ?_
    refine lv_aload_n hx hb dL_in_10 rfl (lv_at hl 3 rfl) ?_
    refine lv_iload_n hx hb dL_in_11 rfl (lv_at hl 0 rfl) ?_
    refine va_iald hx hb hK hP 3 0 (cA := K 0) rfl rfl (ht) dL_in_12 ?_
    refine lv_iload_n hx hb dL_in_13 rfl (lv_at hl 1 rfl) ?_
    refine lv_ishr hx hb dL_in_14 ?_
    refine lv_iconst (v := 1) hx hb dL_in_15 (by decide) ?_
    refine lv_iand hx hb dL_in_16 ?_
    refine lv_if_ne (tgt := 24) hx hb dL_in_17 (by decide) (fun c_17 => ?_) (fun c_17 => ?_)
    · skip
      refine lv_iconst (v := 0) hx hb dL_in_24 (by decide) ?_
      exact pu_zret hx hb hr hlocks dL_in_25 (bI_nar _) (bI_eq (a := false) (Eq.symm (Eq.trans (if_neg c_7) (Eq.trans (if_neg c_17) (rfl)))))
    · skip
      refine W.eq (g2 := F0 m 20 ls []) rfl ?_
      refine lv_iconst (v := 1) hx hb dL_in_20 (by decide) ?_
      refine lv_goto (tgt := 25) hx hb dL_in_21 (by decide) ?_
      exact pu_zret hx hb hr hlocks dL_in_25 (bI_nar _) (bI_eq (a := true) (Eq.symm (Eq.trans (if_neg c_7) (Eq.trans (if_pos c_17) (rfl)))))

def sp_L_bits_L4 (p0 : Int32) : Nat → Int32
  | 0 => 0
  | k + 1 => (sp_L_bits_L4 p0 k) + ((p0 >>> ((nI k) &&& 31)) &&& 1)
def sp_L_bits (p0 : Int32) : Int32 := sp_L_bits_L4 p0 8
set_option maxHeartbeats 4000000 in
set_option maxRecDepth 100000 in
theorem c_L_bits (l : Launch) (D : va_G) (K : Nat → ClassId) (p0 : Int32) : PU l yL_bits wsL_bits 0 0 D K [.int p0] (fun H => True) (.int (sp_L_bits p0)) := by
  refine Met.ofW (cc := cL_bits) (maxL := 3) (ret := (some .int)) (by decide) rfl ?_
  intro p e s m args below meth c s₁ B hml hv
  obtain ⟨rfl, hP, hK, hE⟩ := hv
  have hx := B.exec
  have hb := B.bytes
  have hr := B.returns
  have hts := atoms_spec (ws := wsL_bits) B.pre
  have hown : s.vm.findClass RL = some m.cls := findClass_of_methodNamed B.named
  have hlocks := B.notSynchronized
  have hc : CallFix p m c cL_bits 3 s ([.int p0] : List Value).toArray wsL_bits RL := ⟨hx, hb, hml, hown, hts⟩
  have hl := lv_entry ([.int p0]) (n := 3) (Nat.le_of_ble_eq_true rfl)
  rw [lg_entry_eq]
  generalize (lg_sl ([.int p0]) ++ List.replicate (3 - (lg_sl ([.int p0])).length) Slot.unset).toArray = ls at hl ⊢
  have hl : lv_has ls 3 [(0, .int p0)] := hl
  refine lv_iconst (v := 0) hx hb dL_bits_0 (by decide) ?_
  refine lv_istore_n (lv' := [(1, .int 0), (0, .int p0)]) hx hb dL_bits_1 rfl hl (by decide) rfl (fun ls hl => ?_)
  refine lv_iconst (v := 0) hx hb dL_bits_2 (by decide) ?_
  refine lv_istore_n (lv' := [(2, .int 0), (1, .int 0), (0, .int p0)]) hx hb dL_bits_3 rfl hl (by decide) rfl (fun ls hl => ?_)
  have hloop_4 : ∀ (n4 k : Nat), k ≤ 8 → 8 + 1 ≤ k + n4 → ∀ (a4_1 x4 : Int32) (ls : Array Slot), a4_1 = sp_L_bits_L4 p0 k → x4 = nI k → lv_has ls 3 [(0, .int p0), (1, .int a4_1), (2, .int x4)] → W p l e ({ frames := 0, cells := 0, slots := 0, locals := 0 } : Room) s m ([.int p0] : List Value).toArray below meth c s.heap [] 0 0 (MQ below (QcV (.int (sp_L_bits p0))) ([.int p0] : List Value).toArray s 0 0 (fun _ => False)) (F0 m 4 ls []) := by
    intro n4
    induction n4 with
    | zero => intro k h1 h2; exact absurd h2 (by omega)
    | succ n4 ih_4 =>
      intro k hk_4 hn_4 a4_1 x4 ls ea4_1 ex4 hl
      subst ea4_1
      subst ex4
      refine lv_iload_n hx hb dL_bits_4 rfl (lv_at hl 2 rfl) ?_
      refine lv_bipush (v := 8) hx hb dL_bits_5 (by decide) ?_
      refine lv_icmp_ge (tgt := 24) hx hb dL_bits_7 (by decide) (fun c_7 => ?_) (fun c_7 => ?_)
      · skip
        have hke_4 : 8 = k := (lp_end rfl c_7 hk_4 (by decide)).symm
        subst hke_4
        refine lv_iload_n hx hb dL_bits_24 rfl (lv_at hl 1 rfl) ?_
        exact pu_iret hx hb hr hlocks dL_bits_25 (Eq.symm (rfl))
      · skip
        have hlt_4 : k < 8 := lp_in rfl c_7 hk_4 (by decide)
        refine lv_iload_n hx hb dL_bits_10 rfl (lv_at hl 1 rfl) ?_
        refine W.eq (g2 := F0 m 11 ls [.int (sp_L_bits_L4 p0 k)]) rfl ?_
        refine lv_iload_n hx hb dL_bits_11 rfl (lv_at hl 0 rfl) ?_
        refine lv_iload_n hx hb dL_bits_12 rfl (lv_at hl 2 rfl) ?_
        refine lv_ishr hx hb dL_bits_13 ?_
        refine lv_iconst (v := 1) hx hb dL_bits_14 (by decide) ?_
        refine lv_iand hx hb dL_bits_15 ?_
        refine lv_iadd hx hb dL_bits_16 ?_
        refine lv_istore_n (lv' := [(1, .int ((sp_L_bits_L4 p0 k) + ((p0 >>> ((nI k) &&& 31)) &&& 1))), (0, .int p0), (2, .int (nI k))]) hx hb dL_bits_17 rfl hl (by decide) rfl (fun ls hl => ?_)
        refine lv_iinc (v := (nI k) + 1) (lv' := [(2, .int ((nI k) + 1)), (1, .int ((sp_L_bits_L4 p0 k) + ((p0 >>> ((nI k) &&& 31)) &&& 1))), (0, .int p0)]) hx hb dL_bits_18 hl (k := 2) rfl (rfl) (by decide) rfl (fun ls hl => ?_)
        refine W.eq (g2 := F0 m 21 ls []) rfl ?_
        refine lv_goto (tgt := 4) hx hb dL_bits_21 (by decide) ?_
        exact ih_4 (k + 1) hlt_4 (by omega) _ _ ls (Eq.symm (rfl)) (nI_1 k) (lv_sub hl [2, 1, 0] rfl)
  exact hloop_4 (8 + 1) 0 (Nat.zero_le _) (by omega) _ _ ls rfl nI_0.symm (lv_sub hl [2, 1, 0] rfl)

def sp_L_sign_j72s0 (M : Nat → Nat → Int32) (p0 : Int32) (p1 : Int32) (p2 : Int32) : Int32 := if (((M 3 p0.toNatClampNeg) >>> (((p1 + p2) - (M 1 (((4 * p0) + 1).toNatClampNeg))) &&& 31)) &&& 1) = 1 then 1 else 0
def sp_L_sign_j93s0 (M : Nat → Nat → Int32) (p0 : Int32) (p1 : Int32) (p2 : Int32) : Int32 := if (M 1 (((4 * p0) + 2).toNatClampNeg)) = ((p1 + p2) - (M 1 (((4 * p0) + 1).toNatClampNeg))) then (if (M 2 (((4 * p0) + ((p1 + p2) - (M 1 (((4 * p0) + 1).toNatClampNeg)))).toNatClampNeg)) ≤ 0 then 0 else 3) else 0
def sp_L_sign_j128s0 (M : Nat → Nat → Int32) (p0 : Int32) (p1 : Int32) (p2 : Int32) : Int32 := if (M 2 (((4 * p0) + ((p1 + p2) - (M 1 (((4 * p0) + 1).toNatClampNeg)))).toNatClampNeg)) ≤ (M 2 (((4 * p0) + (M 1 (((4 * p0) + 1).toNatClampNeg))).toNatClampNeg)) then 0 else (if (5 * (M 2 (((4 * p0) + (M 1 (((4 * p0) + 1).toNatClampNeg))).toNatClampNeg))) < (100 * ((M 2 (((4 * p0) + ((p1 + p2) - (M 1 (((4 * p0) + 1).toNatClampNeg)))).toNatClampNeg)) - (M 2 (((4 * p0) + (M 1 (((4 * p0) + 1).toNatClampNeg))).toNatClampNeg)))) then 0 else 2)
def sp_L_sign_A (M : Nat → Nat → Int32) (p1 p2 vo : Int32) : Nat → Int32 → Int32
  | 0, sm => sm
  | j + 1, sm => if (M 1 ((4 * (nI j)).toNatClampNeg)) = 1 then (if sp_L_in M (nI j) p1 = true then (if sp_L_in M (nI j) p2 = true then (if (M 1 (((4 * (nI j)) + 1).toNatClampNeg)) = (vo) then (if ((nI j) - 1) < 0 then (sm + 4) else (sm + 4)) else (if ((nI j) - 1) < 0 then (sm + 0) else (sm + 0))) else (sp_L_sign_A M p1 p2 vo j (sm + 0))) else (sp_L_sign_A M p1 p2 vo j (sm + 0))) else (sp_L_sign_A M p1 p2 vo j (sm + 0))
def sp_L_sign (M : Nat → Nat → Int32) (p0 : Int32) (p1 : Int32) (p2 : Int32) : Int32 := if (M 1 ((4 * p0).toNatClampNeg)) = 1 then (if (M 1 (((4 * p0) + 1).toNatClampNeg)) = p1 then (if sp_L_in M p0 ((p1 + p2) - (M 1 (((4 * p0) + 1).toNatClampNeg))) = true then (sp_L_sign_A M p1 p2 ((p1 + p2) - (M 1 (((4 * p0) + 1).toNatClampNeg))) p0.toNatClampNeg (((sp_L_sign_j72s0 M p0 p1 p2) + (sp_L_sign_j93s0 M p0 p1 p2)) + (sp_L_sign_j128s0 M p0 p1 p2))) else ((sp_L_sign_j72s0 M p0 p1 p2) + (sp_L_sign_j93s0 M p0 p1 p2))) else (if (M 1 (((4 * p0) + 1).toNatClampNeg)) = p2 then (if sp_L_in M p0 ((p1 + p2) - (M 1 (((4 * p0) + 1).toNatClampNeg))) = true then (sp_L_sign_A M p1 p2 ((p1 + p2) - (M 1 (((4 * p0) + 1).toNatClampNeg))) p0.toNatClampNeg (((sp_L_sign_j72s0 M p0 p1 p2) + (sp_L_sign_j93s0 M p0 p1 p2)) + (sp_L_sign_j128s0 M p0 p1 p2))) else ((sp_L_sign_j72s0 M p0 p1 p2) + (sp_L_sign_j93s0 M p0 p1 p2))) else 0)) else 0
set_option maxHeartbeats 4000000 in
set_option maxRecDepth 100000 in
theorem c_L_sign (l : Launch) (D : va_G) (K : Nat → ClassId) (oa : Nat → Nat) (M : Nat → Nat → Int32) (p0 p1 p2 : Int32) (ht : vp_in p0 8) (hb1 : vp_in p1 4) (hb2 : vp_in p2 4) : PU l yL_sign wsL_sign 1 23 D K [.int p0, .int p1, .int p2, .ref (oa 1), .ref (oa 2), .ref (oa 3)] (fun H => va_P D vwCl (aW K oa M) H) (.int (sp_L_sign M p0 p1 p2)) := by
  refine Met.ofW (cc := cL_sign) (maxL := 13) (ret := (some .int)) (by decide) rfl ?_
  intro p e s m args below meth c s₁ B hml hv
  obtain ⟨rfl, hP, hK, hE⟩ := hv
  have hx := B.exec
  have hb := B.bytes
  have hr := B.returns
  have hts := atoms_spec (ws := wsL_sign) B.pre
  have hown : s.vm.findClass RL = some m.cls := findClass_of_methodNamed B.named
  have hlocks := B.notSynchronized
  have hc : CallFix p m c cL_sign 13 s ([.int p0, .int p1, .int p2, .ref (oa 1), .ref (oa 2), .ref (oa 3)] : List Value).toArray wsL_sign RL := ⟨hx, hb, hml, hown, hts⟩
  have hP : va_P D vwCl (aW K oa M) s.heap := hP
  have hl := lv_entry ([.int p0, .int p1, .int p2, .ref (oa 1), .ref (oa 2), .ref (oa 3)]) (n := 13) (Nat.le_of_ble_eq_true rfl)
  rw [lg_entry_eq]
  generalize (lg_sl ([.int p0, .int p1, .int p2, .ref (oa 1), .ref (oa 2), .ref (oa 3)]) ++ List.replicate (13 - (lg_sl ([.int p0, .int p1, .int p2, .ref (oa 1), .ref (oa 2), .ref (oa 3)])).length) Slot.unset).toArray = ls at hl ⊢
  have hl : lv_has ls 13 [(0, .int p0), (1, .int p1), (2, .int p2), (3, .ref (oa 1)), (4, .ref (oa 2)), (5, .ref (oa 3))] := hl
  refine lv_aload_n hx hb dL_sign_0 rfl (lv_at hl 3 rfl) ?_
  refine lv_iconst (v := 4) hx hb dL_sign_1 (by decide) ?_
  refine lv_iload_n hx hb dL_sign_2 rfl (lv_at hl 0 rfl) ?_
  refine lv_imul hx hb dL_sign_3 ?_
  refine lv_iconst (v := 1) hx hb dL_sign_4 (by decide) ?_
  refine lv_iadd hx hb dL_sign_5 ?_
  refine va_iald hx hb hK hP 1 0 (cA := K 0) rfl rfl (i4 ht (show vp_in 1 4 from vp_in_nI (n := 1) (by decide) (by decide))) dL_sign_6 ?_
  refine lv_istore (lv' := [(6, .int (M 1 (((4 * p0) + 1).toNatClampNeg))), (0, .int p0), (1, .int p1), (2, .int p2), (3, .ref (oa 1)), (4, .ref (oa 2)), (5, .ref (oa 3))]) hx hb dL_sign_7 hl (by decide) rfl (fun ls hl => ?_)
  refine W.eq (g2 := F0 m 9 ls []) rfl ?_
  refine lv_aload_n hx hb dL_sign_9 rfl (lv_at hl 4 rfl) ?_
  refine lv_iconst (v := 4) hx hb dL_sign_10 (by decide) ?_
  refine lv_iload_n hx hb dL_sign_11 rfl (lv_at hl 1 rfl) ?_
  refine lv_imul hx hb dL_sign_12 ?_
  refine va_iald hx hb hK hP 1 0 (cA := K 0) rfl rfl (i40 ht) dL_sign_13 ?_
  refine lv_iconst (v := 1) hx hb dL_sign_14 (by decide) ?_
  refine lv_icmp_ne (tgt := 30) hx hb dL_sign_15 (by decide) (fun c_15 => ?_) (fun c_15 => ?_)
  · skip
    refine lv_iconst (v := 0) hx hb dL_sign_30 (by decide) ?_
    exact pu_iret hx hb hr hlocks dL_sign_31 (Eq.symm (Eq.trans (if_neg c_15) (rfl)))
  · skip
    refine lv_iload hx hb dL_sign_18 (lv_at hl 0 rfl) ?_
    refine W.eq (g2 := F0 m 20 ls [.int (M 1 (((4 * p0) + 1).toNatClampNeg))]) rfl ?_
    refine lv_iload_n hx hb dL_sign_20 rfl (lv_at hl 2 rfl) ?_
    refine lv_icmp_eq (tgt := 32) hx hb dL_sign_21 (by decide) (fun c_21 => ?_) (fun c_21 => ?_)
    · skip
      refine lv_iload_n hx hb dL_sign_32 rfl (lv_at hl 2 rfl) ?_
      refine lv_iload_n hx hb dL_sign_33 rfl (lv_at hl 3 rfl) ?_
      refine lv_iadd hx hb dL_sign_34 ?_
      refine lv_iload hx hb dL_sign_35 (lv_at hl 0 rfl) ?_
      refine lv_isub hx hb dL_sign_37 ?_
      refine lv_istore (lv' := [(7, .int ((p1 + p2) - (M 1 (((4 * p0) + 1).toNatClampNeg)))), (6, .int (M 1 (((4 * p0) + 1).toNatClampNeg))), (0, .int p0), (1, .int p1), (2, .int p2), (3, .ref (oa 1)), (4, .ref (oa 2)), (5, .ref (oa 3))]) hx hb dL_sign_38 hl (by decide) rfl (fun ls hl => ?_)
      refine lv_aload hx hb dL_sign_40 (lv_at hl 6 rfl) ?_
      refine lv_iconst (v := 4) hx hb dL_sign_42 (by decide) ?_
      refine W.eq (g2 := F0 m 43 ls [.int 4, .ref (oa 2)]) rfl ?_
      refine lv_iload_n hx hb dL_sign_43 rfl (lv_at hl 2 rfl) ?_
      refine lv_imul hx hb dL_sign_44 ?_
      refine lv_iload hx hb dL_sign_45 (lv_at hl 1 rfl) ?_
      refine lv_iadd hx hb dL_sign_47 ?_
      refine va_iald hx hb hK hP 2 0 (cA := K 0) rfl rfl (i4 ht (val_in c_21 hb1)) dL_sign_48 ?_
      refine lv_istore (lv' := [(8, .int (M 2 (((4 * p0) + (M 1 (((4 * p0) + 1).toNatClampNeg))).toNatClampNeg))), (7, .int ((p1 + p2) - (M 1 (((4 * p0) + 1).toNatClampNeg)))), (6, .int (M 1 (((4 * p0) + 1).toNatClampNeg))), (0, .int p0), (1, .int p1), (2, .int p2), (3, .ref (oa 1)), (4, .ref (oa 2)), (5, .ref (oa 3))]) hx hb dL_sign_49 hl (by decide) rfl (fun ls hl => ?_)
      refine lv_aload hx hb dL_sign_51 (lv_at hl 7 rfl) ?_
      refine lv_iconst (v := 4) hx hb dL_sign_53 (by decide) ?_
      refine W.eq (g2 := F0 m 54 ls [.int 4, .ref (oa 2)]) rfl ?_
      refine lv_iload_n hx hb dL_sign_54 rfl (lv_at hl 3 rfl) ?_
      refine lv_imul hx hb dL_sign_55 ?_
      refine lv_iload hx hb dL_sign_56 (lv_at hl 1 rfl) ?_
      refine lv_iadd hx hb dL_sign_58 ?_
      refine va_iald hx hb hK hP 2 0 (cA := K 0) rfl rfl (i4 ht (oth1 c_21 hb2)) dL_sign_59 ?_
      refine lv_istore (lv' := [(9, .int (M 2 (((4 * p0) + ((p1 + p2) - (M 1 (((4 * p0) + 1).toNatClampNeg)))).toNatClampNeg))), (8, .int (M 2 (((4 * p0) + (M 1 (((4 * p0) + 1).toNatClampNeg))).toNatClampNeg))), (7, .int ((p1 + p2) - (M 1 (((4 * p0) + 1).toNatClampNeg)))), (6, .int (M 1 (((4 * p0) + 1).toNatClampNeg))), (0, .int p0), (1, .int p1), (2, .int p2), (3, .ref (oa 1)), (4, .ref (oa 2)), (5, .ref (oa 3))]) hx hb dL_sign_60 hl (by decide) rfl (fun ls hl => ?_)
      refine lv_aload hx hb dL_sign_62 (lv_at hl 9 rfl) ?_
      refine lv_iload_n hx hb dL_sign_64 rfl (lv_at hl 4 rfl) ?_
      refine W.eq (g2 := F0 m 65 ls [.int p0, .ref (oa 3)]) rfl ?_
      refine va_iald hx hb hK hP 3 0 (cA := K 0) rfl rfl (ht) dL_sign_65 ?_
      refine lv_iload hx hb dL_sign_66 (lv_at hl 2 rfl) ?_
      refine lv_ishr hx hb dL_sign_68 ?_
      refine lv_iconst (v := 1) hx hb dL_sign_69 (by decide) ?_
      refine lv_iand hx hb dL_sign_70 ?_
      refine lv_iconst (v := 1) hx hb dL_sign_71 (by decide) ?_
      have hj_72 : ∀ (v72_0 : Int32) (ls : Array Slot), v72_0 = sp_L_sign_j72s0 M p0 p1 p2 → lv_has ls 13 [(0, .int p0), (1, .int p1), (2, .int p2), (3, .ref (oa 1)), (4, .ref (oa 2)), (5, .ref (oa 3)), (6, .int (M 1 (((4 * p0) + 1).toNatClampNeg))), (7, .int ((p1 + p2) - (M 1 (((4 * p0) + 1).toNatClampNeg)))), (8, .int (M 2 (((4 * p0) + (M 1 (((4 * p0) + 1).toNatClampNeg))).toNatClampNeg))), (9, .int (M 2 (((4 * p0) + ((p1 + p2) - (M 1 (((4 * p0) + 1).toNatClampNeg)))).toNatClampNeg)))] → W p l e ({ frames := 1, cells := 0, slots := 0, locals := 23 } : Room) s m ([.int p0, .int p1, .int p2, .ref (oa 1), .ref (oa 2), .ref (oa 3)] : List Value).toArray below meth c s.heap [] 0 0 (MQ below (QcV (.int (sp_L_sign M p0 p1 p2))) ([.int p0, .int p1, .int p2, .ref (oa 1), .ref (oa 2), .ref (oa 3)] : List Value).toArray s 0 0 (fun _ => False)) (F0 m 80 ls [.int v72_0]) := by
        intro v72_0 ls ev72_0 hl
        subst ev72_0
        refine lv_istore (lv' := [(10, .int (sp_L_sign_j72s0 M p0 p1 p2)), (0, .int p0), (1, .int p1), (2, .int p2), (3, .ref (oa 1)), (4, .ref (oa 2)), (5, .ref (oa 3)), (6, .int (M 1 (((4 * p0) + 1).toNatClampNeg))), (7, .int ((p1 + p2) - (M 1 (((4 * p0) + 1).toNatClampNeg)))), (8, .int (M 2 (((4 * p0) + (M 1 (((4 * p0) + 1).toNatClampNeg))).toNatClampNeg))), (9, .int (M 2 (((4 * p0) + ((p1 + p2) - (M 1 (((4 * p0) + 1).toNatClampNeg)))).toNatClampNeg)))]) hx hb dL_sign_80 hl (by decide) rfl (fun ls hl => ?_)
        refine lv_iload hx hb dL_sign_82 (lv_at hl 0 rfl) ?_
        refine lv_aload_n hx hb dL_sign_84 rfl (lv_at hl 4 rfl) ?_
        refine lv_iconst (v := 4) hx hb dL_sign_85 (by decide) ?_
        refine lv_iload_n hx hb dL_sign_86 rfl (lv_at hl 1 rfl) ?_
        refine lv_imul hx hb dL_sign_87 ?_
        refine lv_iconst (v := 2) hx hb dL_sign_88 (by decide) ?_
        refine lv_iadd hx hb dL_sign_89 ?_
        refine W.eq (g2 := F0 m 90 ls [.int ((4 * p0) + 2), .ref (oa 1), .int (sp_L_sign_j72s0 M p0 p1 p2)]) rfl ?_
        refine va_iald hx hb hK hP 1 0 (cA := K 0) rfl rfl (i4 ht (show vp_in 2 4 from vp_in_nI (n := 2) (by decide) (by decide))) dL_sign_90 ?_
        refine lv_iload hx hb dL_sign_91 (lv_at hl 8 rfl) ?_
        have hj_93 : ∀ (v93_0 : Int32) (ls : Array Slot), v93_0 = sp_L_sign_j93s0 M p0 p1 p2 → lv_has ls 13 [(0, .int p0), (1, .int p1), (2, .int p2), (3, .ref (oa 1)), (4, .ref (oa 2)), (5, .ref (oa 3)), (6, .int (M 1 (((4 * p0) + 1).toNatClampNeg))), (7, .int ((p1 + p2) - (M 1 (((4 * p0) + 1).toNatClampNeg)))), (8, .int (M 2 (((4 * p0) + (M 1 (((4 * p0) + 1).toNatClampNeg))).toNatClampNeg))), (9, .int (M 2 (((4 * p0) + ((p1 + p2) - (M 1 (((4 * p0) + 1).toNatClampNeg)))).toNatClampNeg))), (10, .int (sp_L_sign_j72s0 M p0 p1 p2))] → W p l e ({ frames := 1, cells := 0, slots := 0, locals := 23 } : Room) s m ([.int p0, .int p1, .int p2, .ref (oa 1), .ref (oa 2), .ref (oa 3)] : List Value).toArray below meth c s.heap [] 0 0 (MQ below (QcV (.int (sp_L_sign M p0 p1 p2))) ([.int p0, .int p1, .int p2, .ref (oa 1), .ref (oa 2), .ref (oa 3)] : List Value).toArray s 0 0 (fun _ => False)) (F0 m 106 ls [.int v93_0, .int (sp_L_sign_j72s0 M p0 p1 p2)]) := by
          intro v93_0 ls ev93_0 hl
          subst ev93_0
          refine lv_iadd hx hb dL_sign_106 ?_
          refine lv_istore (lv' := [(10, .int ((sp_L_sign_j72s0 M p0 p1 p2) + (sp_L_sign_j93s0 M p0 p1 p2))), (0, .int p0), (1, .int p1), (2, .int p2), (3, .ref (oa 1)), (4, .ref (oa 2)), (5, .ref (oa 3)), (6, .int (M 1 (((4 * p0) + 1).toNatClampNeg))), (7, .int ((p1 + p2) - (M 1 (((4 * p0) + 1).toNatClampNeg)))), (8, .int (M 2 (((4 * p0) + (M 1 (((4 * p0) + 1).toNatClampNeg))).toNatClampNeg))), (9, .int (M 2 (((4 * p0) + ((p1 + p2) - (M 1 (((4 * p0) + 1).toNatClampNeg)))).toNatClampNeg)))]) hx hb dL_sign_107 hl (by decide) rfl (fun ls hl => ?_)
          refine lv_iload_n hx hb dL_sign_109 rfl (lv_at hl 1 rfl) ?_
          refine lv_iload hx hb dL_sign_110 (lv_at hl 8 rfl) ?_
          refine lv_aload hx hb dL_sign_112 (lv_at hl 5 rfl) ?_
          refine lv_aload hx hb dL_sign_114 (lv_at hl 6 rfl) ?_
          refine pu_S (As := [.int p0, .int ((p1 + p2) - (M 1 (((4 * p0) + 1).toNatClampNeg))), .ref (oa 2), .ref (oa 3)]) (rest := []) hc (c_L_in l D K oa M p0 ((p1 + p2) - (M 1 (((4 * p0) + 1).toNatClampNeg))) ht (oth1 c_21 hb2)) (va_cwS 4 hts gL_sign_L_in rfl rfl rfl (by decide +kernel) ⟨Nat.le_of_ble_eq_true rfl, Nat.le_of_ble_eq_true rfl⟩) hP hK hE rfl rfl hl.1 (Nat.le_of_ble_eq_true rfl) dL_sign_116 ⟨Nat.le_of_ble_eq_true rfl, Nat.le_of_ble_eq_true rfl⟩ ?_
          refine lb_eq (tgt := 249) hx hb dL_sign_119 (by decide) (fun c_119 => ?_) (fun c_119 => ?_)
          · skip
            refine lv_iload hx hb dL_sign_249 (lv_at hl 0 rfl) ?_
            exact pu_iret hx hb hr hlocks dL_sign_251 (Eq.symm (Eq.trans (if_pos c_15) (Eq.trans (if_pos c_21) (Eq.trans (if_neg (ntr c_119)) (rfl)))))
          · skip
            refine W.eq (g2 := F0 m 122 ls []) rfl ?_
            refine lv_iload hx hb dL_sign_122 (lv_at hl 0 rfl) ?_
            refine lv_iload hx hb dL_sign_124 (lv_at hl 10 rfl) ?_
            refine lv_iload hx hb dL_sign_126 (lv_at hl 9 rfl) ?_
            have hj_128 : ∀ (v128_0 : Int32) (ls : Array Slot), v128_0 = sp_L_sign_j128s0 M p0 p1 p2 → lv_has ls 13 [(0, .int p0), (1, .int p1), (2, .int p2), (3, .ref (oa 1)), (4, .ref (oa 2)), (5, .ref (oa 3)), (6, .int (M 1 (((4 * p0) + 1).toNatClampNeg))), (7, .int ((p1 + p2) - (M 1 (((4 * p0) + 1).toNatClampNeg)))), (8, .int (M 2 (((4 * p0) + (M 1 (((4 * p0) + 1).toNatClampNeg))).toNatClampNeg))), (9, .int (M 2 (((4 * p0) + ((p1 + p2) - (M 1 (((4 * p0) + 1).toNatClampNeg)))).toNatClampNeg))), (10, .int ((sp_L_sign_j72s0 M p0 p1 p2) + (sp_L_sign_j93s0 M p0 p1 p2)))] → W p l e ({ frames := 1, cells := 0, slots := 0, locals := 23 } : Room) s m ([.int p0, .int p1, .int p2, .ref (oa 1), .ref (oa 2), .ref (oa 3)] : List Value).toArray below meth c s.heap [] 0 0 (MQ below (QcV (.int (sp_L_sign M p0 p1 p2))) ([.int p0, .int p1, .int p2, .ref (oa 1), .ref (oa 2), .ref (oa 3)] : List Value).toArray s 0 0 (fun _ => False)) (F0 m 151 ls [.int v128_0, .int ((sp_L_sign_j72s0 M p0 p1 p2) + (sp_L_sign_j93s0 M p0 p1 p2))]) := by
              intro v128_0 ls ev128_0 hl
              subst ev128_0
              refine lv_iadd hx hb dL_sign_151 ?_
              refine lv_istore (lv' := [(10, .int (((sp_L_sign_j72s0 M p0 p1 p2) + (sp_L_sign_j93s0 M p0 p1 p2)) + (sp_L_sign_j128s0 M p0 p1 p2))), (0, .int p0), (1, .int p1), (2, .int p2), (3, .ref (oa 1)), (4, .ref (oa 2)), (5, .ref (oa 3)), (6, .int (M 1 (((4 * p0) + 1).toNatClampNeg))), (7, .int ((p1 + p2) - (M 1 (((4 * p0) + 1).toNatClampNeg)))), (8, .int (M 2 (((4 * p0) + (M 1 (((4 * p0) + 1).toNatClampNeg))).toNatClampNeg))), (9, .int (M 2 (((4 * p0) + ((p1 + p2) - (M 1 (((4 * p0) + 1).toNatClampNeg)))).toNatClampNeg)))]) hx hb dL_sign_152 hl (by decide) rfl (fun ls hl => ?_)
              refine lv_iconst (v := 1) hx hb dL_sign_154 (by decide) ?_
              refine lv_istore (lv' := [(11, .int 1), (10, .int (((sp_L_sign_j72s0 M p0 p1 p2) + (sp_L_sign_j93s0 M p0 p1 p2)) + (sp_L_sign_j128s0 M p0 p1 p2))), (0, .int p0), (1, .int p1), (2, .int p2), (3, .ref (oa 1)), (4, .ref (oa 2)), (5, .ref (oa 3)), (6, .int (M 1 (((4 * p0) + 1).toNatClampNeg))), (7, .int ((p1 + p2) - (M 1 (((4 * p0) + 1).toNatClampNeg)))), (8, .int (M 2 (((4 * p0) + (M 1 (((4 * p0) + 1).toNatClampNeg))).toNatClampNeg))), (9, .int (M 2 (((4 * p0) + ((p1 + p2) - (M 1 (((4 * p0) + 1).toNatClampNeg)))).toNatClampNeg)))]) hx hb dL_sign_155 hl (by decide) rfl (fun ls hl => ?_)
              refine lv_iload_n hx hb dL_sign_157 rfl (lv_at hl 2 rfl) ?_
              refine lv_iconst (v := 1) hx hb dL_sign_158 (by decide) ?_
              refine lv_isub hx hb dL_sign_159 ?_
              refine lv_istore (lv' := [(12, .int (p0 - 1)), (11, .int 1), (10, .int (((sp_L_sign_j72s0 M p0 p1 p2) + (sp_L_sign_j93s0 M p0 p1 p2)) + (sp_L_sign_j128s0 M p0 p1 p2))), (0, .int p0), (1, .int p1), (2, .int p2), (3, .ref (oa 1)), (4, .ref (oa 2)), (5, .ref (oa 3)), (6, .int (M 1 (((4 * p0) + 1).toNatClampNeg))), (7, .int ((p1 + p2) - (M 1 (((4 * p0) + 1).toNatClampNeg)))), (8, .int (M 2 (((4 * p0) + (M 1 (((4 * p0) + 1).toNatClampNeg))).toNatClampNeg))), (9, .int (M 2 (((4 * p0) + ((p1 + p2) - (M 1 (((4 * p0) + 1).toNatClampNeg)))).toNatClampNeg)))]) hx hb dL_sign_160 hl (by decide) rfl (fun ls hl => ?_)
              have hloop_162 : ∀ (j : Nat), j ≤ 8 → ∀ (sm x12 : Int32) (ls : Array Slot), x12 = nI j - 1 → sp_L_sign_A M p1 p2 ((p1 + p2) - (M 1 (((4 * p0) + 1).toNatClampNeg))) j sm = sp_L_sign M p0 p1 p2 → lv_has ls 13 [(0, .int p0), (1, .int p1), (2, .int p2), (3, .ref (oa 1)), (4, .ref (oa 2)), (5, .ref (oa 3)), (6, .int (M 1 (((4 * p0) + 1).toNatClampNeg))), (7, .int ((p1 + p2) - (M 1 (((4 * p0) + 1).toNatClampNeg)))), (8, .int (M 2 (((4 * p0) + (M 1 (((4 * p0) + 1).toNatClampNeg))).toNatClampNeg))), (9, .int (M 2 (((4 * p0) + ((p1 + p2) - (M 1 (((4 * p0) + 1).toNatClampNeg)))).toNatClampNeg))), (10, .int sm), (11, .int 1), (12, .int x12)] → W p l e ({ frames := 1, cells := 0, slots := 0, locals := 23 } : Room) s m ([.int p0, .int p1, .int p2, .ref (oa 1), .ref (oa 2), .ref (oa 3)] : List Value).toArray below meth c s.heap [] 0 0 (MQ below (QcV (.int (sp_L_sign M p0 p1 p2))) ([.int p0, .int p1, .int p2, .ref (oa 1), .ref (oa 2), .ref (oa 3)] : List Value).toArray s 0 0 (fun _ => False)) (F0 m 162 ls []) := by
                intro j
                induction j with
                | zero =>
                  intro _ sm x12 ls ex12 hA_12 hl
                  have ex12 : x12 = -1 := by rw [ex12]; decide
                  subst ex12
                  refine W.eq (g2 := F0 m 162 ls []) rfl ?_
                  refine lv_iload hx hb dL_sign_162 (lv_at hl 12 rfl) ?_
                  refine lv_if_lt (tgt := 249) hx hb dL_sign_164 (by decide) (fun c_164 => ?_) (fun c_164 => ?_)
                  · skip
                    refine lv_iload hx hb dL_sign_249 (lv_at hl 10 rfl) ?_
                    exact pu_iret hx hb hr hlocks dL_sign_251 (Eq.trans (Eq.symm (rfl)) hA_12)
                  · skip
                    exact absurd (by decide) c_164
                | succ j ih_12 =>
                  intro hj_12 sm x12 ls ex12 hA_12 hl
                  rw [nI_pred] at ex12
                  subst ex12
                  have hkj : vp_in (nI j) 8 := vp_in_nI (by omega) (by decide)
                  refine W.eq (g2 := F0 m 162 ls []) rfl ?_
                  refine lv_iload hx hb dL_sign_162 (lv_at hl 12 rfl) ?_
                  refine lv_if_lt (tgt := 249) hx hb dL_sign_164 (by decide) (fun c_164 => ?_) (fun c_164 => ?_)
                  · skip
                    exact absurd c_164 (nI_pos (by omega))
                  · skip
                    refine lv_iload hx hb dL_sign_167 (lv_at hl 11 rfl) ?_
                    refine lv_if_eq (tgt := 249) hx hb dL_sign_169 (by decide) (fun c_169 => ?_) (fun c_169 => ?_)
                    · skip
                      exact absurd c_169 (by decide)
                    · skip
                      refine lv_aload_n hx hb dL_sign_172 rfl (lv_at hl 3 rfl) ?_
                      refine lv_iconst (v := 4) hx hb dL_sign_173 (by decide) ?_
                      refine lv_iload hx hb dL_sign_174 (lv_at hl 12 rfl) ?_
                      refine lv_imul hx hb dL_sign_176 ?_
                      refine W.eq (g2 := F0 m 177 ls [.int (4 * (nI j)), .ref (oa 1)]) rfl ?_
                      refine va_iald hx hb hK hP 1 0 (cA := K 0) rfl rfl (i40 hkj) dL_sign_177 ?_
                      refine lv_iconst (v := 1) hx hb dL_sign_178 (by decide) ?_
                      refine lv_icmp_ne (tgt := 208) hx hb dL_sign_179 (by decide) (fun c_179 => ?_) (fun c_179 => ?_)
                      · skip
                        refine lv_iconst (v := 1) hx hb dL_sign_208 (by decide) ?_
                        refine lv_goto (tgt := 213) hx hb dL_sign_209 (by decide) ?_
                        refine lv_istore (lv' := [(11, .int 1), (0, .int p0), (1, .int p1), (2, .int p2), (3, .ref (oa 1)), (4, .ref (oa 2)), (5, .ref (oa 3)), (6, .int (M 1 (((4 * p0) + 1).toNatClampNeg))), (7, .int ((p1 + p2) - (M 1 (((4 * p0) + 1).toNatClampNeg)))), (8, .int (M 2 (((4 * p0) + (M 1 (((4 * p0) + 1).toNatClampNeg))).toNatClampNeg))), (9, .int (M 2 (((4 * p0) + ((p1 + p2) - (M 1 (((4 * p0) + 1).toNatClampNeg)))).toNatClampNeg))), (10, .int sm), (12, .int (nI j))]) hx hb dL_sign_213 hl (by decide) rfl (fun ls hl => ?_)
                        refine lv_iload hx hb dL_sign_215 (lv_at hl 11 rfl) ?_
                        refine lv_iload hx hb dL_sign_217 (lv_at hl 0 rfl) ?_
                        refine lv_if_ne (tgt := 239) hx hb dL_sign_219 (by decide) (fun c_219 => ?_) (fun c_219 => ?_)
                        · skip
                          refine lv_iconst (v := 0) hx hb dL_sign_239 (by decide) ?_
                          refine lv_iadd hx hb dL_sign_240 ?_
                          refine lv_istore (lv' := [(10, .int (sm + 0)), (11, .int 1), (0, .int p0), (1, .int p1), (2, .int p2), (3, .ref (oa 1)), (4, .ref (oa 2)), (5, .ref (oa 3)), (6, .int (M 1 (((4 * p0) + 1).toNatClampNeg))), (7, .int ((p1 + p2) - (M 1 (((4 * p0) + 1).toNatClampNeg)))), (8, .int (M 2 (((4 * p0) + (M 1 (((4 * p0) + 1).toNatClampNeg))).toNatClampNeg))), (9, .int (M 2 (((4 * p0) + ((p1 + p2) - (M 1 (((4 * p0) + 1).toNatClampNeg)))).toNatClampNeg))), (12, .int (nI j))]) hx hb dL_sign_241 hl (by decide) rfl (fun ls hl => ?_)
                          refine lv_iinc (v := (nI j) - 1) (lv' := [(12, .int ((nI j) - 1)), (10, .int (sm + 0)), (11, .int 1), (0, .int p0), (1, .int p1), (2, .int p2), (3, .ref (oa 1)), (4, .ref (oa 2)), (5, .ref (oa 3)), (6, .int (M 1 (((4 * p0) + 1).toNatClampNeg))), (7, .int ((p1 + p2) - (M 1 (((4 * p0) + 1).toNatClampNeg)))), (8, .int (M 2 (((4 * p0) + (M 1 (((4 * p0) + 1).toNatClampNeg))).toNatClampNeg))), (9, .int (M 2 (((4 * p0) + ((p1 + p2) - (M 1 (((4 * p0) + 1).toNatClampNeg)))).toNatClampNeg)))]) hx hb dL_sign_243 hl (k := 12) rfl (by rw [Int32.sub_eq_add_neg]; rfl) (by decide) rfl (fun ls hl => ?_)
                          refine lv_goto (tgt := 162) hx hb dL_sign_246 (by decide) ?_
                          exact ih_12 (by omega) _ _ ls rfl (Eq.trans (Eq.symm (Eq.trans (if_neg c_179) (rfl))) hA_12) (lv_sub hl [3, 4, 5, 6, 7, 8, 9, 10, 11, 12, 1, 2, 0] rfl)
                        · skip
                          exact absurd c_219 (by decide)
                      · skip
                        refine lv_iload hx hb dL_sign_182 (lv_at hl 12 rfl) ?_
                        refine lv_iload_n hx hb dL_sign_184 rfl (lv_at hl 1 rfl) ?_
                        refine lv_aload hx hb dL_sign_185 (lv_at hl 4 rfl) ?_
                        refine lv_aload hx hb dL_sign_187 (lv_at hl 5 rfl) ?_
                        refine pu_S (As := [.int (nI j), .int p1, .ref (oa 2), .ref (oa 3)]) (rest := []) hc (c_L_in l D K oa M (nI j) p1 hkj hb1) (va_cwS 4 hts gL_sign_L_in rfl rfl rfl (by decide +kernel) ⟨Nat.le_of_ble_eq_true rfl, Nat.le_of_ble_eq_true rfl⟩) hP hK hE rfl rfl hl.1 (Nat.le_of_ble_eq_true rfl) dL_sign_189 ⟨Nat.le_of_ble_eq_true rfl, Nat.le_of_ble_eq_true rfl⟩ ?_
                        refine W.eq (g2 := F0 m 192 ls [.int (bI (sp_L_in M (nI j) p1))]) rfl ?_
                        refine lb_eq (tgt := 208) hx hb dL_sign_192 (by decide) (fun c_192 => ?_) (fun c_192 => ?_)
                        · skip
                          refine lv_iconst (v := 1) hx hb dL_sign_208 (by decide) ?_
                          refine lv_goto (tgt := 213) hx hb dL_sign_209 (by decide) ?_
                          refine lv_istore (lv' := [(11, .int 1), (0, .int p0), (1, .int p1), (2, .int p2), (3, .ref (oa 1)), (4, .ref (oa 2)), (5, .ref (oa 3)), (6, .int (M 1 (((4 * p0) + 1).toNatClampNeg))), (7, .int ((p1 + p2) - (M 1 (((4 * p0) + 1).toNatClampNeg)))), (8, .int (M 2 (((4 * p0) + (M 1 (((4 * p0) + 1).toNatClampNeg))).toNatClampNeg))), (9, .int (M 2 (((4 * p0) + ((p1 + p2) - (M 1 (((4 * p0) + 1).toNatClampNeg)))).toNatClampNeg))), (10, .int sm), (12, .int (nI j))]) hx hb dL_sign_213 hl (by decide) rfl (fun ls hl => ?_)
                          refine lv_iload hx hb dL_sign_215 (lv_at hl 11 rfl) ?_
                          refine lv_iload hx hb dL_sign_217 (lv_at hl 0 rfl) ?_
                          refine lv_if_ne (tgt := 239) hx hb dL_sign_219 (by decide) (fun c_219 => ?_) (fun c_219 => ?_)
                          · skip
                            refine lv_iconst (v := 0) hx hb dL_sign_239 (by decide) ?_
                            refine lv_iadd hx hb dL_sign_240 ?_
                            refine lv_istore (lv' := [(10, .int (sm + 0)), (11, .int 1), (0, .int p0), (1, .int p1), (2, .int p2), (3, .ref (oa 1)), (4, .ref (oa 2)), (5, .ref (oa 3)), (6, .int (M 1 (((4 * p0) + 1).toNatClampNeg))), (7, .int ((p1 + p2) - (M 1 (((4 * p0) + 1).toNatClampNeg)))), (8, .int (M 2 (((4 * p0) + (M 1 (((4 * p0) + 1).toNatClampNeg))).toNatClampNeg))), (9, .int (M 2 (((4 * p0) + ((p1 + p2) - (M 1 (((4 * p0) + 1).toNatClampNeg)))).toNatClampNeg))), (12, .int (nI j))]) hx hb dL_sign_241 hl (by decide) rfl (fun ls hl => ?_)
                            refine lv_iinc (v := (nI j) - 1) (lv' := [(12, .int ((nI j) - 1)), (10, .int (sm + 0)), (11, .int 1), (0, .int p0), (1, .int p1), (2, .int p2), (3, .ref (oa 1)), (4, .ref (oa 2)), (5, .ref (oa 3)), (6, .int (M 1 (((4 * p0) + 1).toNatClampNeg))), (7, .int ((p1 + p2) - (M 1 (((4 * p0) + 1).toNatClampNeg)))), (8, .int (M 2 (((4 * p0) + (M 1 (((4 * p0) + 1).toNatClampNeg))).toNatClampNeg))), (9, .int (M 2 (((4 * p0) + ((p1 + p2) - (M 1 (((4 * p0) + 1).toNatClampNeg)))).toNatClampNeg)))]) hx hb dL_sign_243 hl (k := 12) rfl (by rw [Int32.sub_eq_add_neg]; rfl) (by decide) rfl (fun ls hl => ?_)
                            refine lv_goto (tgt := 162) hx hb dL_sign_246 (by decide) ?_
                            exact ih_12 (by omega) _ _ ls rfl (Eq.trans (Eq.symm (Eq.trans (if_pos c_179) (Eq.trans (if_neg (ntr c_192)) (rfl)))) hA_12) (lv_sub hl [3, 4, 5, 6, 7, 8, 9, 10, 11, 12, 1, 2, 0] rfl)
                          · skip
                            exact absurd c_219 (by decide)
                        · skip
                          refine lv_iload hx hb dL_sign_195 (lv_at hl 12 rfl) ?_
                          refine lv_iload_n hx hb dL_sign_197 rfl (lv_at hl 2 rfl) ?_
                          refine lv_aload hx hb dL_sign_198 (lv_at hl 4 rfl) ?_
                          refine lv_aload hx hb dL_sign_200 (lv_at hl 5 rfl) ?_
                          refine pu_S (As := [.int (nI j), .int p2, .ref (oa 2), .ref (oa 3)]) (rest := []) hc (c_L_in l D K oa M (nI j) p2 hkj hb2) (va_cwS 4 hts gL_sign_L_in rfl rfl rfl (by decide +kernel) ⟨Nat.le_of_ble_eq_true rfl, Nat.le_of_ble_eq_true rfl⟩) hP hK hE rfl rfl hl.1 (Nat.le_of_ble_eq_true rfl) dL_sign_202 ⟨Nat.le_of_ble_eq_true rfl, Nat.le_of_ble_eq_true rfl⟩ ?_
                          refine lb_ne (tgt := 212) hx hb dL_sign_205 (by decide) (fun c_205 => ?_) (fun c_205 => ?_)
                          · skip
                            refine lv_iconst (v := 0) hx hb dL_sign_212 (by decide) ?_
                            refine lv_istore (lv' := [(11, .int 0), (0, .int p0), (1, .int p1), (2, .int p2), (3, .ref (oa 1)), (4, .ref (oa 2)), (5, .ref (oa 3)), (6, .int (M 1 (((4 * p0) + 1).toNatClampNeg))), (7, .int ((p1 + p2) - (M 1 (((4 * p0) + 1).toNatClampNeg)))), (8, .int (M 2 (((4 * p0) + (M 1 (((4 * p0) + 1).toNatClampNeg))).toNatClampNeg))), (9, .int (M 2 (((4 * p0) + ((p1 + p2) - (M 1 (((4 * p0) + 1).toNatClampNeg)))).toNatClampNeg))), (10, .int sm), (12, .int (nI j))]) hx hb dL_sign_213 hl (by decide) rfl (fun ls hl => ?_)
                            refine lv_iload hx hb dL_sign_215 (lv_at hl 11 rfl) ?_
                            refine lv_iload hx hb dL_sign_217 (lv_at hl 0 rfl) ?_
                            refine lv_if_ne (tgt := 239) hx hb dL_sign_219 (by decide) (fun c_219 => ?_) (fun c_219 => ?_)
                            · skip
                              exact absurd rfl c_219
                            · skip
                              refine lv_aload_n hx hb dL_sign_222 rfl (lv_at hl 4 rfl) ?_
                              refine lv_iconst (v := 4) hx hb dL_sign_223 (by decide) ?_
                              refine lv_iload hx hb dL_sign_224 (lv_at hl 12 rfl) ?_
                              refine W.eq (g2 := F0 m 226 ls [.int (nI j), .int 4, .ref (oa 1), .int sm]) rfl ?_
                              refine lv_imul hx hb dL_sign_226 ?_
                              refine lv_iconst (v := 1) hx hb dL_sign_227 (by decide) ?_
                              refine lv_iadd hx hb dL_sign_228 ?_
                              refine va_iald hx hb hK hP 1 0 (cA := K 0) rfl rfl (i4 hkj (show vp_in 1 4 from vp_in_nI (n := 1) (by decide) (by decide))) dL_sign_229 ?_
                              refine lv_iload hx hb dL_sign_230 (lv_at hl 8 rfl) ?_
                              refine lv_icmp_ne (tgt := 239) hx hb dL_sign_232 (by decide) (fun c_232 => ?_) (fun c_232 => ?_)
                              · skip
                                refine lv_iconst (v := 0) hx hb dL_sign_239 (by decide) ?_
                                refine lv_iadd hx hb dL_sign_240 ?_
                                refine lv_istore (lv' := [(10, .int (sm + 0)), (11, .int 0), (0, .int p0), (1, .int p1), (2, .int p2), (3, .ref (oa 1)), (4, .ref (oa 2)), (5, .ref (oa 3)), (6, .int (M 1 (((4 * p0) + 1).toNatClampNeg))), (7, .int ((p1 + p2) - (M 1 (((4 * p0) + 1).toNatClampNeg)))), (8, .int (M 2 (((4 * p0) + (M 1 (((4 * p0) + 1).toNatClampNeg))).toNatClampNeg))), (9, .int (M 2 (((4 * p0) + ((p1 + p2) - (M 1 (((4 * p0) + 1).toNatClampNeg)))).toNatClampNeg))), (12, .int (nI j))]) hx hb dL_sign_241 hl (by decide) rfl (fun ls hl => ?_)
                                refine lv_iinc (v := (nI j) - 1) (lv' := [(12, .int ((nI j) - 1)), (10, .int (sm + 0)), (11, .int 0), (0, .int p0), (1, .int p1), (2, .int p2), (3, .ref (oa 1)), (4, .ref (oa 2)), (5, .ref (oa 3)), (6, .int (M 1 (((4 * p0) + 1).toNatClampNeg))), (7, .int ((p1 + p2) - (M 1 (((4 * p0) + 1).toNatClampNeg)))), (8, .int (M 2 (((4 * p0) + (M 1 (((4 * p0) + 1).toNatClampNeg))).toNatClampNeg))), (9, .int (M 2 (((4 * p0) + ((p1 + p2) - (M 1 (((4 * p0) + 1).toNatClampNeg)))).toNatClampNeg)))]) hx hb dL_sign_243 hl (k := 12) rfl (by rw [Int32.sub_eq_add_neg]; rfl) (by decide) rfl (fun ls hl => ?_)
                                refine lv_goto (tgt := 162) hx hb dL_sign_246 (by decide) ?_
                                refine lv_iload hx hb dL_sign_162 (lv_at hl 0 rfl) ?_
                                refine lv_if_lt (tgt := 249) hx hb dL_sign_164 (by decide) (fun c_164 => ?_) (fun c_164 => ?_)
                                · skip
                                  refine lv_iload hx hb dL_sign_249 (lv_at hl 1 rfl) ?_
                                  exact pu_iret hx hb hr hlocks dL_sign_251 (Eq.trans (Eq.symm (Eq.trans (if_pos c_179) (Eq.trans (if_pos c_192) (Eq.trans (if_pos c_205) (Eq.trans (if_neg c_232) (Eq.trans (if_pos c_164) (rfl))))))) hA_12)
                                · skip
                                  refine lv_iload hx hb dL_sign_167 (lv_at hl 2 rfl) ?_
                                  refine lv_if_eq (tgt := 249) hx hb dL_sign_169 (by decide) (fun c_169 => ?_) (fun c_169 => ?_)
                                  · skip
                                    refine lv_iload hx hb dL_sign_249 (lv_at hl 1 rfl) ?_
                                    exact pu_iret hx hb hr hlocks dL_sign_251 (Eq.trans (Eq.symm (Eq.trans (if_pos c_179) (Eq.trans (if_pos c_192) (Eq.trans (if_pos c_205) (Eq.trans (if_neg c_232) (Eq.trans (if_neg c_164) (rfl))))))) hA_12)
                                  · skip
                                    exact absurd rfl c_169
                              · skip
                                refine lv_iconst (v := 4) hx hb dL_sign_235 (by decide) ?_
                                refine lv_goto (tgt := 240) hx hb dL_sign_236 (by decide) ?_
                                refine lv_iadd hx hb dL_sign_240 ?_
                                refine lv_istore (lv' := [(10, .int (sm + 4)), (11, .int 0), (0, .int p0), (1, .int p1), (2, .int p2), (3, .ref (oa 1)), (4, .ref (oa 2)), (5, .ref (oa 3)), (6, .int (M 1 (((4 * p0) + 1).toNatClampNeg))), (7, .int ((p1 + p2) - (M 1 (((4 * p0) + 1).toNatClampNeg)))), (8, .int (M 2 (((4 * p0) + (M 1 (((4 * p0) + 1).toNatClampNeg))).toNatClampNeg))), (9, .int (M 2 (((4 * p0) + ((p1 + p2) - (M 1 (((4 * p0) + 1).toNatClampNeg)))).toNatClampNeg))), (12, .int (nI j))]) hx hb dL_sign_241 hl (by decide) rfl (fun ls hl => ?_)
                                refine lv_iinc (v := (nI j) - 1) (lv' := [(12, .int ((nI j) - 1)), (10, .int (sm + 4)), (11, .int 0), (0, .int p0), (1, .int p1), (2, .int p2), (3, .ref (oa 1)), (4, .ref (oa 2)), (5, .ref (oa 3)), (6, .int (M 1 (((4 * p0) + 1).toNatClampNeg))), (7, .int ((p1 + p2) - (M 1 (((4 * p0) + 1).toNatClampNeg)))), (8, .int (M 2 (((4 * p0) + (M 1 (((4 * p0) + 1).toNatClampNeg))).toNatClampNeg))), (9, .int (M 2 (((4 * p0) + ((p1 + p2) - (M 1 (((4 * p0) + 1).toNatClampNeg)))).toNatClampNeg)))]) hx hb dL_sign_243 hl (k := 12) rfl (by rw [Int32.sub_eq_add_neg]; rfl) (by decide) rfl (fun ls hl => ?_)
                                refine lv_goto (tgt := 162) hx hb dL_sign_246 (by decide) ?_
                                refine lv_iload hx hb dL_sign_162 (lv_at hl 0 rfl) ?_
                                refine lv_if_lt (tgt := 249) hx hb dL_sign_164 (by decide) (fun c_164 => ?_) (fun c_164 => ?_)
                                · skip
                                  refine lv_iload hx hb dL_sign_249 (lv_at hl 1 rfl) ?_
                                  exact pu_iret hx hb hr hlocks dL_sign_251 (Eq.trans (Eq.symm (Eq.trans (if_pos c_179) (Eq.trans (if_pos c_192) (Eq.trans (if_pos c_205) (Eq.trans (if_pos c_232) (Eq.trans (if_pos c_164) (rfl))))))) hA_12)
                                · skip
                                  refine lv_iload hx hb dL_sign_167 (lv_at hl 2 rfl) ?_
                                  refine lv_if_eq (tgt := 249) hx hb dL_sign_169 (by decide) (fun c_169 => ?_) (fun c_169 => ?_)
                                  · skip
                                    refine lv_iload hx hb dL_sign_249 (lv_at hl 1 rfl) ?_
                                    exact pu_iret hx hb hr hlocks dL_sign_251 (Eq.trans (Eq.symm (Eq.trans (if_pos c_179) (Eq.trans (if_pos c_192) (Eq.trans (if_pos c_205) (Eq.trans (if_pos c_232) (Eq.trans (if_neg c_164) (rfl))))))) hA_12)
                                  · skip
                                    exact absurd rfl c_169
                          · skip
                            refine lv_iconst (v := 1) hx hb dL_sign_208 (by decide) ?_
                            refine W.eq (g2 := F0 m 209 ls [.int 1]) rfl ?_
                            refine lv_goto (tgt := 213) hx hb dL_sign_209 (by decide) ?_
                            refine lv_istore (lv' := [(11, .int 1), (0, .int p0), (1, .int p1), (2, .int p2), (3, .ref (oa 1)), (4, .ref (oa 2)), (5, .ref (oa 3)), (6, .int (M 1 (((4 * p0) + 1).toNatClampNeg))), (7, .int ((p1 + p2) - (M 1 (((4 * p0) + 1).toNatClampNeg)))), (8, .int (M 2 (((4 * p0) + (M 1 (((4 * p0) + 1).toNatClampNeg))).toNatClampNeg))), (9, .int (M 2 (((4 * p0) + ((p1 + p2) - (M 1 (((4 * p0) + 1).toNatClampNeg)))).toNatClampNeg))), (10, .int sm), (12, .int (nI j))]) hx hb dL_sign_213 hl (by decide) rfl (fun ls hl => ?_)
                            refine lv_iload hx hb dL_sign_215 (lv_at hl 11 rfl) ?_
                            refine lv_iload hx hb dL_sign_217 (lv_at hl 0 rfl) ?_
                            refine lv_if_ne (tgt := 239) hx hb dL_sign_219 (by decide) (fun c_219 => ?_) (fun c_219 => ?_)
                            · skip
                              refine lv_iconst (v := 0) hx hb dL_sign_239 (by decide) ?_
                              refine lv_iadd hx hb dL_sign_240 ?_
                              refine lv_istore (lv' := [(10, .int (sm + 0)), (11, .int 1), (0, .int p0), (1, .int p1), (2, .int p2), (3, .ref (oa 1)), (4, .ref (oa 2)), (5, .ref (oa 3)), (6, .int (M 1 (((4 * p0) + 1).toNatClampNeg))), (7, .int ((p1 + p2) - (M 1 (((4 * p0) + 1).toNatClampNeg)))), (8, .int (M 2 (((4 * p0) + (M 1 (((4 * p0) + 1).toNatClampNeg))).toNatClampNeg))), (9, .int (M 2 (((4 * p0) + ((p1 + p2) - (M 1 (((4 * p0) + 1).toNatClampNeg)))).toNatClampNeg))), (12, .int (nI j))]) hx hb dL_sign_241 hl (by decide) rfl (fun ls hl => ?_)
                              refine lv_iinc (v := (nI j) - 1) (lv' := [(12, .int ((nI j) - 1)), (10, .int (sm + 0)), (11, .int 1), (0, .int p0), (1, .int p1), (2, .int p2), (3, .ref (oa 1)), (4, .ref (oa 2)), (5, .ref (oa 3)), (6, .int (M 1 (((4 * p0) + 1).toNatClampNeg))), (7, .int ((p1 + p2) - (M 1 (((4 * p0) + 1).toNatClampNeg)))), (8, .int (M 2 (((4 * p0) + (M 1 (((4 * p0) + 1).toNatClampNeg))).toNatClampNeg))), (9, .int (M 2 (((4 * p0) + ((p1 + p2) - (M 1 (((4 * p0) + 1).toNatClampNeg)))).toNatClampNeg)))]) hx hb dL_sign_243 hl (k := 12) rfl (by rw [Int32.sub_eq_add_neg]; rfl) (by decide) rfl (fun ls hl => ?_)
                              refine lv_goto (tgt := 162) hx hb dL_sign_246 (by decide) ?_
                              exact ih_12 (by omega) _ _ ls rfl (Eq.trans (Eq.symm (Eq.trans (if_pos c_179) (Eq.trans (if_pos c_192) (Eq.trans (if_neg (ntr c_205)) (rfl))))) hA_12) (lv_sub hl [3, 4, 5, 6, 7, 8, 9, 10, 11, 12, 1, 2, 0] rfl)
                            · skip
                              exact absurd c_219 (by decide)
              exact hloop_162 p0.toNatClampNeg (Nat.le_of_lt (vin_lt ht)) _ _ ls (by rw [← vin_eq ht]) (Eq.symm (Eq.trans (if_pos c_15) (Eq.trans (if_pos c_21) (Eq.trans (if_pos c_119) (rfl))))) (lv_sub hl [3, 4, 5, 6, 7, 8, 9, 10, 11, 12, 2, 1, 0] rfl)
            refine lv_icmp_le (tgt := 150) hx hb dL_sign_128 (by decide) (fun c_128 => ?_) (fun c_128 => ?_)
            · skip
              refine lv_iconst (v := 0) hx hb dL_sign_150 (by decide) ?_
              exact hj_128 _ ls (Eq.symm (Eq.trans (if_pos c_128) (rfl))) (lv_sub hl [1, 2, 3, 4, 5, 6, 7, 8, 9, 10, 0] rfl)
            · skip
              refine lv_bipush (v := 100) hx hb dL_sign_131 (by decide) ?_
              refine lv_iload hx hb dL_sign_133 (lv_at hl 10 rfl) ?_
              refine lv_iload hx hb dL_sign_135 (lv_at hl 9 rfl) ?_
              refine lv_isub hx hb dL_sign_137 ?_
              refine lv_imul hx hb dL_sign_138 ?_
              refine lv_iconst (v := 5) hx hb dL_sign_139 (by decide) ?_
              refine lv_iload hx hb dL_sign_140 (lv_at hl 9 rfl) ?_
              refine W.eq (g2 := F0 m 142 ls [.int (M 2 (((4 * p0) + (M 1 (((4 * p0) + 1).toNatClampNeg))).toNatClampNeg)), .int 5, .int (100 * ((M 2 (((4 * p0) + ((p1 + p2) - (M 1 (((4 * p0) + 1).toNatClampNeg)))).toNatClampNeg)) - (M 2 (((4 * p0) + (M 1 (((4 * p0) + 1).toNatClampNeg))).toNatClampNeg)))), .int ((sp_L_sign_j72s0 M p0 p1 p2) + (sp_L_sign_j93s0 M p0 p1 p2))]) rfl ?_
              refine lv_imul hx hb dL_sign_142 ?_
              refine lv_icmp_gt (tgt := 150) hx hb dL_sign_143 (by decide) (fun c_143 => ?_) (fun c_143 => ?_)
              · skip
                refine lv_iconst (v := 0) hx hb dL_sign_150 (by decide) ?_
                exact hj_128 _ ls (Eq.symm (Eq.trans (if_neg c_128) (Eq.trans (if_pos c_143) (rfl)))) (lv_sub hl [1, 2, 3, 4, 5, 6, 7, 8, 9, 10, 0] rfl)
              · skip
                refine lv_iconst (v := 2) hx hb dL_sign_146 (by decide) ?_
                refine lv_goto (tgt := 151) hx hb dL_sign_147 (by decide) ?_
                exact hj_128 _ ls (Eq.symm (Eq.trans (if_neg c_128) (Eq.trans (if_neg c_143) (rfl)))) (lv_sub hl [1, 2, 3, 4, 5, 6, 7, 8, 9, 10, 0] rfl)
        refine lv_icmp_ne (tgt := 105) hx hb dL_sign_93 (by decide) (fun c_93 => ?_) (fun c_93 => ?_)
        · skip
          refine lv_iconst (v := 0) hx hb dL_sign_105 (by decide) ?_
          exact hj_93 _ ls (Eq.symm (Eq.trans (if_neg c_93) (rfl))) (lv_sub hl [1, 2, 3, 4, 5, 6, 7, 8, 9, 10, 0] rfl)
        · skip
          refine lv_iload hx hb dL_sign_96 (lv_at hl 10 rfl) ?_
          refine lv_if_le (tgt := 105) hx hb dL_sign_98 (by decide) (fun c_98 => ?_) (fun c_98 => ?_)
          · skip
            refine lv_iconst (v := 0) hx hb dL_sign_105 (by decide) ?_
            exact hj_93 _ ls (Eq.symm (Eq.trans (if_pos c_93) (Eq.trans (if_pos c_98) (rfl)))) (lv_sub hl [1, 2, 3, 4, 5, 6, 7, 8, 9, 10, 0] rfl)
          · skip
            refine lv_iconst (v := 3) hx hb dL_sign_101 (by decide) ?_
            refine lv_goto (tgt := 106) hx hb dL_sign_102 (by decide) ?_
            exact hj_93 _ ls (Eq.symm (Eq.trans (if_pos c_93) (Eq.trans (if_neg c_98) (rfl)))) (lv_sub hl [1, 2, 3, 4, 5, 6, 7, 8, 9, 10, 0] rfl)
      refine lv_icmp_ne (tgt := 79) hx hb dL_sign_72 (by decide) (fun c_72 => ?_) (fun c_72 => ?_)
      · skip
        refine lv_iconst (v := 0) hx hb dL_sign_79 (by decide) ?_
        exact hj_72 _ ls (Eq.symm (Eq.trans (if_neg c_72) (rfl))) (lv_sub hl [4, 5, 6, 7, 8, 9, 3, 2, 1, 0] rfl)
      · skip
        refine lv_iconst (v := 1) hx hb dL_sign_75 (by decide) ?_
        refine lv_goto (tgt := 80) hx hb dL_sign_76 (by decide) ?_
        exact hj_72 _ ls (Eq.symm (Eq.trans (if_pos c_72) (rfl))) (lv_sub hl [4, 5, 6, 7, 8, 9, 3, 2, 1, 0] rfl)
    · skip
      refine lv_iload hx hb dL_sign_24 (lv_at hl 0 rfl) ?_
      refine lv_iload_n hx hb dL_sign_26 rfl (lv_at hl 3 rfl) ?_
      refine lv_icmp_eq (tgt := 32) hx hb dL_sign_27 (by decide) (fun c_27 => ?_) (fun c_27 => ?_)
      · skip
        refine lv_iload_n hx hb dL_sign_32 rfl (lv_at hl 2 rfl) ?_
        refine lv_iload_n hx hb dL_sign_33 rfl (lv_at hl 3 rfl) ?_
        refine lv_iadd hx hb dL_sign_34 ?_
        refine lv_iload hx hb dL_sign_35 (lv_at hl 0 rfl) ?_
        refine lv_isub hx hb dL_sign_37 ?_
        refine lv_istore (lv' := [(7, .int ((p1 + p2) - (M 1 (((4 * p0) + 1).toNatClampNeg)))), (6, .int (M 1 (((4 * p0) + 1).toNatClampNeg))), (0, .int p0), (1, .int p1), (2, .int p2), (3, .ref (oa 1)), (4, .ref (oa 2)), (5, .ref (oa 3))]) hx hb dL_sign_38 hl (by decide) rfl (fun ls hl => ?_)
        refine lv_aload hx hb dL_sign_40 (lv_at hl 6 rfl) ?_
        refine lv_iconst (v := 4) hx hb dL_sign_42 (by decide) ?_
        refine W.eq (g2 := F0 m 43 ls [.int 4, .ref (oa 2)]) rfl ?_
        refine lv_iload_n hx hb dL_sign_43 rfl (lv_at hl 2 rfl) ?_
        refine lv_imul hx hb dL_sign_44 ?_
        refine lv_iload hx hb dL_sign_45 (lv_at hl 1 rfl) ?_
        refine lv_iadd hx hb dL_sign_47 ?_
        refine va_iald hx hb hK hP 2 0 (cA := K 0) rfl rfl (i4 ht (val_in c_27 hb2)) dL_sign_48 ?_
        refine lv_istore (lv' := [(8, .int (M 2 (((4 * p0) + (M 1 (((4 * p0) + 1).toNatClampNeg))).toNatClampNeg))), (7, .int ((p1 + p2) - (M 1 (((4 * p0) + 1).toNatClampNeg)))), (6, .int (M 1 (((4 * p0) + 1).toNatClampNeg))), (0, .int p0), (1, .int p1), (2, .int p2), (3, .ref (oa 1)), (4, .ref (oa 2)), (5, .ref (oa 3))]) hx hb dL_sign_49 hl (by decide) rfl (fun ls hl => ?_)
        refine lv_aload hx hb dL_sign_51 (lv_at hl 7 rfl) ?_
        refine lv_iconst (v := 4) hx hb dL_sign_53 (by decide) ?_
        refine W.eq (g2 := F0 m 54 ls [.int 4, .ref (oa 2)]) rfl ?_
        refine lv_iload_n hx hb dL_sign_54 rfl (lv_at hl 3 rfl) ?_
        refine lv_imul hx hb dL_sign_55 ?_
        refine lv_iload hx hb dL_sign_56 (lv_at hl 1 rfl) ?_
        refine lv_iadd hx hb dL_sign_58 ?_
        refine va_iald hx hb hK hP 2 0 (cA := K 0) rfl rfl (i4 ht (oth2 c_27 hb1)) dL_sign_59 ?_
        refine lv_istore (lv' := [(9, .int (M 2 (((4 * p0) + ((p1 + p2) - (M 1 (((4 * p0) + 1).toNatClampNeg)))).toNatClampNeg))), (8, .int (M 2 (((4 * p0) + (M 1 (((4 * p0) + 1).toNatClampNeg))).toNatClampNeg))), (7, .int ((p1 + p2) - (M 1 (((4 * p0) + 1).toNatClampNeg)))), (6, .int (M 1 (((4 * p0) + 1).toNatClampNeg))), (0, .int p0), (1, .int p1), (2, .int p2), (3, .ref (oa 1)), (4, .ref (oa 2)), (5, .ref (oa 3))]) hx hb dL_sign_60 hl (by decide) rfl (fun ls hl => ?_)
        refine lv_aload hx hb dL_sign_62 (lv_at hl 9 rfl) ?_
        refine lv_iload_n hx hb dL_sign_64 rfl (lv_at hl 4 rfl) ?_
        refine W.eq (g2 := F0 m 65 ls [.int p0, .ref (oa 3)]) rfl ?_
        refine va_iald hx hb hK hP 3 0 (cA := K 0) rfl rfl (ht) dL_sign_65 ?_
        refine lv_iload hx hb dL_sign_66 (lv_at hl 2 rfl) ?_
        refine lv_ishr hx hb dL_sign_68 ?_
        refine lv_iconst (v := 1) hx hb dL_sign_69 (by decide) ?_
        refine lv_iand hx hb dL_sign_70 ?_
        refine lv_iconst (v := 1) hx hb dL_sign_71 (by decide) ?_
        have hj_72 : ∀ (v72_0 : Int32) (ls : Array Slot), v72_0 = sp_L_sign_j72s0 M p0 p1 p2 → lv_has ls 13 [(0, .int p0), (1, .int p1), (2, .int p2), (3, .ref (oa 1)), (4, .ref (oa 2)), (5, .ref (oa 3)), (6, .int (M 1 (((4 * p0) + 1).toNatClampNeg))), (7, .int ((p1 + p2) - (M 1 (((4 * p0) + 1).toNatClampNeg)))), (8, .int (M 2 (((4 * p0) + (M 1 (((4 * p0) + 1).toNatClampNeg))).toNatClampNeg))), (9, .int (M 2 (((4 * p0) + ((p1 + p2) - (M 1 (((4 * p0) + 1).toNatClampNeg)))).toNatClampNeg)))] → W p l e ({ frames := 1, cells := 0, slots := 0, locals := 23 } : Room) s m ([.int p0, .int p1, .int p2, .ref (oa 1), .ref (oa 2), .ref (oa 3)] : List Value).toArray below meth c s.heap [] 0 0 (MQ below (QcV (.int (sp_L_sign M p0 p1 p2))) ([.int p0, .int p1, .int p2, .ref (oa 1), .ref (oa 2), .ref (oa 3)] : List Value).toArray s 0 0 (fun _ => False)) (F0 m 80 ls [.int v72_0]) := by
          intro v72_0 ls ev72_0 hl
          subst ev72_0
          refine lv_istore (lv' := [(10, .int (sp_L_sign_j72s0 M p0 p1 p2)), (0, .int p0), (1, .int p1), (2, .int p2), (3, .ref (oa 1)), (4, .ref (oa 2)), (5, .ref (oa 3)), (6, .int (M 1 (((4 * p0) + 1).toNatClampNeg))), (7, .int ((p1 + p2) - (M 1 (((4 * p0) + 1).toNatClampNeg)))), (8, .int (M 2 (((4 * p0) + (M 1 (((4 * p0) + 1).toNatClampNeg))).toNatClampNeg))), (9, .int (M 2 (((4 * p0) + ((p1 + p2) - (M 1 (((4 * p0) + 1).toNatClampNeg)))).toNatClampNeg)))]) hx hb dL_sign_80 hl (by decide) rfl (fun ls hl => ?_)
          refine lv_iload hx hb dL_sign_82 (lv_at hl 0 rfl) ?_
          refine lv_aload_n hx hb dL_sign_84 rfl (lv_at hl 4 rfl) ?_
          refine lv_iconst (v := 4) hx hb dL_sign_85 (by decide) ?_
          refine lv_iload_n hx hb dL_sign_86 rfl (lv_at hl 1 rfl) ?_
          refine lv_imul hx hb dL_sign_87 ?_
          refine lv_iconst (v := 2) hx hb dL_sign_88 (by decide) ?_
          refine lv_iadd hx hb dL_sign_89 ?_
          refine W.eq (g2 := F0 m 90 ls [.int ((4 * p0) + 2), .ref (oa 1), .int (sp_L_sign_j72s0 M p0 p1 p2)]) rfl ?_
          refine va_iald hx hb hK hP 1 0 (cA := K 0) rfl rfl (i4 ht (show vp_in 2 4 from vp_in_nI (n := 2) (by decide) (by decide))) dL_sign_90 ?_
          refine lv_iload hx hb dL_sign_91 (lv_at hl 8 rfl) ?_
          have hj_93 : ∀ (v93_0 : Int32) (ls : Array Slot), v93_0 = sp_L_sign_j93s0 M p0 p1 p2 → lv_has ls 13 [(0, .int p0), (1, .int p1), (2, .int p2), (3, .ref (oa 1)), (4, .ref (oa 2)), (5, .ref (oa 3)), (6, .int (M 1 (((4 * p0) + 1).toNatClampNeg))), (7, .int ((p1 + p2) - (M 1 (((4 * p0) + 1).toNatClampNeg)))), (8, .int (M 2 (((4 * p0) + (M 1 (((4 * p0) + 1).toNatClampNeg))).toNatClampNeg))), (9, .int (M 2 (((4 * p0) + ((p1 + p2) - (M 1 (((4 * p0) + 1).toNatClampNeg)))).toNatClampNeg))), (10, .int (sp_L_sign_j72s0 M p0 p1 p2))] → W p l e ({ frames := 1, cells := 0, slots := 0, locals := 23 } : Room) s m ([.int p0, .int p1, .int p2, .ref (oa 1), .ref (oa 2), .ref (oa 3)] : List Value).toArray below meth c s.heap [] 0 0 (MQ below (QcV (.int (sp_L_sign M p0 p1 p2))) ([.int p0, .int p1, .int p2, .ref (oa 1), .ref (oa 2), .ref (oa 3)] : List Value).toArray s 0 0 (fun _ => False)) (F0 m 106 ls [.int v93_0, .int (sp_L_sign_j72s0 M p0 p1 p2)]) := by
            intro v93_0 ls ev93_0 hl
            subst ev93_0
            refine lv_iadd hx hb dL_sign_106 ?_
            refine lv_istore (lv' := [(10, .int ((sp_L_sign_j72s0 M p0 p1 p2) + (sp_L_sign_j93s0 M p0 p1 p2))), (0, .int p0), (1, .int p1), (2, .int p2), (3, .ref (oa 1)), (4, .ref (oa 2)), (5, .ref (oa 3)), (6, .int (M 1 (((4 * p0) + 1).toNatClampNeg))), (7, .int ((p1 + p2) - (M 1 (((4 * p0) + 1).toNatClampNeg)))), (8, .int (M 2 (((4 * p0) + (M 1 (((4 * p0) + 1).toNatClampNeg))).toNatClampNeg))), (9, .int (M 2 (((4 * p0) + ((p1 + p2) - (M 1 (((4 * p0) + 1).toNatClampNeg)))).toNatClampNeg)))]) hx hb dL_sign_107 hl (by decide) rfl (fun ls hl => ?_)
            refine lv_iload_n hx hb dL_sign_109 rfl (lv_at hl 1 rfl) ?_
            refine lv_iload hx hb dL_sign_110 (lv_at hl 8 rfl) ?_
            refine lv_aload hx hb dL_sign_112 (lv_at hl 5 rfl) ?_
            refine lv_aload hx hb dL_sign_114 (lv_at hl 6 rfl) ?_
            refine pu_S (As := [.int p0, .int ((p1 + p2) - (M 1 (((4 * p0) + 1).toNatClampNeg))), .ref (oa 2), .ref (oa 3)]) (rest := []) hc (c_L_in l D K oa M p0 ((p1 + p2) - (M 1 (((4 * p0) + 1).toNatClampNeg))) ht (oth2 c_27 hb1)) (va_cwS 4 hts gL_sign_L_in rfl rfl rfl (by decide +kernel) ⟨Nat.le_of_ble_eq_true rfl, Nat.le_of_ble_eq_true rfl⟩) hP hK hE rfl rfl hl.1 (Nat.le_of_ble_eq_true rfl) dL_sign_116 ⟨Nat.le_of_ble_eq_true rfl, Nat.le_of_ble_eq_true rfl⟩ ?_
            refine lb_eq (tgt := 249) hx hb dL_sign_119 (by decide) (fun c_119 => ?_) (fun c_119 => ?_)
            · skip
              refine lv_iload hx hb dL_sign_249 (lv_at hl 0 rfl) ?_
              exact pu_iret hx hb hr hlocks dL_sign_251 (Eq.symm (Eq.trans (if_pos c_15) (Eq.trans (if_neg c_21) (Eq.trans (if_pos c_27) (Eq.trans (if_neg (ntr c_119)) (rfl))))))
            · skip
              refine W.eq (g2 := F0 m 122 ls []) rfl ?_
              refine lv_iload hx hb dL_sign_122 (lv_at hl 0 rfl) ?_
              refine lv_iload hx hb dL_sign_124 (lv_at hl 10 rfl) ?_
              refine lv_iload hx hb dL_sign_126 (lv_at hl 9 rfl) ?_
              have hj_128 : ∀ (v128_0 : Int32) (ls : Array Slot), v128_0 = sp_L_sign_j128s0 M p0 p1 p2 → lv_has ls 13 [(0, .int p0), (1, .int p1), (2, .int p2), (3, .ref (oa 1)), (4, .ref (oa 2)), (5, .ref (oa 3)), (6, .int (M 1 (((4 * p0) + 1).toNatClampNeg))), (7, .int ((p1 + p2) - (M 1 (((4 * p0) + 1).toNatClampNeg)))), (8, .int (M 2 (((4 * p0) + (M 1 (((4 * p0) + 1).toNatClampNeg))).toNatClampNeg))), (9, .int (M 2 (((4 * p0) + ((p1 + p2) - (M 1 (((4 * p0) + 1).toNatClampNeg)))).toNatClampNeg))), (10, .int ((sp_L_sign_j72s0 M p0 p1 p2) + (sp_L_sign_j93s0 M p0 p1 p2)))] → W p l e ({ frames := 1, cells := 0, slots := 0, locals := 23 } : Room) s m ([.int p0, .int p1, .int p2, .ref (oa 1), .ref (oa 2), .ref (oa 3)] : List Value).toArray below meth c s.heap [] 0 0 (MQ below (QcV (.int (sp_L_sign M p0 p1 p2))) ([.int p0, .int p1, .int p2, .ref (oa 1), .ref (oa 2), .ref (oa 3)] : List Value).toArray s 0 0 (fun _ => False)) (F0 m 151 ls [.int v128_0, .int ((sp_L_sign_j72s0 M p0 p1 p2) + (sp_L_sign_j93s0 M p0 p1 p2))]) := by
                intro v128_0 ls ev128_0 hl
                subst ev128_0
                refine lv_iadd hx hb dL_sign_151 ?_
                refine lv_istore (lv' := [(10, .int (((sp_L_sign_j72s0 M p0 p1 p2) + (sp_L_sign_j93s0 M p0 p1 p2)) + (sp_L_sign_j128s0 M p0 p1 p2))), (0, .int p0), (1, .int p1), (2, .int p2), (3, .ref (oa 1)), (4, .ref (oa 2)), (5, .ref (oa 3)), (6, .int (M 1 (((4 * p0) + 1).toNatClampNeg))), (7, .int ((p1 + p2) - (M 1 (((4 * p0) + 1).toNatClampNeg)))), (8, .int (M 2 (((4 * p0) + (M 1 (((4 * p0) + 1).toNatClampNeg))).toNatClampNeg))), (9, .int (M 2 (((4 * p0) + ((p1 + p2) - (M 1 (((4 * p0) + 1).toNatClampNeg)))).toNatClampNeg)))]) hx hb dL_sign_152 hl (by decide) rfl (fun ls hl => ?_)
                refine lv_iconst (v := 1) hx hb dL_sign_154 (by decide) ?_
                refine lv_istore (lv' := [(11, .int 1), (10, .int (((sp_L_sign_j72s0 M p0 p1 p2) + (sp_L_sign_j93s0 M p0 p1 p2)) + (sp_L_sign_j128s0 M p0 p1 p2))), (0, .int p0), (1, .int p1), (2, .int p2), (3, .ref (oa 1)), (4, .ref (oa 2)), (5, .ref (oa 3)), (6, .int (M 1 (((4 * p0) + 1).toNatClampNeg))), (7, .int ((p1 + p2) - (M 1 (((4 * p0) + 1).toNatClampNeg)))), (8, .int (M 2 (((4 * p0) + (M 1 (((4 * p0) + 1).toNatClampNeg))).toNatClampNeg))), (9, .int (M 2 (((4 * p0) + ((p1 + p2) - (M 1 (((4 * p0) + 1).toNatClampNeg)))).toNatClampNeg)))]) hx hb dL_sign_155 hl (by decide) rfl (fun ls hl => ?_)
                refine lv_iload_n hx hb dL_sign_157 rfl (lv_at hl 2 rfl) ?_
                refine lv_iconst (v := 1) hx hb dL_sign_158 (by decide) ?_
                refine lv_isub hx hb dL_sign_159 ?_
                refine lv_istore (lv' := [(12, .int (p0 - 1)), (11, .int 1), (10, .int (((sp_L_sign_j72s0 M p0 p1 p2) + (sp_L_sign_j93s0 M p0 p1 p2)) + (sp_L_sign_j128s0 M p0 p1 p2))), (0, .int p0), (1, .int p1), (2, .int p2), (3, .ref (oa 1)), (4, .ref (oa 2)), (5, .ref (oa 3)), (6, .int (M 1 (((4 * p0) + 1).toNatClampNeg))), (7, .int ((p1 + p2) - (M 1 (((4 * p0) + 1).toNatClampNeg)))), (8, .int (M 2 (((4 * p0) + (M 1 (((4 * p0) + 1).toNatClampNeg))).toNatClampNeg))), (9, .int (M 2 (((4 * p0) + ((p1 + p2) - (M 1 (((4 * p0) + 1).toNatClampNeg)))).toNatClampNeg)))]) hx hb dL_sign_160 hl (by decide) rfl (fun ls hl => ?_)
                have hloop_162 : ∀ (j : Nat), j ≤ 8 → ∀ (sm x12 : Int32) (ls : Array Slot), x12 = nI j - 1 → sp_L_sign_A M p1 p2 ((p1 + p2) - (M 1 (((4 * p0) + 1).toNatClampNeg))) j sm = sp_L_sign M p0 p1 p2 → lv_has ls 13 [(0, .int p0), (1, .int p1), (2, .int p2), (3, .ref (oa 1)), (4, .ref (oa 2)), (5, .ref (oa 3)), (6, .int (M 1 (((4 * p0) + 1).toNatClampNeg))), (7, .int ((p1 + p2) - (M 1 (((4 * p0) + 1).toNatClampNeg)))), (8, .int (M 2 (((4 * p0) + (M 1 (((4 * p0) + 1).toNatClampNeg))).toNatClampNeg))), (9, .int (M 2 (((4 * p0) + ((p1 + p2) - (M 1 (((4 * p0) + 1).toNatClampNeg)))).toNatClampNeg))), (10, .int sm), (11, .int 1), (12, .int x12)] → W p l e ({ frames := 1, cells := 0, slots := 0, locals := 23 } : Room) s m ([.int p0, .int p1, .int p2, .ref (oa 1), .ref (oa 2), .ref (oa 3)] : List Value).toArray below meth c s.heap [] 0 0 (MQ below (QcV (.int (sp_L_sign M p0 p1 p2))) ([.int p0, .int p1, .int p2, .ref (oa 1), .ref (oa 2), .ref (oa 3)] : List Value).toArray s 0 0 (fun _ => False)) (F0 m 162 ls []) := by
                  intro j
                  induction j with
                  | zero =>
                    intro _ sm x12 ls ex12 hA_12 hl
                    have ex12 : x12 = -1 := by rw [ex12]; decide
                    subst ex12
                    refine W.eq (g2 := F0 m 162 ls []) rfl ?_
                    refine lv_iload hx hb dL_sign_162 (lv_at hl 12 rfl) ?_
                    refine lv_if_lt (tgt := 249) hx hb dL_sign_164 (by decide) (fun c_164 => ?_) (fun c_164 => ?_)
                    · skip
                      refine lv_iload hx hb dL_sign_249 (lv_at hl 10 rfl) ?_
                      exact pu_iret hx hb hr hlocks dL_sign_251 (Eq.trans (Eq.symm (rfl)) hA_12)
                    · skip
                      exact absurd (by decide) c_164
                  | succ j ih_12 =>
                    intro hj_12 sm x12 ls ex12 hA_12 hl
                    rw [nI_pred] at ex12
                    subst ex12
                    have hkj : vp_in (nI j) 8 := vp_in_nI (by omega) (by decide)
                    refine W.eq (g2 := F0 m 162 ls []) rfl ?_
                    refine lv_iload hx hb dL_sign_162 (lv_at hl 12 rfl) ?_
                    refine lv_if_lt (tgt := 249) hx hb dL_sign_164 (by decide) (fun c_164 => ?_) (fun c_164 => ?_)
                    · skip
                      exact absurd c_164 (nI_pos (by omega))
                    · skip
                      refine lv_iload hx hb dL_sign_167 (lv_at hl 11 rfl) ?_
                      refine lv_if_eq (tgt := 249) hx hb dL_sign_169 (by decide) (fun c_169 => ?_) (fun c_169 => ?_)
                      · skip
                        exact absurd c_169 (by decide)
                      · skip
                        refine lv_aload_n hx hb dL_sign_172 rfl (lv_at hl 3 rfl) ?_
                        refine lv_iconst (v := 4) hx hb dL_sign_173 (by decide) ?_
                        refine lv_iload hx hb dL_sign_174 (lv_at hl 12 rfl) ?_
                        refine lv_imul hx hb dL_sign_176 ?_
                        refine W.eq (g2 := F0 m 177 ls [.int (4 * (nI j)), .ref (oa 1)]) rfl ?_
                        refine va_iald hx hb hK hP 1 0 (cA := K 0) rfl rfl (i40 hkj) dL_sign_177 ?_
                        refine lv_iconst (v := 1) hx hb dL_sign_178 (by decide) ?_
                        refine lv_icmp_ne (tgt := 208) hx hb dL_sign_179 (by decide) (fun c_179 => ?_) (fun c_179 => ?_)
                        · skip
                          refine lv_iconst (v := 1) hx hb dL_sign_208 (by decide) ?_
                          refine lv_goto (tgt := 213) hx hb dL_sign_209 (by decide) ?_
                          refine lv_istore (lv' := [(11, .int 1), (0, .int p0), (1, .int p1), (2, .int p2), (3, .ref (oa 1)), (4, .ref (oa 2)), (5, .ref (oa 3)), (6, .int (M 1 (((4 * p0) + 1).toNatClampNeg))), (7, .int ((p1 + p2) - (M 1 (((4 * p0) + 1).toNatClampNeg)))), (8, .int (M 2 (((4 * p0) + (M 1 (((4 * p0) + 1).toNatClampNeg))).toNatClampNeg))), (9, .int (M 2 (((4 * p0) + ((p1 + p2) - (M 1 (((4 * p0) + 1).toNatClampNeg)))).toNatClampNeg))), (10, .int sm), (12, .int (nI j))]) hx hb dL_sign_213 hl (by decide) rfl (fun ls hl => ?_)
                          refine lv_iload hx hb dL_sign_215 (lv_at hl 11 rfl) ?_
                          refine lv_iload hx hb dL_sign_217 (lv_at hl 0 rfl) ?_
                          refine lv_if_ne (tgt := 239) hx hb dL_sign_219 (by decide) (fun c_219 => ?_) (fun c_219 => ?_)
                          · skip
                            refine lv_iconst (v := 0) hx hb dL_sign_239 (by decide) ?_
                            refine lv_iadd hx hb dL_sign_240 ?_
                            refine lv_istore (lv' := [(10, .int (sm + 0)), (11, .int 1), (0, .int p0), (1, .int p1), (2, .int p2), (3, .ref (oa 1)), (4, .ref (oa 2)), (5, .ref (oa 3)), (6, .int (M 1 (((4 * p0) + 1).toNatClampNeg))), (7, .int ((p1 + p2) - (M 1 (((4 * p0) + 1).toNatClampNeg)))), (8, .int (M 2 (((4 * p0) + (M 1 (((4 * p0) + 1).toNatClampNeg))).toNatClampNeg))), (9, .int (M 2 (((4 * p0) + ((p1 + p2) - (M 1 (((4 * p0) + 1).toNatClampNeg)))).toNatClampNeg))), (12, .int (nI j))]) hx hb dL_sign_241 hl (by decide) rfl (fun ls hl => ?_)
                            refine lv_iinc (v := (nI j) - 1) (lv' := [(12, .int ((nI j) - 1)), (10, .int (sm + 0)), (11, .int 1), (0, .int p0), (1, .int p1), (2, .int p2), (3, .ref (oa 1)), (4, .ref (oa 2)), (5, .ref (oa 3)), (6, .int (M 1 (((4 * p0) + 1).toNatClampNeg))), (7, .int ((p1 + p2) - (M 1 (((4 * p0) + 1).toNatClampNeg)))), (8, .int (M 2 (((4 * p0) + (M 1 (((4 * p0) + 1).toNatClampNeg))).toNatClampNeg))), (9, .int (M 2 (((4 * p0) + ((p1 + p2) - (M 1 (((4 * p0) + 1).toNatClampNeg)))).toNatClampNeg)))]) hx hb dL_sign_243 hl (k := 12) rfl (by rw [Int32.sub_eq_add_neg]; rfl) (by decide) rfl (fun ls hl => ?_)
                            refine lv_goto (tgt := 162) hx hb dL_sign_246 (by decide) ?_
                            exact ih_12 (by omega) _ _ ls rfl (Eq.trans (Eq.symm (Eq.trans (if_neg c_179) (rfl))) hA_12) (lv_sub hl [3, 4, 5, 6, 7, 8, 9, 10, 11, 12, 1, 2, 0] rfl)
                          · skip
                            exact absurd c_219 (by decide)
                        · skip
                          refine lv_iload hx hb dL_sign_182 (lv_at hl 12 rfl) ?_
                          refine lv_iload_n hx hb dL_sign_184 rfl (lv_at hl 1 rfl) ?_
                          refine lv_aload hx hb dL_sign_185 (lv_at hl 4 rfl) ?_
                          refine lv_aload hx hb dL_sign_187 (lv_at hl 5 rfl) ?_
                          refine pu_S (As := [.int (nI j), .int p1, .ref (oa 2), .ref (oa 3)]) (rest := []) hc (c_L_in l D K oa M (nI j) p1 hkj hb1) (va_cwS 4 hts gL_sign_L_in rfl rfl rfl (by decide +kernel) ⟨Nat.le_of_ble_eq_true rfl, Nat.le_of_ble_eq_true rfl⟩) hP hK hE rfl rfl hl.1 (Nat.le_of_ble_eq_true rfl) dL_sign_189 ⟨Nat.le_of_ble_eq_true rfl, Nat.le_of_ble_eq_true rfl⟩ ?_
                          refine W.eq (g2 := F0 m 192 ls [.int (bI (sp_L_in M (nI j) p1))]) rfl ?_
                          refine lb_eq (tgt := 208) hx hb dL_sign_192 (by decide) (fun c_192 => ?_) (fun c_192 => ?_)
                          · skip
                            refine lv_iconst (v := 1) hx hb dL_sign_208 (by decide) ?_
                            refine lv_goto (tgt := 213) hx hb dL_sign_209 (by decide) ?_
                            refine lv_istore (lv' := [(11, .int 1), (0, .int p0), (1, .int p1), (2, .int p2), (3, .ref (oa 1)), (4, .ref (oa 2)), (5, .ref (oa 3)), (6, .int (M 1 (((4 * p0) + 1).toNatClampNeg))), (7, .int ((p1 + p2) - (M 1 (((4 * p0) + 1).toNatClampNeg)))), (8, .int (M 2 (((4 * p0) + (M 1 (((4 * p0) + 1).toNatClampNeg))).toNatClampNeg))), (9, .int (M 2 (((4 * p0) + ((p1 + p2) - (M 1 (((4 * p0) + 1).toNatClampNeg)))).toNatClampNeg))), (10, .int sm), (12, .int (nI j))]) hx hb dL_sign_213 hl (by decide) rfl (fun ls hl => ?_)
                            refine lv_iload hx hb dL_sign_215 (lv_at hl 11 rfl) ?_
                            refine lv_iload hx hb dL_sign_217 (lv_at hl 0 rfl) ?_
                            refine lv_if_ne (tgt := 239) hx hb dL_sign_219 (by decide) (fun c_219 => ?_) (fun c_219 => ?_)
                            · skip
                              refine lv_iconst (v := 0) hx hb dL_sign_239 (by decide) ?_
                              refine lv_iadd hx hb dL_sign_240 ?_
                              refine lv_istore (lv' := [(10, .int (sm + 0)), (11, .int 1), (0, .int p0), (1, .int p1), (2, .int p2), (3, .ref (oa 1)), (4, .ref (oa 2)), (5, .ref (oa 3)), (6, .int (M 1 (((4 * p0) + 1).toNatClampNeg))), (7, .int ((p1 + p2) - (M 1 (((4 * p0) + 1).toNatClampNeg)))), (8, .int (M 2 (((4 * p0) + (M 1 (((4 * p0) + 1).toNatClampNeg))).toNatClampNeg))), (9, .int (M 2 (((4 * p0) + ((p1 + p2) - (M 1 (((4 * p0) + 1).toNatClampNeg)))).toNatClampNeg))), (12, .int (nI j))]) hx hb dL_sign_241 hl (by decide) rfl (fun ls hl => ?_)
                              refine lv_iinc (v := (nI j) - 1) (lv' := [(12, .int ((nI j) - 1)), (10, .int (sm + 0)), (11, .int 1), (0, .int p0), (1, .int p1), (2, .int p2), (3, .ref (oa 1)), (4, .ref (oa 2)), (5, .ref (oa 3)), (6, .int (M 1 (((4 * p0) + 1).toNatClampNeg))), (7, .int ((p1 + p2) - (M 1 (((4 * p0) + 1).toNatClampNeg)))), (8, .int (M 2 (((4 * p0) + (M 1 (((4 * p0) + 1).toNatClampNeg))).toNatClampNeg))), (9, .int (M 2 (((4 * p0) + ((p1 + p2) - (M 1 (((4 * p0) + 1).toNatClampNeg)))).toNatClampNeg)))]) hx hb dL_sign_243 hl (k := 12) rfl (by rw [Int32.sub_eq_add_neg]; rfl) (by decide) rfl (fun ls hl => ?_)
                              refine lv_goto (tgt := 162) hx hb dL_sign_246 (by decide) ?_
                              exact ih_12 (by omega) _ _ ls rfl (Eq.trans (Eq.symm (Eq.trans (if_pos c_179) (Eq.trans (if_neg (ntr c_192)) (rfl)))) hA_12) (lv_sub hl [3, 4, 5, 6, 7, 8, 9, 10, 11, 12, 1, 2, 0] rfl)
                            · skip
                              exact absurd c_219 (by decide)
                          · skip
                            refine lv_iload hx hb dL_sign_195 (lv_at hl 12 rfl) ?_
                            refine lv_iload_n hx hb dL_sign_197 rfl (lv_at hl 2 rfl) ?_
                            refine lv_aload hx hb dL_sign_198 (lv_at hl 4 rfl) ?_
                            refine lv_aload hx hb dL_sign_200 (lv_at hl 5 rfl) ?_
                            refine pu_S (As := [.int (nI j), .int p2, .ref (oa 2), .ref (oa 3)]) (rest := []) hc (c_L_in l D K oa M (nI j) p2 hkj hb2) (va_cwS 4 hts gL_sign_L_in rfl rfl rfl (by decide +kernel) ⟨Nat.le_of_ble_eq_true rfl, Nat.le_of_ble_eq_true rfl⟩) hP hK hE rfl rfl hl.1 (Nat.le_of_ble_eq_true rfl) dL_sign_202 ⟨Nat.le_of_ble_eq_true rfl, Nat.le_of_ble_eq_true rfl⟩ ?_
                            refine lb_ne (tgt := 212) hx hb dL_sign_205 (by decide) (fun c_205 => ?_) (fun c_205 => ?_)
                            · skip
                              refine lv_iconst (v := 0) hx hb dL_sign_212 (by decide) ?_
                              refine lv_istore (lv' := [(11, .int 0), (0, .int p0), (1, .int p1), (2, .int p2), (3, .ref (oa 1)), (4, .ref (oa 2)), (5, .ref (oa 3)), (6, .int (M 1 (((4 * p0) + 1).toNatClampNeg))), (7, .int ((p1 + p2) - (M 1 (((4 * p0) + 1).toNatClampNeg)))), (8, .int (M 2 (((4 * p0) + (M 1 (((4 * p0) + 1).toNatClampNeg))).toNatClampNeg))), (9, .int (M 2 (((4 * p0) + ((p1 + p2) - (M 1 (((4 * p0) + 1).toNatClampNeg)))).toNatClampNeg))), (10, .int sm), (12, .int (nI j))]) hx hb dL_sign_213 hl (by decide) rfl (fun ls hl => ?_)
                              refine lv_iload hx hb dL_sign_215 (lv_at hl 11 rfl) ?_
                              refine lv_iload hx hb dL_sign_217 (lv_at hl 0 rfl) ?_
                              refine lv_if_ne (tgt := 239) hx hb dL_sign_219 (by decide) (fun c_219 => ?_) (fun c_219 => ?_)
                              · skip
                                exact absurd rfl c_219
                              · skip
                                refine lv_aload_n hx hb dL_sign_222 rfl (lv_at hl 4 rfl) ?_
                                refine lv_iconst (v := 4) hx hb dL_sign_223 (by decide) ?_
                                refine lv_iload hx hb dL_sign_224 (lv_at hl 12 rfl) ?_
                                refine W.eq (g2 := F0 m 226 ls [.int (nI j), .int 4, .ref (oa 1), .int sm]) rfl ?_
                                refine lv_imul hx hb dL_sign_226 ?_
                                refine lv_iconst (v := 1) hx hb dL_sign_227 (by decide) ?_
                                refine lv_iadd hx hb dL_sign_228 ?_
                                refine va_iald hx hb hK hP 1 0 (cA := K 0) rfl rfl (i4 hkj (show vp_in 1 4 from vp_in_nI (n := 1) (by decide) (by decide))) dL_sign_229 ?_
                                refine lv_iload hx hb dL_sign_230 (lv_at hl 8 rfl) ?_
                                refine lv_icmp_ne (tgt := 239) hx hb dL_sign_232 (by decide) (fun c_232 => ?_) (fun c_232 => ?_)
                                · skip
                                  refine lv_iconst (v := 0) hx hb dL_sign_239 (by decide) ?_
                                  refine lv_iadd hx hb dL_sign_240 ?_
                                  refine lv_istore (lv' := [(10, .int (sm + 0)), (11, .int 0), (0, .int p0), (1, .int p1), (2, .int p2), (3, .ref (oa 1)), (4, .ref (oa 2)), (5, .ref (oa 3)), (6, .int (M 1 (((4 * p0) + 1).toNatClampNeg))), (7, .int ((p1 + p2) - (M 1 (((4 * p0) + 1).toNatClampNeg)))), (8, .int (M 2 (((4 * p0) + (M 1 (((4 * p0) + 1).toNatClampNeg))).toNatClampNeg))), (9, .int (M 2 (((4 * p0) + ((p1 + p2) - (M 1 (((4 * p0) + 1).toNatClampNeg)))).toNatClampNeg))), (12, .int (nI j))]) hx hb dL_sign_241 hl (by decide) rfl (fun ls hl => ?_)
                                  refine lv_iinc (v := (nI j) - 1) (lv' := [(12, .int ((nI j) - 1)), (10, .int (sm + 0)), (11, .int 0), (0, .int p0), (1, .int p1), (2, .int p2), (3, .ref (oa 1)), (4, .ref (oa 2)), (5, .ref (oa 3)), (6, .int (M 1 (((4 * p0) + 1).toNatClampNeg))), (7, .int ((p1 + p2) - (M 1 (((4 * p0) + 1).toNatClampNeg)))), (8, .int (M 2 (((4 * p0) + (M 1 (((4 * p0) + 1).toNatClampNeg))).toNatClampNeg))), (9, .int (M 2 (((4 * p0) + ((p1 + p2) - (M 1 (((4 * p0) + 1).toNatClampNeg)))).toNatClampNeg)))]) hx hb dL_sign_243 hl (k := 12) rfl (by rw [Int32.sub_eq_add_neg]; rfl) (by decide) rfl (fun ls hl => ?_)
                                  refine lv_goto (tgt := 162) hx hb dL_sign_246 (by decide) ?_
                                  refine lv_iload hx hb dL_sign_162 (lv_at hl 0 rfl) ?_
                                  refine lv_if_lt (tgt := 249) hx hb dL_sign_164 (by decide) (fun c_164 => ?_) (fun c_164 => ?_)
                                  · skip
                                    refine lv_iload hx hb dL_sign_249 (lv_at hl 1 rfl) ?_
                                    exact pu_iret hx hb hr hlocks dL_sign_251 (Eq.trans (Eq.symm (Eq.trans (if_pos c_179) (Eq.trans (if_pos c_192) (Eq.trans (if_pos c_205) (Eq.trans (if_neg c_232) (Eq.trans (if_pos c_164) (rfl))))))) hA_12)
                                  · skip
                                    refine lv_iload hx hb dL_sign_167 (lv_at hl 2 rfl) ?_
                                    refine lv_if_eq (tgt := 249) hx hb dL_sign_169 (by decide) (fun c_169 => ?_) (fun c_169 => ?_)
                                    · skip
                                      refine lv_iload hx hb dL_sign_249 (lv_at hl 1 rfl) ?_
                                      exact pu_iret hx hb hr hlocks dL_sign_251 (Eq.trans (Eq.symm (Eq.trans (if_pos c_179) (Eq.trans (if_pos c_192) (Eq.trans (if_pos c_205) (Eq.trans (if_neg c_232) (Eq.trans (if_neg c_164) (rfl))))))) hA_12)
                                    · skip
                                      exact absurd rfl c_169
                                · skip
                                  refine lv_iconst (v := 4) hx hb dL_sign_235 (by decide) ?_
                                  refine lv_goto (tgt := 240) hx hb dL_sign_236 (by decide) ?_
                                  refine lv_iadd hx hb dL_sign_240 ?_
                                  refine lv_istore (lv' := [(10, .int (sm + 4)), (11, .int 0), (0, .int p0), (1, .int p1), (2, .int p2), (3, .ref (oa 1)), (4, .ref (oa 2)), (5, .ref (oa 3)), (6, .int (M 1 (((4 * p0) + 1).toNatClampNeg))), (7, .int ((p1 + p2) - (M 1 (((4 * p0) + 1).toNatClampNeg)))), (8, .int (M 2 (((4 * p0) + (M 1 (((4 * p0) + 1).toNatClampNeg))).toNatClampNeg))), (9, .int (M 2 (((4 * p0) + ((p1 + p2) - (M 1 (((4 * p0) + 1).toNatClampNeg)))).toNatClampNeg))), (12, .int (nI j))]) hx hb dL_sign_241 hl (by decide) rfl (fun ls hl => ?_)
                                  refine lv_iinc (v := (nI j) - 1) (lv' := [(12, .int ((nI j) - 1)), (10, .int (sm + 4)), (11, .int 0), (0, .int p0), (1, .int p1), (2, .int p2), (3, .ref (oa 1)), (4, .ref (oa 2)), (5, .ref (oa 3)), (6, .int (M 1 (((4 * p0) + 1).toNatClampNeg))), (7, .int ((p1 + p2) - (M 1 (((4 * p0) + 1).toNatClampNeg)))), (8, .int (M 2 (((4 * p0) + (M 1 (((4 * p0) + 1).toNatClampNeg))).toNatClampNeg))), (9, .int (M 2 (((4 * p0) + ((p1 + p2) - (M 1 (((4 * p0) + 1).toNatClampNeg)))).toNatClampNeg)))]) hx hb dL_sign_243 hl (k := 12) rfl (by rw [Int32.sub_eq_add_neg]; rfl) (by decide) rfl (fun ls hl => ?_)
                                  refine lv_goto (tgt := 162) hx hb dL_sign_246 (by decide) ?_
                                  refine lv_iload hx hb dL_sign_162 (lv_at hl 0 rfl) ?_
                                  refine lv_if_lt (tgt := 249) hx hb dL_sign_164 (by decide) (fun c_164 => ?_) (fun c_164 => ?_)
                                  · skip
                                    refine lv_iload hx hb dL_sign_249 (lv_at hl 1 rfl) ?_
                                    exact pu_iret hx hb hr hlocks dL_sign_251 (Eq.trans (Eq.symm (Eq.trans (if_pos c_179) (Eq.trans (if_pos c_192) (Eq.trans (if_pos c_205) (Eq.trans (if_pos c_232) (Eq.trans (if_pos c_164) (rfl))))))) hA_12)
                                  · skip
                                    refine lv_iload hx hb dL_sign_167 (lv_at hl 2 rfl) ?_
                                    refine lv_if_eq (tgt := 249) hx hb dL_sign_169 (by decide) (fun c_169 => ?_) (fun c_169 => ?_)
                                    · skip
                                      refine lv_iload hx hb dL_sign_249 (lv_at hl 1 rfl) ?_
                                      exact pu_iret hx hb hr hlocks dL_sign_251 (Eq.trans (Eq.symm (Eq.trans (if_pos c_179) (Eq.trans (if_pos c_192) (Eq.trans (if_pos c_205) (Eq.trans (if_pos c_232) (Eq.trans (if_neg c_164) (rfl))))))) hA_12)
                                    · skip
                                      exact absurd rfl c_169
                            · skip
                              refine lv_iconst (v := 1) hx hb dL_sign_208 (by decide) ?_
                              refine W.eq (g2 := F0 m 209 ls [.int 1]) rfl ?_
                              refine lv_goto (tgt := 213) hx hb dL_sign_209 (by decide) ?_
                              refine lv_istore (lv' := [(11, .int 1), (0, .int p0), (1, .int p1), (2, .int p2), (3, .ref (oa 1)), (4, .ref (oa 2)), (5, .ref (oa 3)), (6, .int (M 1 (((4 * p0) + 1).toNatClampNeg))), (7, .int ((p1 + p2) - (M 1 (((4 * p0) + 1).toNatClampNeg)))), (8, .int (M 2 (((4 * p0) + (M 1 (((4 * p0) + 1).toNatClampNeg))).toNatClampNeg))), (9, .int (M 2 (((4 * p0) + ((p1 + p2) - (M 1 (((4 * p0) + 1).toNatClampNeg)))).toNatClampNeg))), (10, .int sm), (12, .int (nI j))]) hx hb dL_sign_213 hl (by decide) rfl (fun ls hl => ?_)
                              refine lv_iload hx hb dL_sign_215 (lv_at hl 11 rfl) ?_
                              refine lv_iload hx hb dL_sign_217 (lv_at hl 0 rfl) ?_
                              refine lv_if_ne (tgt := 239) hx hb dL_sign_219 (by decide) (fun c_219 => ?_) (fun c_219 => ?_)
                              · skip
                                refine lv_iconst (v := 0) hx hb dL_sign_239 (by decide) ?_
                                refine lv_iadd hx hb dL_sign_240 ?_
                                refine lv_istore (lv' := [(10, .int (sm + 0)), (11, .int 1), (0, .int p0), (1, .int p1), (2, .int p2), (3, .ref (oa 1)), (4, .ref (oa 2)), (5, .ref (oa 3)), (6, .int (M 1 (((4 * p0) + 1).toNatClampNeg))), (7, .int ((p1 + p2) - (M 1 (((4 * p0) + 1).toNatClampNeg)))), (8, .int (M 2 (((4 * p0) + (M 1 (((4 * p0) + 1).toNatClampNeg))).toNatClampNeg))), (9, .int (M 2 (((4 * p0) + ((p1 + p2) - (M 1 (((4 * p0) + 1).toNatClampNeg)))).toNatClampNeg))), (12, .int (nI j))]) hx hb dL_sign_241 hl (by decide) rfl (fun ls hl => ?_)
                                refine lv_iinc (v := (nI j) - 1) (lv' := [(12, .int ((nI j) - 1)), (10, .int (sm + 0)), (11, .int 1), (0, .int p0), (1, .int p1), (2, .int p2), (3, .ref (oa 1)), (4, .ref (oa 2)), (5, .ref (oa 3)), (6, .int (M 1 (((4 * p0) + 1).toNatClampNeg))), (7, .int ((p1 + p2) - (M 1 (((4 * p0) + 1).toNatClampNeg)))), (8, .int (M 2 (((4 * p0) + (M 1 (((4 * p0) + 1).toNatClampNeg))).toNatClampNeg))), (9, .int (M 2 (((4 * p0) + ((p1 + p2) - (M 1 (((4 * p0) + 1).toNatClampNeg)))).toNatClampNeg)))]) hx hb dL_sign_243 hl (k := 12) rfl (by rw [Int32.sub_eq_add_neg]; rfl) (by decide) rfl (fun ls hl => ?_)
                                refine lv_goto (tgt := 162) hx hb dL_sign_246 (by decide) ?_
                                exact ih_12 (by omega) _ _ ls rfl (Eq.trans (Eq.symm (Eq.trans (if_pos c_179) (Eq.trans (if_pos c_192) (Eq.trans (if_neg (ntr c_205)) (rfl))))) hA_12) (lv_sub hl [3, 4, 5, 6, 7, 8, 9, 10, 11, 12, 1, 2, 0] rfl)
                              · skip
                                exact absurd c_219 (by decide)
                exact hloop_162 p0.toNatClampNeg (Nat.le_of_lt (vin_lt ht)) _ _ ls (by rw [← vin_eq ht]) (Eq.symm (Eq.trans (if_pos c_15) (Eq.trans (if_neg c_21) (Eq.trans (if_pos c_27) (Eq.trans (if_pos c_119) (rfl)))))) (lv_sub hl [3, 4, 5, 6, 7, 8, 9, 10, 11, 12, 2, 1, 0] rfl)
              refine lv_icmp_le (tgt := 150) hx hb dL_sign_128 (by decide) (fun c_128 => ?_) (fun c_128 => ?_)
              · skip
                refine lv_iconst (v := 0) hx hb dL_sign_150 (by decide) ?_
                exact hj_128 _ ls (Eq.symm (Eq.trans (if_pos c_128) (rfl))) (lv_sub hl [1, 2, 3, 4, 5, 6, 7, 8, 9, 10, 0] rfl)
              · skip
                refine lv_bipush (v := 100) hx hb dL_sign_131 (by decide) ?_
                refine lv_iload hx hb dL_sign_133 (lv_at hl 10 rfl) ?_
                refine lv_iload hx hb dL_sign_135 (lv_at hl 9 rfl) ?_
                refine lv_isub hx hb dL_sign_137 ?_
                refine lv_imul hx hb dL_sign_138 ?_
                refine lv_iconst (v := 5) hx hb dL_sign_139 (by decide) ?_
                refine lv_iload hx hb dL_sign_140 (lv_at hl 9 rfl) ?_
                refine W.eq (g2 := F0 m 142 ls [.int (M 2 (((4 * p0) + (M 1 (((4 * p0) + 1).toNatClampNeg))).toNatClampNeg)), .int 5, .int (100 * ((M 2 (((4 * p0) + ((p1 + p2) - (M 1 (((4 * p0) + 1).toNatClampNeg)))).toNatClampNeg)) - (M 2 (((4 * p0) + (M 1 (((4 * p0) + 1).toNatClampNeg))).toNatClampNeg)))), .int ((sp_L_sign_j72s0 M p0 p1 p2) + (sp_L_sign_j93s0 M p0 p1 p2))]) rfl ?_
                refine lv_imul hx hb dL_sign_142 ?_
                refine lv_icmp_gt (tgt := 150) hx hb dL_sign_143 (by decide) (fun c_143 => ?_) (fun c_143 => ?_)
                · skip
                  refine lv_iconst (v := 0) hx hb dL_sign_150 (by decide) ?_
                  exact hj_128 _ ls (Eq.symm (Eq.trans (if_neg c_128) (Eq.trans (if_pos c_143) (rfl)))) (lv_sub hl [1, 2, 3, 4, 5, 6, 7, 8, 9, 10, 0] rfl)
                · skip
                  refine lv_iconst (v := 2) hx hb dL_sign_146 (by decide) ?_
                  refine lv_goto (tgt := 151) hx hb dL_sign_147 (by decide) ?_
                  exact hj_128 _ ls (Eq.symm (Eq.trans (if_neg c_128) (Eq.trans (if_neg c_143) (rfl)))) (lv_sub hl [1, 2, 3, 4, 5, 6, 7, 8, 9, 10, 0] rfl)
          refine lv_icmp_ne (tgt := 105) hx hb dL_sign_93 (by decide) (fun c_93 => ?_) (fun c_93 => ?_)
          · skip
            refine lv_iconst (v := 0) hx hb dL_sign_105 (by decide) ?_
            exact hj_93 _ ls (Eq.symm (Eq.trans (if_neg c_93) (rfl))) (lv_sub hl [1, 2, 3, 4, 5, 6, 7, 8, 9, 10, 0] rfl)
          · skip
            refine lv_iload hx hb dL_sign_96 (lv_at hl 10 rfl) ?_
            refine lv_if_le (tgt := 105) hx hb dL_sign_98 (by decide) (fun c_98 => ?_) (fun c_98 => ?_)
            · skip
              refine lv_iconst (v := 0) hx hb dL_sign_105 (by decide) ?_
              exact hj_93 _ ls (Eq.symm (Eq.trans (if_pos c_93) (Eq.trans (if_pos c_98) (rfl)))) (lv_sub hl [1, 2, 3, 4, 5, 6, 7, 8, 9, 10, 0] rfl)
            · skip
              refine lv_iconst (v := 3) hx hb dL_sign_101 (by decide) ?_
              refine lv_goto (tgt := 106) hx hb dL_sign_102 (by decide) ?_
              exact hj_93 _ ls (Eq.symm (Eq.trans (if_pos c_93) (Eq.trans (if_neg c_98) (rfl)))) (lv_sub hl [1, 2, 3, 4, 5, 6, 7, 8, 9, 10, 0] rfl)
        refine lv_icmp_ne (tgt := 79) hx hb dL_sign_72 (by decide) (fun c_72 => ?_) (fun c_72 => ?_)
        · skip
          refine lv_iconst (v := 0) hx hb dL_sign_79 (by decide) ?_
          exact hj_72 _ ls (Eq.symm (Eq.trans (if_neg c_72) (rfl))) (lv_sub hl [4, 5, 6, 7, 8, 9, 3, 2, 1, 0] rfl)
        · skip
          refine lv_iconst (v := 1) hx hb dL_sign_75 (by decide) ?_
          refine lv_goto (tgt := 80) hx hb dL_sign_76 (by decide) ?_
          exact hj_72 _ ls (Eq.symm (Eq.trans (if_pos c_72) (rfl))) (lv_sub hl [4, 5, 6, 7, 8, 9, 3, 2, 1, 0] rfl)
      · skip
        refine lv_iconst (v := 0) hx hb dL_sign_30 (by decide) ?_
        exact pu_iret hx hb hr hlocks dL_sign_31 (Eq.symm (Eq.trans (if_pos c_15) (Eq.trans (if_neg c_21) (Eq.trans (if_neg c_27) (rfl)))))

def sp_L_suspicion_L6 (M : Nat → Nat → Int32) (p0 : Int32) (p1 : Int32) : Nat → Int32
  | 0 => 0
  | k + 1 => (sp_L_suspicion_L6 M p0 p1 k) + (sp_L_sign M (nI k) p0 p1)
def sp_L_suspicion (M : Nat → Nat → Int32) (n : Nat) (p0 : Int32) (p1 : Int32) : Int32 := sp_L_suspicion_L6 M p0 p1 n
set_option maxHeartbeats 4000000 in
set_option maxRecDepth 100000 in
theorem c_L_suspicion (l : Launch) (D : va_G) (K : Nat → ClassId) (oa : Nat → Nat) (M : Nat → Nat → Int32) (n : Nat) (p0 p1 : Int32) (hn : M 0 0 = nI n) (hn8 : n ≤ 8) (hb1 : vp_in p0 4) (hb2 : vp_in p1 4) : PU l yL_suspicion wsL_suspicion 2 55 D K [.int p0, .int p1, .ref (oa 0), .ref (oa 1), .ref (oa 2), .ref (oa 3)] (fun H => va_P D vwCl (aW K oa M) H) (.int (sp_L_suspicion M n p0 p1)) := by
  refine Met.ofW (cc := cL_suspicion) (maxL := 8) (ret := (some .int)) (by decide) rfl ?_
  intro p e s m args below meth c s₁ B hml hv
  obtain ⟨rfl, hP, hK, hE⟩ := hv
  have hx := B.exec
  have hb := B.bytes
  have hr := B.returns
  have hts := atoms_spec (ws := wsL_suspicion) B.pre
  have hown : s.vm.findClass RL = some m.cls := findClass_of_methodNamed B.named
  have hlocks := B.notSynchronized
  have hc : CallFix p m c cL_suspicion 8 s ([.int p0, .int p1, .ref (oa 0), .ref (oa 1), .ref (oa 2), .ref (oa 3)] : List Value).toArray wsL_suspicion RL := ⟨hx, hb, hml, hown, hts⟩
  have hP : va_P D vwCl (aW K oa M) s.heap := hP
  have hl := lv_entry ([.int p0, .int p1, .ref (oa 0), .ref (oa 1), .ref (oa 2), .ref (oa 3)]) (n := 8) (Nat.le_of_ble_eq_true rfl)
  rw [lg_entry_eq]
  generalize (lg_sl ([.int p0, .int p1, .ref (oa 0), .ref (oa 1), .ref (oa 2), .ref (oa 3)]) ++ List.replicate (8 - (lg_sl ([.int p0, .int p1, .ref (oa 0), .ref (oa 1), .ref (oa 2), .ref (oa 3)])).length) Slot.unset).toArray = ls at hl ⊢
  have hl : lv_has ls 8 [(0, .int p0), (1, .int p1), (2, .ref (oa 0)), (3, .ref (oa 1)), (4, .ref (oa 2)), (5, .ref (oa 3))] := hl
  refine lv_iconst (v := 0) hx hb dL_suspicion_0 (by decide) ?_
  refine lv_istore (lv' := [(6, .int 0), (0, .int p0), (1, .int p1), (2, .ref (oa 0)), (3, .ref (oa 1)), (4, .ref (oa 2)), (5, .ref (oa 3))]) hx hb dL_suspicion_1 hl (by decide) rfl (fun ls hl => ?_)
  refine lv_iconst (v := 0) hx hb dL_suspicion_3 (by decide) ?_
  refine lv_istore (lv' := [(7, .int 0), (6, .int 0), (0, .int p0), (1, .int p1), (2, .ref (oa 0)), (3, .ref (oa 1)), (4, .ref (oa 2)), (5, .ref (oa 3))]) hx hb dL_suspicion_4 hl (by decide) rfl (fun ls hl => ?_)
  have hloop_6 : ∀ (n6 k : Nat), k ≤ n → n + 1 ≤ k + n6 → ∀ (a6_6 x6 : Int32) (ls : Array Slot), a6_6 = sp_L_suspicion_L6 M p0 p1 k → x6 = nI k → lv_has ls 8 [(0, .int p0), (1, .int p1), (2, .ref (oa 0)), (3, .ref (oa 1)), (4, .ref (oa 2)), (5, .ref (oa 3)), (6, .int a6_6), (7, .int x6)] → W p l e ({ frames := 2, cells := 0, slots := 0, locals := 55 } : Room) s m ([.int p0, .int p1, .ref (oa 0), .ref (oa 1), .ref (oa 2), .ref (oa 3)] : List Value).toArray below meth c s.heap [] 0 0 (MQ below (QcV (.int (sp_L_suspicion M n p0 p1))) ([.int p0, .int p1, .ref (oa 0), .ref (oa 1), .ref (oa 2), .ref (oa 3)] : List Value).toArray s 0 0 (fun _ => False)) (F0 m 6 ls []) := by
    intro n6
    induction n6 with
    | zero => intro k h1 h2; exact absurd h2 (by omega)
    | succ n6 ih_6 =>
      intro k hk_6 hn_6 a6_6 x6 ls ea6_6 ex6 hl
      subst ea6_6
      subst ex6
      refine lv_iload hx hb dL_suspicion_6 (lv_at hl 7 rfl) ?_
      refine lv_aload_n hx hb dL_suspicion_8 rfl (lv_at hl 2 rfl) ?_
      refine lv_iconst (v := 0) hx hb dL_suspicion_9 (by decide) ?_
      refine va_iald hx hb hK hP 0 0 (cA := K 0) rfl rfl ((show vp_in 0 7 from vp_in_nI (n := 0) (by decide) (by decide))) dL_suspicion_10 ?_
      refine W.eq (g2 := F0 m 11 ls [.int (M 0 0), .int (nI k)]) rfl ?_
      refine W.eq (g2 := F0 m 11 ls [.int (M 0 0), .int (nI k)]) rfl ?_
      refine lv_icmp_ge (tgt := 37) hx hb dL_suspicion_11 (by decide) (fun c_11 => ?_) (fun c_11 => ?_)
      · skip
        have hke_6 : n = k := (lp_end hn c_11 hk_6 (by omega)).symm
        subst hke_6
        refine lv_iload hx hb dL_suspicion_37 (lv_at hl 6 rfl) ?_
        exact pu_iret hx hb hr hlocks dL_suspicion_39 (Eq.symm (rfl))
      · skip
        have hlt_6 : k < n := lp_in hn c_11 hk_6 (by omega)
        refine lv_iload hx hb dL_suspicion_14 (lv_at hl 6 rfl) ?_
        refine lv_iload hx hb dL_suspicion_16 (lv_at hl 7 rfl) ?_
        refine lv_iload_n hx hb dL_suspicion_18 rfl (lv_at hl 0 rfl) ?_
        refine lv_iload_n hx hb dL_suspicion_19 rfl (lv_at hl 1 rfl) ?_
        refine lv_aload_n hx hb dL_suspicion_20 rfl (lv_at hl 3 rfl) ?_
        refine lv_aload hx hb dL_suspicion_21 (lv_at hl 4 rfl) ?_
        refine lv_aload hx hb dL_suspicion_23 (lv_at hl 5 rfl) ?_
        refine W.eq (g2 := F0 m 25 ls [.ref (oa 3), .ref (oa 2), .ref (oa 1), .int p1, .int p0, .int (nI k), .int (sp_L_suspicion_L6 M p0 p1 k)]) rfl ?_
        refine pu_S (As := [.int (nI k), .int p0, .int p1, .ref (oa 1), .ref (oa 2), .ref (oa 3)]) (rest := [.int (sp_L_suspicion_L6 M p0 p1 k)]) hc (c_L_sign l D K oa M (nI k) p0 p1 (vp_in_nI (Nat.lt_of_lt_of_le hlt_6 hn8) (by decide)) hb1 hb2) (va_cwS 6 hts gL_suspicion_L_sign rfl rfl rfl (by decide +kernel) ⟨Nat.le_of_ble_eq_true rfl, Nat.le_of_ble_eq_true rfl⟩) hP hK hE rfl rfl hl.1 (Nat.le_of_ble_eq_true rfl) dL_suspicion_25 ⟨Nat.le_of_ble_eq_true rfl, Nat.le_of_ble_eq_true rfl⟩ ?_
        refine lv_iadd hx hb dL_suspicion_28 ?_
        refine lv_istore (lv' := [(6, .int ((sp_L_suspicion_L6 M p0 p1 k) + (sp_L_sign M (nI k) p0 p1))), (0, .int p0), (1, .int p1), (2, .ref (oa 0)), (3, .ref (oa 1)), (4, .ref (oa 2)), (5, .ref (oa 3)), (7, .int (nI k))]) hx hb dL_suspicion_29 hl (by decide) rfl (fun ls hl => ?_)
        refine lv_iinc (v := (nI k) + 1) (lv' := [(7, .int ((nI k) + 1)), (6, .int ((sp_L_suspicion_L6 M p0 p1 k) + (sp_L_sign M (nI k) p0 p1))), (0, .int p0), (1, .int p1), (2, .ref (oa 0)), (3, .ref (oa 1)), (4, .ref (oa 2)), (5, .ref (oa 3))]) hx hb dL_suspicion_31 hl (k := 7) rfl (rfl) (by decide) rfl (fun ls hl => ?_)
        refine lv_goto (tgt := 6) hx hb dL_suspicion_34 (by decide) ?_
        exact ih_6 (k + 1) hlt_6 (by omega) _ _ ls (Eq.symm (rfl)) (nI_1 k) (lv_sub hl [2, 3, 4, 5, 6, 7, 1, 0] rfl)
  exact hloop_6 (n + 1) 0 (Nat.zero_le _) (by omega) _ _ ls rfl nI_0.symm (lv_sub hl [2, 3, 4, 5, 6, 7, 1, 0] rfl)

def sp_L_turnover_j21s0 (M : Nat → Nat → Int32) (p0 : Int32) (k : Nat) : Int32 := if (M 1 ((4 * (nI k)).toNatClampNeg)) = 1 then (if (M 1 (((4 * (nI k)) + 1).toNatClampNeg)) = p0 then 1 else 0) else 0
def sp_L_turnover_j47s0 (M : Nat → Nat → Int32) (p0 : Int32) (k : Nat) : Int32 := if (sp_L_turnover_j21s0 M p0 k) = 0 then 0 else (M 2 (((4 * (nI k)) + p0).toNatClampNeg))
def sp_L_turnover_j69s0 (M : Nat → Nat → Int32) (p0 : Int32) (k : Nat) : Int32 := if (sp_L_turnover_j21s0 M p0 k) = 0 then 0 else (M 1 (((4 * (nI k)) + 3).toNatClampNeg))
def sp_L_turnover_j96s0 (M : Nat → Nat → Int32) (p0 : Int32) (k : Nat) : Int32 := if (M 1 ((4 * (nI k)).toNatClampNeg)) = 1 then (if (M 1 (((4 * (nI k)) + 2).toNatClampNeg)) = p0 then (M 1 (((4 * (nI k)) + 3).toNatClampNeg)) else 0) else 0
def sp_L_turnover_L6 (M : Nat → Nat → Int32) (p0 : Int32) : Nat → Int32
  | 0 => 0
  | k + 1 => (((sp_L_turnover_L6 M p0 k) + (sp_L_turnover_j47s0 M p0 k)) - (sp_L_turnover_j69s0 M p0 k)) + (sp_L_turnover_j96s0 M p0 k)
def sp_L_turnover (M : Nat → Nat → Int32) (n : Nat) (p0 : Int32) : Int32 := sp_L_turnover_L6 M p0 n
set_option maxHeartbeats 4000000 in
set_option maxRecDepth 100000 in
theorem c_L_turnover (l : Launch) (D : va_G) (K : Nat → ClassId) (oa : Nat → Nat) (M : Nat → Nat → Int32) (n : Nat) (p0 : Int32) (hn : M 0 0 = nI n) (hn8 : n ≤ 8) (hb4 : vp_in p0 4) : PU l yL_turnover wsL_turnover 0 0 D K [.int p0, .ref (oa 0), .ref (oa 1), .ref (oa 2)] (fun H => va_P D vwCl (aW K oa M) H) (.int (sp_L_turnover M n p0)) := by
  refine Met.ofW (cc := cL_turnover) (maxL := 7) (ret := (some .int)) (by decide) rfl ?_
  intro p e s m args below meth c s₁ B hml hv
  obtain ⟨rfl, hP, hK, hE⟩ := hv
  have hx := B.exec
  have hb := B.bytes
  have hr := B.returns
  have hts := atoms_spec (ws := wsL_turnover) B.pre
  have hown : s.vm.findClass RL = some m.cls := findClass_of_methodNamed B.named
  have hlocks := B.notSynchronized
  have hc : CallFix p m c cL_turnover 7 s ([.int p0, .ref (oa 0), .ref (oa 1), .ref (oa 2)] : List Value).toArray wsL_turnover RL := ⟨hx, hb, hml, hown, hts⟩
  have hP : va_P D vwCl (aW K oa M) s.heap := hP
  have hl := lv_entry ([.int p0, .ref (oa 0), .ref (oa 1), .ref (oa 2)]) (n := 7) (Nat.le_of_ble_eq_true rfl)
  rw [lg_entry_eq]
  generalize (lg_sl ([.int p0, .ref (oa 0), .ref (oa 1), .ref (oa 2)]) ++ List.replicate (7 - (lg_sl ([.int p0, .ref (oa 0), .ref (oa 1), .ref (oa 2)])).length) Slot.unset).toArray = ls at hl ⊢
  have hl : lv_has ls 7 [(0, .int p0), (1, .ref (oa 0)), (2, .ref (oa 1)), (3, .ref (oa 2))] := hl
  refine lv_iconst (v := 0) hx hb dL_turnover_0 (by decide) ?_
  refine lv_istore (lv' := [(4, .int 0), (0, .int p0), (1, .ref (oa 0)), (2, .ref (oa 1)), (3, .ref (oa 2))]) hx hb dL_turnover_1 hl (by decide) rfl (fun ls hl => ?_)
  refine lv_iconst (v := 0) hx hb dL_turnover_3 (by decide) ?_
  refine lv_istore (lv' := [(5, .int 0), (4, .int 0), (0, .int p0), (1, .ref (oa 0)), (2, .ref (oa 1)), (3, .ref (oa 2))]) hx hb dL_turnover_4 hl (by decide) rfl (fun ls hl => ?_)
  have hloop_6 : ∀ (n6 k : Nat), k ≤ n → n + 1 ≤ k + n6 → ∀ (a6_4 x6 : Int32) (ls : Array Slot), a6_4 = sp_L_turnover_L6 M p0 k → x6 = nI k → lv_has ls 7 [(0, .int p0), (1, .ref (oa 0)), (2, .ref (oa 1)), (3, .ref (oa 2)), (4, .int a6_4), (5, .int x6)] → W p l e ({ frames := 0, cells := 0, slots := 0, locals := 0 } : Room) s m ([.int p0, .ref (oa 0), .ref (oa 1), .ref (oa 2)] : List Value).toArray below meth c s.heap [] 0 0 (MQ below (QcV (.int (sp_L_turnover M n p0))) ([.int p0, .ref (oa 0), .ref (oa 1), .ref (oa 2)] : List Value).toArray s 0 0 (fun _ => False)) (F0 m 6 ls []) := by
    intro n6
    induction n6 with
    | zero => intro k h1 h2; exact absurd h2 (by omega)
    | succ n6 ih_6 =>
      intro k hk_6 hn_6 a6_4 x6 ls ea6_4 ex6 hl
      subst ea6_4
      subst ex6
      refine lv_iload hx hb dL_turnover_6 (lv_at hl 5 rfl) ?_
      refine lv_aload_n hx hb dL_turnover_8 rfl (lv_at hl 1 rfl) ?_
      refine lv_iconst (v := 0) hx hb dL_turnover_9 (by decide) ?_
      refine va_iald hx hb hK hP 0 0 (cA := K 0) rfl rfl ((show vp_in 0 7 from vp_in_nI (n := 0) (by decide) (by decide))) dL_turnover_10 ?_
      refine W.eq (g2 := F0 m 11 ls [.int (M 0 0), .int (nI k)]) rfl ?_
      refine W.eq (g2 := F0 m 11 ls [.int (M 0 0), .int (nI k)]) rfl ?_
      refine lv_icmp_ge (tgt := 132) hx hb dL_turnover_11 (by decide) (fun c_11 => ?_) (fun c_11 => ?_)
      · skip
        have hke_6 : n = k := (lp_end hn c_11 hk_6 (by omega)).symm
        subst hke_6
        refine lv_iload hx hb dL_turnover_132 (lv_at hl 4 rfl) ?_
        exact pu_iret hx hb hr hlocks dL_turnover_134 (Eq.symm (rfl))
      · skip
        have hlt_6 : k < n := lp_in hn c_11 hk_6 (by omega)
        refine lv_aload_n hx hb dL_turnover_14 rfl (lv_at hl 2 rfl) ?_
        refine lv_iconst (v := 4) hx hb dL_turnover_15 (by decide) ?_
        refine lv_iload hx hb dL_turnover_16 (lv_at hl 5 rfl) ?_
        refine lv_imul hx hb dL_turnover_18 ?_
        refine va_iald hx hb hK hP 1 0 (cA := K 0) rfl rfl (i40 (vp_in_nI (Nat.lt_of_lt_of_le hlt_6 hn8) (by decide))) dL_turnover_19 ?_
        refine lv_iconst (v := 1) hx hb dL_turnover_20 (by decide) ?_
        have hj_21 : ∀ (v21_0 : Int32) (ls : Array Slot), v21_0 = sp_L_turnover_j21s0 M p0 k → lv_has ls 7 [(0, .int p0), (1, .ref (oa 0)), (2, .ref (oa 1)), (3, .ref (oa 2)), (4, .int (sp_L_turnover_L6 M p0 k)), (5, .int (nI k))] → W p l e ({ frames := 0, cells := 0, slots := 0, locals := 0 } : Room) s m ([.int p0, .ref (oa 0), .ref (oa 1), .ref (oa 2)] : List Value).toArray below meth c s.heap [] 0 0 (MQ below (QcV (.int (sp_L_turnover M n p0))) ([.int p0, .ref (oa 0), .ref (oa 1), .ref (oa 2)] : List Value).toArray s 0 0 (fun _ => False)) (F0 m 41 ls [.int v21_0]) := by
          intro v21_0 ls ev21_0 hl
          subst ev21_0
          refine lv_istore (lv' := [(6, .int (sp_L_turnover_j21s0 M p0 k)), (0, .int p0), (1, .ref (oa 0)), (2, .ref (oa 1)), (3, .ref (oa 2)), (4, .int (sp_L_turnover_L6 M p0 k)), (5, .int (nI k))]) hx hb dL_turnover_41 hl (by decide) rfl (fun ls hl => ?_)
          refine lv_iload hx hb dL_turnover_43 (lv_at hl 5 rfl) ?_
          refine lv_iload hx hb dL_turnover_45 (lv_at hl 0 rfl) ?_
          have hj_47 : ∀ (v47_0 : Int32) (ls : Array Slot), v47_0 = sp_L_turnover_j47s0 M p0 k → lv_has ls 7 [(0, .int p0), (1, .ref (oa 0)), (2, .ref (oa 1)), (3, .ref (oa 2)), (4, .int (sp_L_turnover_L6 M p0 k)), (5, .int (nI k)), (6, .int (sp_L_turnover_j21s0 M p0 k))] → W p l e ({ frames := 0, cells := 0, slots := 0, locals := 0 } : Room) s m ([.int p0, .ref (oa 0), .ref (oa 1), .ref (oa 2)] : List Value).toArray below meth c s.heap [] 0 0 (MQ below (QcV (.int (sp_L_turnover M n p0))) ([.int p0, .ref (oa 0), .ref (oa 1), .ref (oa 2)] : List Value).toArray s 0 0 (fun _ => False)) (F0 m 62 ls [.int v47_0, .int (sp_L_turnover_L6 M p0 k)]) := by
            intro v47_0 ls ev47_0 hl
            subst ev47_0
            refine lv_iadd hx hb dL_turnover_62 ?_
            refine lv_istore (lv' := [(4, .int ((sp_L_turnover_L6 M p0 k) + (sp_L_turnover_j47s0 M p0 k))), (0, .int p0), (1, .ref (oa 0)), (2, .ref (oa 1)), (3, .ref (oa 2)), (5, .int (nI k)), (6, .int (sp_L_turnover_j21s0 M p0 k))]) hx hb dL_turnover_63 hl (by decide) rfl (fun ls hl => ?_)
            refine lv_iload hx hb dL_turnover_65 (lv_at hl 0 rfl) ?_
            refine lv_iload hx hb dL_turnover_67 (lv_at hl 6 rfl) ?_
            have hj_69 : ∀ (v69_0 : Int32) (ls : Array Slot), v69_0 = sp_L_turnover_j69s0 M p0 k → lv_has ls 7 [(0, .int p0), (1, .ref (oa 0)), (2, .ref (oa 1)), (3, .ref (oa 2)), (4, .int ((sp_L_turnover_L6 M p0 k) + (sp_L_turnover_j47s0 M p0 k))), (5, .int (nI k)), (6, .int (sp_L_turnover_j21s0 M p0 k))] → W p l e ({ frames := 0, cells := 0, slots := 0, locals := 0 } : Room) s m ([.int p0, .ref (oa 0), .ref (oa 1), .ref (oa 2)] : List Value).toArray below meth c s.heap [] 0 0 (MQ below (QcV (.int (sp_L_turnover M n p0))) ([.int p0, .ref (oa 0), .ref (oa 1), .ref (oa 2)] : List Value).toArray s 0 0 (fun _ => False)) (F0 m 84 ls [.int v69_0, .int ((sp_L_turnover_L6 M p0 k) + (sp_L_turnover_j47s0 M p0 k))]) := by
              intro v69_0 ls ev69_0 hl
              subst ev69_0
              refine lv_isub hx hb dL_turnover_84 ?_
              refine lv_istore (lv' := [(4, .int (((sp_L_turnover_L6 M p0 k) + (sp_L_turnover_j47s0 M p0 k)) - (sp_L_turnover_j69s0 M p0 k))), (0, .int p0), (1, .ref (oa 0)), (2, .ref (oa 1)), (3, .ref (oa 2)), (5, .int (nI k)), (6, .int (sp_L_turnover_j21s0 M p0 k))]) hx hb dL_turnover_85 hl (by decide) rfl (fun ls hl => ?_)
              refine lv_iload hx hb dL_turnover_87 (lv_at hl 0 rfl) ?_
              refine lv_aload_n hx hb dL_turnover_89 rfl (lv_at hl 3 rfl) ?_
              refine lv_iconst (v := 4) hx hb dL_turnover_90 (by decide) ?_
              refine lv_iload hx hb dL_turnover_91 (lv_at hl 5 rfl) ?_
              refine lv_imul hx hb dL_turnover_93 ?_
              refine va_iald hx hb hK hP 1 0 (cA := K 0) rfl rfl (i40 (vp_in_nI (Nat.lt_of_lt_of_le hlt_6 hn8) (by decide))) dL_turnover_94 ?_
              refine W.eq (g2 := F0 m 95 ls [.int (M 1 ((4 * (nI k)).toNatClampNeg)), .int (((sp_L_turnover_L6 M p0 k) + (sp_L_turnover_j47s0 M p0 k)) - (sp_L_turnover_j69s0 M p0 k))]) rfl ?_
              refine lv_iconst (v := 1) hx hb dL_turnover_95 (by decide) ?_
              have hj_96 : ∀ (v96_0 : Int32) (ls : Array Slot), v96_0 = sp_L_turnover_j96s0 M p0 k → lv_has ls 7 [(0, .int p0), (1, .ref (oa 0)), (2, .ref (oa 1)), (3, .ref (oa 2)), (4, .int (((sp_L_turnover_L6 M p0 k) + (sp_L_turnover_j47s0 M p0 k)) - (sp_L_turnover_j69s0 M p0 k))), (5, .int (nI k)), (6, .int (sp_L_turnover_j21s0 M p0 k))] → W p l e ({ frames := 0, cells := 0, slots := 0, locals := 0 } : Room) s m ([.int p0, .ref (oa 0), .ref (oa 1), .ref (oa 2)] : List Value).toArray below meth c s.heap [] 0 0 (MQ below (QcV (.int (sp_L_turnover M n p0))) ([.int p0, .ref (oa 0), .ref (oa 1), .ref (oa 2)] : List Value).toArray s 0 0 (fun _ => False)) (F0 m 123 ls [.int v96_0, .int (((sp_L_turnover_L6 M p0 k) + (sp_L_turnover_j47s0 M p0 k)) - (sp_L_turnover_j69s0 M p0 k))]) := by
                intro v96_0 ls ev96_0 hl
                subst ev96_0
                refine lv_iadd hx hb dL_turnover_123 ?_
                refine lv_istore (lv' := [(4, .int ((((sp_L_turnover_L6 M p0 k) + (sp_L_turnover_j47s0 M p0 k)) - (sp_L_turnover_j69s0 M p0 k)) + (sp_L_turnover_j96s0 M p0 k))), (0, .int p0), (1, .ref (oa 0)), (2, .ref (oa 1)), (3, .ref (oa 2)), (5, .int (nI k)), (6, .int (sp_L_turnover_j21s0 M p0 k))]) hx hb dL_turnover_124 hl (by decide) rfl (fun ls hl => ?_)
                refine lv_iinc (v := (nI k) + 1) (lv' := [(5, .int ((nI k) + 1)), (4, .int ((((sp_L_turnover_L6 M p0 k) + (sp_L_turnover_j47s0 M p0 k)) - (sp_L_turnover_j69s0 M p0 k)) + (sp_L_turnover_j96s0 M p0 k))), (0, .int p0), (1, .ref (oa 0)), (2, .ref (oa 1)), (3, .ref (oa 2)), (6, .int (sp_L_turnover_j21s0 M p0 k))]) hx hb dL_turnover_126 hl (k := 5) rfl (rfl) (by decide) rfl (fun ls hl => ?_)
                refine lv_goto (tgt := 6) hx hb dL_turnover_129 (by decide) ?_
                exact ih_6 (k + 1) hlt_6 (by omega) _ _ ls (Eq.symm (rfl)) (nI_1 k) (lv_sub hl [2, 3, 4, 5, 1, 0] rfl)
              refine lv_icmp_ne (tgt := 122) hx hb dL_turnover_96 (by decide) (fun c_96 => ?_) (fun c_96 => ?_)
              · skip
                refine lv_iconst (v := 0) hx hb dL_turnover_122 (by decide) ?_
                exact hj_96 _ ls (Eq.symm (Eq.trans (if_neg c_96) (rfl))) (lv_sub hl [1, 2, 3, 4, 0, 5, 6] rfl)
              · skip
                refine lv_aload_n hx hb dL_turnover_99 rfl (lv_at hl 3 rfl) ?_
                refine lv_iconst (v := 4) hx hb dL_turnover_100 (by decide) ?_
                refine lv_iload hx hb dL_turnover_101 (lv_at hl 5 rfl) ?_
                refine lv_imul hx hb dL_turnover_103 ?_
                refine lv_iconst (v := 2) hx hb dL_turnover_104 (by decide) ?_
                refine lv_iadd hx hb dL_turnover_105 ?_
                refine va_iald hx hb hK hP 1 0 (cA := K 0) rfl rfl (i4 (vp_in_nI (Nat.lt_of_lt_of_le hlt_6 hn8) (by decide)) (show vp_in 2 4 from vp_in_nI (n := 2) (by decide) (by decide))) dL_turnover_106 ?_
                refine W.eq (g2 := F0 m 107 ls [.int (M 1 (((4 * (nI k)) + 2).toNatClampNeg)), .int (((sp_L_turnover_L6 M p0 k) + (sp_L_turnover_j47s0 M p0 k)) - (sp_L_turnover_j69s0 M p0 k))]) rfl ?_
                refine lv_iload_n hx hb dL_turnover_107 rfl (lv_at hl 1 rfl) ?_
                refine lv_icmp_ne (tgt := 122) hx hb dL_turnover_108 (by decide) (fun c_108 => ?_) (fun c_108 => ?_)
                · skip
                  refine lv_iconst (v := 0) hx hb dL_turnover_122 (by decide) ?_
                  exact hj_96 _ ls (Eq.symm (Eq.trans (if_pos c_96) (Eq.trans (if_neg c_108) (rfl)))) (lv_sub hl [1, 2, 3, 4, 0, 5, 6] rfl)
                · skip
                  refine lv_aload_n hx hb dL_turnover_111 rfl (lv_at hl 3 rfl) ?_
                  refine lv_iconst (v := 4) hx hb dL_turnover_112 (by decide) ?_
                  refine lv_iload hx hb dL_turnover_113 (lv_at hl 5 rfl) ?_
                  refine lv_imul hx hb dL_turnover_115 ?_
                  refine lv_iconst (v := 3) hx hb dL_turnover_116 (by decide) ?_
                  refine lv_iadd hx hb dL_turnover_117 ?_
                  refine W.eq (g2 := F0 m 118 ls [.int ((4 * (nI k)) + 3), .ref (oa 1), .int (((sp_L_turnover_L6 M p0 k) + (sp_L_turnover_j47s0 M p0 k)) - (sp_L_turnover_j69s0 M p0 k))]) rfl ?_
                  refine va_iald hx hb hK hP 1 0 (cA := K 0) rfl rfl (i4 (vp_in_nI (Nat.lt_of_lt_of_le hlt_6 hn8) (by decide)) (show vp_in 3 4 from vp_in_nI (n := 3) (by decide) (by decide))) dL_turnover_118 ?_
                  refine lv_goto (tgt := 123) hx hb dL_turnover_119 (by decide) ?_
                  exact hj_96 _ ls (Eq.symm (Eq.trans (if_pos c_96) (Eq.trans (if_pos c_108) (rfl)))) (lv_sub hl [1, 2, 3, 4, 0, 5, 6] rfl)
            refine lv_if_eq (tgt := 83) hx hb dL_turnover_69 (by decide) (fun c_69 => ?_) (fun c_69 => ?_)
            · skip
              refine lv_iconst (v := 0) hx hb dL_turnover_83 (by decide) ?_
              exact hj_69 _ ls (Eq.symm (Eq.trans (if_pos c_69) (rfl))) (lv_sub hl [1, 2, 3, 4, 0, 5, 6] rfl)
            · skip
              refine lv_aload_n hx hb dL_turnover_72 rfl (lv_at hl 3 rfl) ?_
              refine lv_iconst (v := 4) hx hb dL_turnover_73 (by decide) ?_
              refine lv_iload hx hb dL_turnover_74 (lv_at hl 5 rfl) ?_
              refine lv_imul hx hb dL_turnover_76 ?_
              refine lv_iconst (v := 3) hx hb dL_turnover_77 (by decide) ?_
              refine lv_iadd hx hb dL_turnover_78 ?_
              refine va_iald hx hb hK hP 1 0 (cA := K 0) rfl rfl (i4 (vp_in_nI (Nat.lt_of_lt_of_le hlt_6 hn8) (by decide)) (show vp_in 3 4 from vp_in_nI (n := 3) (by decide) (by decide))) dL_turnover_79 ?_
              refine W.eq (g2 := F0 m 80 ls [.int (M 1 (((4 * (nI k)) + 3).toNatClampNeg)), .int ((sp_L_turnover_L6 M p0 k) + (sp_L_turnover_j47s0 M p0 k))]) rfl ?_
              refine lv_goto (tgt := 84) hx hb dL_turnover_80 (by decide) ?_
              exact hj_69 _ ls (Eq.symm (Eq.trans (if_neg c_69) (rfl))) (lv_sub hl [1, 2, 3, 4, 0, 5, 6] rfl)
          refine lv_if_eq (tgt := 61) hx hb dL_turnover_47 (by decide) (fun c_47 => ?_) (fun c_47 => ?_)
          · skip
            refine lv_iconst (v := 0) hx hb dL_turnover_61 (by decide) ?_
            exact hj_47 _ ls (Eq.symm (Eq.trans (if_pos c_47) (rfl))) (lv_sub hl [1, 2, 3, 4, 5, 6, 0] rfl)
          · skip
            refine lv_aload_n hx hb dL_turnover_50 rfl (lv_at hl 4 rfl) ?_
            refine lv_iconst (v := 4) hx hb dL_turnover_51 (by decide) ?_
            refine lv_iload hx hb dL_turnover_52 (lv_at hl 6 rfl) ?_
            refine lv_imul hx hb dL_turnover_54 ?_
            refine lv_iload_n hx hb dL_turnover_55 rfl (lv_at hl 1 rfl) ?_
            refine lv_iadd hx hb dL_turnover_56 ?_
            refine va_iald hx hb hK hP 2 0 (cA := K 0) rfl rfl (i4 (vp_in_nI (Nat.lt_of_lt_of_le hlt_6 hn8) (by decide)) hb4) dL_turnover_57 ?_
            refine W.eq (g2 := F0 m 58 ls [.int (M 2 (((4 * (nI k)) + p0).toNatClampNeg)), .int (sp_L_turnover_L6 M p0 k)]) rfl ?_
            refine lv_goto (tgt := 62) hx hb dL_turnover_58 (by decide) ?_
            exact hj_47 _ ls (Eq.symm (Eq.trans (if_neg c_47) (rfl))) (lv_sub hl [1, 2, 3, 4, 5, 6, 0] rfl)
        refine lv_icmp_ne (tgt := 40) hx hb dL_turnover_21 (by decide) (fun c_21 => ?_) (fun c_21 => ?_)
        · skip
          refine lv_iconst (v := 0) hx hb dL_turnover_40 (by decide) ?_
          exact hj_21 _ ls (Eq.symm (Eq.trans (if_neg c_21) (rfl))) (lv_sub hl [0, 1, 2, 3, 4, 5] rfl)
        · skip
          refine lv_aload_n hx hb dL_turnover_24 rfl (lv_at hl 2 rfl) ?_
          refine lv_iconst (v := 4) hx hb dL_turnover_25 (by decide) ?_
          refine lv_iload hx hb dL_turnover_26 (lv_at hl 5 rfl) ?_
          refine lv_imul hx hb dL_turnover_28 ?_
          refine lv_iconst (v := 1) hx hb dL_turnover_29 (by decide) ?_
          refine lv_iadd hx hb dL_turnover_30 ?_
          refine va_iald hx hb hK hP 1 0 (cA := K 0) rfl rfl (i4 (vp_in_nI (Nat.lt_of_lt_of_le hlt_6 hn8) (by decide)) (show vp_in 1 4 from vp_in_nI (n := 1) (by decide) (by decide))) dL_turnover_31 ?_
          refine W.eq (g2 := F0 m 32 ls [.int (M 1 (((4 * (nI k)) + 1).toNatClampNeg))]) rfl ?_
          refine lv_iload_n hx hb dL_turnover_32 rfl (lv_at hl 0 rfl) ?_
          refine lv_icmp_ne (tgt := 40) hx hb dL_turnover_33 (by decide) (fun c_33 => ?_) (fun c_33 => ?_)
          · skip
            refine lv_iconst (v := 0) hx hb dL_turnover_40 (by decide) ?_
            exact hj_21 _ ls (Eq.symm (Eq.trans (if_pos c_21) (Eq.trans (if_neg c_33) (rfl)))) (lv_sub hl [0, 1, 2, 3, 4, 5] rfl)
          · skip
            refine lv_iconst (v := 1) hx hb dL_turnover_36 (by decide) ?_
            refine lv_goto (tgt := 41) hx hb dL_turnover_37 (by decide) ?_
            exact hj_21 _ ls (Eq.symm (Eq.trans (if_pos c_21) (Eq.trans (if_pos c_33) (rfl)))) (lv_sub hl [0, 1, 2, 3, 4, 5] rfl)
  exact hloop_6 (n + 1) 0 (Nat.zero_le _) (by omega) _ _ ls rfl nI_0.symm (lv_sub hl [2, 3, 4, 5, 1, 0] rfl)

theorem wo_a {k : Nat} (hk : k < 23) (h1 : ¬ (nI (k + 1) - nI (k + 1) / 10 * 10) ≤ nI (k + 1) / 10) (h2 : ¬ 4 ≤ (nI (k + 1) - nI (k + 1) / 10 * 10)) : vp_in (nI (k + 1) / 10) 4 ∧ vp_in (nI (k + 1) - nI (k + 1) / 10 * 10) 4 := by
  have h : ∀ k : Fin 23, ¬ 4 ≤ (nI (k.val + 1) - nI (k.val + 1) / 10 * 10) → ¬ (nI (k.val + 1) / 10 < 0 ∨ 4 ≤ (nI (k.val + 1) / 10).toNatClampNeg) ∧ ¬ (nI (k.val + 1) - nI (k.val + 1) / 10 * 10 < 0 ∨ 4 ≤ (nI (k.val + 1) - nI (k.val + 1) / 10 * 10).toNatClampNeg) := by decide +kernel
  exact h ⟨k, hk⟩ h2

def sp_L_worst_j34s0 (M : Nat → Nat → Int32) (n : Nat) (k : Nat) : Int32 := if ((nI (k + 1)) - (nI (k + 1)) / 10 * 10) ≤ ((nI (k + 1)) / 10) then 0 else (if 4 ≤ ((nI (k + 1)) - (nI (k + 1)) / 10 * 10) then 0 else (sp_L_suspicion M n ((nI (k + 1)) / 10) ((nI (k + 1)) - (nI (k + 1)) / 10 * 10)))
def sp_L_worst_L9 (M : Nat → Nat → Int32) (n : Nat) : Nat → Int32 × Int32
  | 0 => ((-1), 0)
  | k + 1 => if (sp_L_worst_j34s0 M n k) ≤ ((sp_L_worst_L9 M n k).2) then (((sp_L_worst_L9 M n k).1, (sp_L_worst_L9 M n k).2)) else ((nI (k + 1), sp_L_worst_j34s0 M n k))
def sp_L_worst (M : Nat → Nat → Int32) (n : Nat) : Int32 := (sp_L_worst_L9 M n 23).1
set_option maxHeartbeats 4000000 in
set_option maxRecDepth 100000 in
theorem c_L_worst (l : Launch) (D : va_G) (K : Nat → ClassId) (oa : Nat → Nat) (M : Nat → Nat → Int32) (n : Nat) (hn : M 0 0 = nI n) (hn8 : n ≤ 8) : PU l yL_worst wsL_worst 3 82 D K [.ref (oa 0), .ref (oa 1), .ref (oa 2), .ref (oa 3)] (fun H => va_P D vwCl (aW K oa M) H) (.int (sp_L_worst M n)) := by
  refine Met.ofW (cc := cL_worst) (maxL := 10) (ret := (some .int)) (by decide) rfl ?_
  intro p e s m args below meth c s₁ B hml hv
  obtain ⟨rfl, hP, hK, hE⟩ := hv
  have hx := B.exec
  have hb := B.bytes
  have hr := B.returns
  have hts := atoms_spec (ws := wsL_worst) B.pre
  have hown : s.vm.findClass RL = some m.cls := findClass_of_methodNamed B.named
  have hlocks := B.notSynchronized
  have hc : CallFix p m c cL_worst 10 s ([.ref (oa 0), .ref (oa 1), .ref (oa 2), .ref (oa 3)] : List Value).toArray wsL_worst RL := ⟨hx, hb, hml, hown, hts⟩
  have hP : va_P D vwCl (aW K oa M) s.heap := hP
  have hl := lv_entry ([.ref (oa 0), .ref (oa 1), .ref (oa 2), .ref (oa 3)]) (n := 10) (Nat.le_of_ble_eq_true rfl)
  rw [lg_entry_eq]
  generalize (lg_sl ([.ref (oa 0), .ref (oa 1), .ref (oa 2), .ref (oa 3)]) ++ List.replicate (10 - (lg_sl ([.ref (oa 0), .ref (oa 1), .ref (oa 2), .ref (oa 3)])).length) Slot.unset).toArray = ls at hl ⊢
  have hl : lv_has ls 10 [(0, .ref (oa 0)), (1, .ref (oa 1)), (2, .ref (oa 2)), (3, .ref (oa 3))] := hl
  refine lv_iconst (v := -1) hx hb dL_worst_0 (by decide) ?_
  refine lv_istore (lv' := [(4, .int (-1)), (0, .ref (oa 0)), (1, .ref (oa 1)), (2, .ref (oa 2)), (3, .ref (oa 3))]) hx hb dL_worst_1 hl (by decide) rfl (fun ls hl => ?_)
  refine lv_iconst (v := 0) hx hb dL_worst_3 (by decide) ?_
  refine lv_istore (lv' := [(5, .int 0), (4, .int (-1)), (0, .ref (oa 0)), (1, .ref (oa 1)), (2, .ref (oa 2)), (3, .ref (oa 3))]) hx hb dL_worst_4 hl (by decide) rfl (fun ls hl => ?_)
  refine lv_iconst (v := 1) hx hb dL_worst_6 (by decide) ?_
  refine lv_istore (lv' := [(6, .int 1), (5, .int 0), (4, .int (-1)), (0, .ref (oa 0)), (1, .ref (oa 1)), (2, .ref (oa 2)), (3, .ref (oa 3))]) hx hb dL_worst_7 hl (by decide) rfl (fun ls hl => ?_)
  have hloop_9 : ∀ (n9 k : Nat), k ≤ 23 → 23 + 1 ≤ k + n9 → ∀ (a9_4 a9_5 x9 : Int32) (ls : Array Slot), a9_4 = (sp_L_worst_L9 M n k).1 → a9_5 = (sp_L_worst_L9 M n k).2 → x9 = nI (k + 1) → lv_has ls 10 [(0, .ref (oa 0)), (1, .ref (oa 1)), (2, .ref (oa 2)), (3, .ref (oa 3)), (4, .int a9_4), (5, .int a9_5), (6, .int x9)] → W p l e ({ frames := 3, cells := 0, slots := 0, locals := 82 } : Room) s m ([.ref (oa 0), .ref (oa 1), .ref (oa 2), .ref (oa 3)] : List Value).toArray below meth c s.heap [] 0 0 (MQ below (QcV (.int (sp_L_worst M n))) ([.ref (oa 0), .ref (oa 1), .ref (oa 2), .ref (oa 3)] : List Value).toArray s 0 0 (fun _ => False)) (F0 m 9 ls []) := by
    intro n9
    induction n9 with
    | zero => intro k h1 h2; exact absurd h2 (by omega)
    | succ n9 ih_9 =>
      intro k hk_9 hn_9 a9_4 a9_5 x9 ls ea9_4 ea9_5 ex9 hl
      subst ea9_4
      subst ea9_5
      subst ex9
      refine lv_iload hx hb dL_worst_9 (lv_at hl 6 rfl) ?_
      refine lv_bipush (v := 24) hx hb dL_worst_11 (by decide) ?_
      refine W.eq (g2 := F0 m 13 ls [.int 24, .int (nI (k + 1))]) rfl ?_
      refine lv_icmp_ge (tgt := 98) hx hb dL_worst_13 (by decide) (fun c_13 => ?_) (fun c_13 => ?_)
      · skip
        have hke_9 : 23 = k := by have := lp_end (N := 24) rfl c_13 (by omega) (by decide); omega
        subst hke_9
        refine lv_iload hx hb dL_worst_98 (lv_at hl 4 rfl) ?_
        exact pu_iret hx hb hr hlocks dL_worst_100 (Eq.symm (rfl))
      · skip
        have hlt_9 : k < 23 := by have := lp_in (N := 24) rfl c_13 (by omega) (by decide); omega
        refine lv_iload hx hb dL_worst_16 (lv_at hl 6 rfl) ?_
        refine lv_bipush (v := 10) hx hb dL_worst_18 (by decide) ?_
        refine lv_idiv hx hb dL_worst_20 (by decide) ?_
        refine lv_istore (lv' := [(7, .int ((nI (k + 1)) / 10)), (0, .ref (oa 0)), (1, .ref (oa 1)), (2, .ref (oa 2)), (3, .ref (oa 3)), (4, .int ((sp_L_worst_L9 M n k).1)), (5, .int ((sp_L_worst_L9 M n k).2)), (6, .int (nI (k + 1)))]) hx hb dL_worst_21 hl (by decide) rfl (fun ls hl => ?_)
        refine lv_iload hx hb dL_worst_23 (lv_at hl 7 rfl) ?_
        refine lv_bipush (v := 10) hx hb dL_worst_25 (by decide) ?_
        refine lv_irem hx hb dL_worst_27 (by decide) ?_
        refine W.eq (g2 := F0 m 28 ls [.int ((nI (k + 1)) - (nI (k + 1)) / 10 * 10)]) rfl ?_
        refine lv_istore (lv' := [(8, .int ((nI (k + 1)) - (nI (k + 1)) / 10 * 10)), (7, .int ((nI (k + 1)) / 10)), (0, .ref (oa 0)), (1, .ref (oa 1)), (2, .ref (oa 2)), (3, .ref (oa 3)), (4, .int ((sp_L_worst_L9 M n k).1)), (5, .int ((sp_L_worst_L9 M n k).2)), (6, .int (nI (k + 1)))]) hx hb dL_worst_28 hl (by decide) rfl (fun ls hl => ?_)
        refine lv_iload hx hb dL_worst_30 (lv_at hl 1 rfl) ?_
        refine lv_iload hx hb dL_worst_32 (lv_at hl 0 rfl) ?_
        have hj_34 : ∀ (v34_0 : Int32) (ls : Array Slot), v34_0 = sp_L_worst_j34s0 M n k → lv_has ls 10 [(0, .ref (oa 0)), (1, .ref (oa 1)), (2, .ref (oa 2)), (3, .ref (oa 3)), (4, .int ((sp_L_worst_L9 M n k).1)), (5, .int ((sp_L_worst_L9 M n k).2)), (6, .int (nI (k + 1))), (7, .int ((nI (k + 1)) / 10)), (8, .int ((nI (k + 1)) - (nI (k + 1)) / 10 * 10))] → W p l e ({ frames := 3, cells := 0, slots := 0, locals := 82 } : Room) s m ([.ref (oa 0), .ref (oa 1), .ref (oa 2), .ref (oa 3)] : List Value).toArray below meth c s.heap [] 0 0 (MQ below (QcV (.int (sp_L_worst M n))) ([.ref (oa 0), .ref (oa 1), .ref (oa 2), .ref (oa 3)] : List Value).toArray s 0 0 (fun _ => False)) (F0 m 58 ls [.int v34_0]) := by
          intro v34_0 ls ev34_0 hl
          subst ev34_0
          refine lv_istore (lv' := [(9, .int (sp_L_worst_j34s0 M n k)), (0, .ref (oa 0)), (1, .ref (oa 1)), (2, .ref (oa 2)), (3, .ref (oa 3)), (4, .int ((sp_L_worst_L9 M n k).1)), (5, .int ((sp_L_worst_L9 M n k).2)), (6, .int (nI (k + 1))), (7, .int ((nI (k + 1)) / 10)), (8, .int ((nI (k + 1)) - (nI (k + 1)) / 10 * 10))]) hx hb dL_worst_58 hl (by decide) rfl (fun ls hl => ?_)
          refine lv_iload hx hb dL_worst_60 (lv_at hl 0 rfl) ?_
          refine lv_iload hx hb dL_worst_62 (lv_at hl 6 rfl) ?_
          refine lv_icmp_le (tgt := 72) hx hb dL_worst_64 (by decide) (fun c_64 => ?_) (fun c_64 => ?_)
          · skip
            refine lv_iload hx hb dL_worst_72 (lv_at hl 5 rfl) ?_
            refine lv_istore (lv' := [(4, .int ((sp_L_worst_L9 M n k).1)), (9, .int (sp_L_worst_j34s0 M n k)), (0, .ref (oa 0)), (1, .ref (oa 1)), (2, .ref (oa 2)), (3, .ref (oa 3)), (5, .int ((sp_L_worst_L9 M n k).2)), (6, .int (nI (k + 1))), (7, .int ((nI (k + 1)) / 10)), (8, .int ((nI (k + 1)) - (nI (k + 1)) / 10 * 10))]) hx hb dL_worst_74 hl (by decide) rfl (fun ls hl => ?_)
            refine lv_iload hx hb dL_worst_76 (lv_at hl 1 rfl) ?_
            refine lv_iload hx hb dL_worst_78 (lv_at hl 6 rfl) ?_
            have hj_80 : ∀ (ls : Array Slot), lv_has ls 10 [(0, .ref (oa 0)), (1, .ref (oa 1)), (2, .ref (oa 2)), (3, .ref (oa 3)), (4, .int ((sp_L_worst_L9 M n k).1)), (5, .int ((sp_L_worst_L9 M n k).2)), (6, .int (nI (k + 1))), (7, .int ((nI (k + 1)) / 10)), (8, .int ((nI (k + 1)) - (nI (k + 1)) / 10 * 10)), (9, .int (sp_L_worst_j34s0 M n k))] → W p l e ({ frames := 3, cells := 0, slots := 0, locals := 82 } : Room) s m ([.ref (oa 0), .ref (oa 1), .ref (oa 2), .ref (oa 3)] : List Value).toArray below meth c s.heap [] 0 0 (MQ below (QcV (.int (sp_L_worst M n))) ([.ref (oa 0), .ref (oa 1), .ref (oa 2), .ref (oa 3)] : List Value).toArray s 0 0 (fun _ => False)) (F0 m 90 ls [.int ((sp_L_worst_L9 M n k).2)]) := by
              intro ls hl
              refine lv_istore (lv' := [(5, .int ((sp_L_worst_L9 M n k).2)), (0, .ref (oa 0)), (1, .ref (oa 1)), (2, .ref (oa 2)), (3, .ref (oa 3)), (4, .int ((sp_L_worst_L9 M n k).1)), (6, .int (nI (k + 1))), (7, .int ((nI (k + 1)) / 10)), (8, .int ((nI (k + 1)) - (nI (k + 1)) / 10 * 10)), (9, .int (sp_L_worst_j34s0 M n k))]) hx hb dL_worst_90 hl (by decide) rfl (fun ls hl => ?_)
              refine lv_iinc (v := (nI (k + 1)) + 1) (lv' := [(6, .int ((nI (k + 1)) + 1)), (5, .int ((sp_L_worst_L9 M n k).2)), (0, .ref (oa 0)), (1, .ref (oa 1)), (2, .ref (oa 2)), (3, .ref (oa 3)), (4, .int ((sp_L_worst_L9 M n k).1)), (7, .int ((nI (k + 1)) / 10)), (8, .int ((nI (k + 1)) - (nI (k + 1)) / 10 * 10)), (9, .int (sp_L_worst_j34s0 M n k))]) hx hb dL_worst_92 hl (k := 6) rfl (rfl) (by decide) rfl (fun ls hl => ?_)
              refine lv_goto (tgt := 9) hx hb dL_worst_95 (by decide) ?_
              exact ih_9 (k + 1) hlt_9 (by omega) _ _ _ ls (congrArg Prod.fst (Eq.symm (Eq.trans (if_pos c_64) (rfl)))) (congrArg Prod.snd (Eq.symm (Eq.trans (if_pos c_64) (rfl)))) (nI_1 (k + 1)) (lv_sub hl [2, 3, 4, 5, 6, 1, 0] rfl)
            refine lv_icmp_le (tgt := 88) hx hb dL_worst_80 (by decide) (fun c_80 => ?_) (fun c_80 => ?_)
            · skip
              refine lv_iload hx hb dL_worst_88 (lv_at hl 6 rfl) ?_
              exact hj_80 ls (lv_sub hl [2, 3, 4, 5, 0, 6, 7, 8, 9, 1] rfl)
            · skip
              exact absurd c_64 c_80
          · skip
            refine lv_iload hx hb dL_worst_67 (lv_at hl 7 rfl) ?_
            refine lv_goto (tgt := 74) hx hb dL_worst_69 (by decide) ?_
            refine lv_istore (lv' := [(4, .int (nI (k + 1))), (9, .int (sp_L_worst_j34s0 M n k)), (0, .ref (oa 0)), (1, .ref (oa 1)), (2, .ref (oa 2)), (3, .ref (oa 3)), (5, .int ((sp_L_worst_L9 M n k).2)), (6, .int (nI (k + 1))), (7, .int ((nI (k + 1)) / 10)), (8, .int ((nI (k + 1)) - (nI (k + 1)) / 10 * 10))]) hx hb dL_worst_74 hl (by decide) rfl (fun ls hl => ?_)
            refine lv_iload hx hb dL_worst_76 (lv_at hl 1 rfl) ?_
            refine lv_iload hx hb dL_worst_78 (lv_at hl 6 rfl) ?_
            have hj_80 : ∀ (ls : Array Slot), lv_has ls 10 [(0, .ref (oa 0)), (1, .ref (oa 1)), (2, .ref (oa 2)), (3, .ref (oa 3)), (4, .int (nI (k + 1))), (5, .int ((sp_L_worst_L9 M n k).2)), (6, .int (nI (k + 1))), (7, .int ((nI (k + 1)) / 10)), (8, .int ((nI (k + 1)) - (nI (k + 1)) / 10 * 10)), (9, .int (sp_L_worst_j34s0 M n k))] → W p l e ({ frames := 3, cells := 0, slots := 0, locals := 82 } : Room) s m ([.ref (oa 0), .ref (oa 1), .ref (oa 2), .ref (oa 3)] : List Value).toArray below meth c s.heap [] 0 0 (MQ below (QcV (.int (sp_L_worst M n))) ([.ref (oa 0), .ref (oa 1), .ref (oa 2), .ref (oa 3)] : List Value).toArray s 0 0 (fun _ => False)) (F0 m 90 ls [.int (sp_L_worst_j34s0 M n k)]) := by
              intro ls hl
              refine lv_istore (lv' := [(5, .int (sp_L_worst_j34s0 M n k)), (0, .ref (oa 0)), (1, .ref (oa 1)), (2, .ref (oa 2)), (3, .ref (oa 3)), (4, .int (nI (k + 1))), (6, .int (nI (k + 1))), (7, .int ((nI (k + 1)) / 10)), (8, .int ((nI (k + 1)) - (nI (k + 1)) / 10 * 10)), (9, .int (sp_L_worst_j34s0 M n k))]) hx hb dL_worst_90 hl (by decide) rfl (fun ls hl => ?_)
              refine lv_iinc (v := (nI (k + 1)) + 1) (lv' := [(6, .int ((nI (k + 1)) + 1)), (5, .int (sp_L_worst_j34s0 M n k)), (0, .ref (oa 0)), (1, .ref (oa 1)), (2, .ref (oa 2)), (3, .ref (oa 3)), (4, .int (nI (k + 1))), (7, .int ((nI (k + 1)) / 10)), (8, .int ((nI (k + 1)) - (nI (k + 1)) / 10 * 10)), (9, .int (sp_L_worst_j34s0 M n k))]) hx hb dL_worst_92 hl (k := 6) rfl (rfl) (by decide) rfl (fun ls hl => ?_)
              refine lv_goto (tgt := 9) hx hb dL_worst_95 (by decide) ?_
              exact ih_9 (k + 1) hlt_9 (by omega) _ _ _ ls (congrArg Prod.fst (Eq.symm (Eq.trans (if_neg c_64) (rfl)))) (congrArg Prod.snd (Eq.symm (Eq.trans (if_neg c_64) (rfl)))) (nI_1 (k + 1)) (lv_sub hl [2, 3, 4, 5, 6, 1, 0] rfl)
            refine lv_icmp_le (tgt := 88) hx hb dL_worst_80 (by decide) (fun c_80 => ?_) (fun c_80 => ?_)
            · skip
              exact absurd c_80 c_64
            · skip
              refine lv_iload hx hb dL_worst_83 (lv_at hl 1 rfl) ?_
              refine lv_goto (tgt := 90) hx hb dL_worst_85 (by decide) ?_
              exact hj_80 ls (lv_sub hl [2, 3, 4, 5, 0, 6, 7, 8, 9, 1] rfl)
        refine lv_icmp_ge (tgt := 57) hx hb dL_worst_34 (by decide) (fun c_34 => ?_) (fun c_34 => ?_)
        · skip
          refine lv_iconst (v := 0) hx hb dL_worst_57 (by decide) ?_
          exact hj_34 _ ls (Eq.symm (Eq.trans (if_pos c_34) (rfl))) (lv_sub hl [2, 3, 4, 5, 6, 7, 8, 1, 0] rfl)
        · skip
          refine lv_iload hx hb dL_worst_37 (lv_at hl 0 rfl) ?_
          refine lv_iconst (v := 4) hx hb dL_worst_39 (by decide) ?_
          refine lv_icmp_ge (tgt := 57) hx hb dL_worst_40 (by decide) (fun c_40 => ?_) (fun c_40 => ?_)
          · skip
            refine lv_iconst (v := 0) hx hb dL_worst_57 (by decide) ?_
            exact hj_34 _ ls (Eq.symm (Eq.trans (if_neg c_34) (Eq.trans (if_pos c_40) (rfl)))) (lv_sub hl [2, 3, 4, 5, 6, 7, 8, 1, 0] rfl)
          · skip
            refine lv_iload hx hb dL_worst_43 (lv_at hl 1 rfl) ?_
            refine lv_iload hx hb dL_worst_45 (lv_at hl 0 rfl) ?_
            refine lv_aload_n hx hb dL_worst_47 rfl (lv_at hl 2 rfl) ?_
            refine lv_aload_n hx hb dL_worst_48 rfl (lv_at hl 3 rfl) ?_
            refine W.eq (g2 := F0 m 49 ls [.ref (oa 1), .ref (oa 0), .int ((nI (k + 1)) - (nI (k + 1)) / 10 * 10), .int ((nI (k + 1)) / 10)]) rfl ?_
            refine lv_aload_n hx hb dL_worst_49 rfl (lv_at hl 4 rfl) ?_
            refine lv_aload_n hx hb dL_worst_50 rfl (lv_at hl 5 rfl) ?_
            refine pu_S (As := [.int ((nI (k + 1)) / 10), .int ((nI (k + 1)) - (nI (k + 1)) / 10 * 10), .ref (oa 0), .ref (oa 1), .ref (oa 2), .ref (oa 3)]) (rest := []) hc (c_L_suspicion l D K oa M n ((nI (k + 1)) / 10) ((nI (k + 1)) - (nI (k + 1)) / 10 * 10) hn hn8 (wo_a hlt_9 c_34 c_40).1 (wo_a hlt_9 c_34 c_40).2) (va_cwS 6 hts gL_worst_L_suspicion rfl rfl rfl (by decide +kernel) ⟨Nat.le_of_ble_eq_true rfl, Nat.le_of_ble_eq_true rfl⟩) hP hK hE rfl rfl hl.1 (Nat.le_of_ble_eq_true rfl) dL_worst_51 ⟨Nat.le_of_ble_eq_true rfl, Nat.le_of_ble_eq_true rfl⟩ ?_
            refine lv_goto (tgt := 58) hx hb dL_worst_54 (by decide) ?_
            exact hj_34 _ ls (Eq.symm (Eq.trans (if_neg c_34) (Eq.trans (if_neg c_40) (rfl)))) (lv_sub hl [2, 3, 4, 5, 6, 7, 8, 1, 0] rfl)
  exact hloop_9 (23 + 1) 0 (Nat.zero_le _) (by omega) _ _ _ ls rfl rfl (show (1 : Int32) = nI (0 + 1) from rfl) (lv_sub hl [3, 4, 5, 6, 2, 1, 0] rfl)

def sp_L_fine_j69s0 (M : Nat → Nat → Int32) (n : Nat) (p0 : Int32) (p1 : Int32) : Int32 := if ((M 4 ((((8 * p0) + 5) + p1).toNatClampNeg)) + (M 4 ((((8 * p0) + 5) + p1).toNatClampNeg))) < (sp_L_bits (M 4 (((8 * p0) + 2).toNatClampNeg))) then (((sp_L_turnover M n (M 4 (((8 * p0) + p1).toNatClampNeg))) / 10) / 2) else 0
def sp_L_fine_j49l8 (M : Nat → Nat → Int32) (n : Nat) (p0 : Int32) (p1 : Int32) : Int32 := if (M 4 (((8 * p0) + 4).toNatClampNeg)) = (M 4 (((8 * p0) + p1).toNatClampNeg)) then (sp_L_fine_j69s0 M n p0 p1) else (if (M 4 ((((8 * p0) + 5) + p1).toNatClampNeg)) ≤ 0 then ((sp_L_turnover M n (M 4 (((8 * p0) + p1).toNatClampNeg))) / 10) else (((sp_L_turnover M n (M 4 (((8 * p0) + p1).toNatClampNeg))) / 10) - (((sp_L_turnover M n (M 4 (((8 * p0) + p1).toNatClampNeg))) / 10) / 4)))
def sp_L_fine_j107s0 (M : Nat → Nat → Int32) (n : Nat) (p0 : Int32) (p1 : Int32) : Int32 := if (M 0 ((3 + (M 4 (((8 * p0) + p1).toNatClampNeg))).toNatClampNeg)) ≤ (sp_L_fine_j49l8 M n p0 p1) then (M 0 ((3 + (M 4 (((8 * p0) + p1).toNatClampNeg))).toNatClampNeg)) else (sp_L_fine_j49l8 M n p0 p1)
def sp_L_fine (M : Nat → Nat → Int32) (n : Nat) (p0 : Int32) (p1 : Int32) : Int32 × (Nat → Nat → Int32) := ((sp_L_fine_j49l8 M n p0 p1) - (sp_L_fine_j107s0 M n p0 p1), um M 0 (upd (M 0) ((3 + (M 4 (((8 * p0) + p1).toNatClampNeg))).toNatClampNeg) ((M 0 ((3 + (M 4 (((8 * p0) + p1).toNatClampNeg))).toNatClampNeg)) - (sp_L_fine_j107s0 M n p0 p1))))
set_option maxHeartbeats 4000000 in
set_option maxRecDepth 100000 in
theorem c_L_fine (l : Launch) (D : va_G) (K : Nat → ClassId) (sz : Nat) (oa : Nat → Nat) (M : Nat → Nat → Int32) (n : Nat) (p0 p1 : Int32) (hn : M 0 0 = nI n) (hn8 : n ≤ 8) (hf : vp_in p0 6) (hs : vp_in p1 2) (hB : vp_in (M 4 ((8 * p0) + p1).toNatClampNeg) 4) : EFi l yL_fine wsL_fine 1 26 D K [.int p0, .int p1, .ref (oa 0), .ref (oa 1), .ref (oa 2), .ref (oa 4)] sz (aW K oa M) (aW K oa ((sp_L_fine M n p0 p1).2)) ((sp_L_fine M n p0 p1).1) := by
  refine Met.ofW (cc := cL_fine) (maxL := 10) (ret := (some .int)) (by decide) rfl ?_
  intro p e s m args below meth c s₁ B hml hv
  obtain ⟨rfl, hsz, hD0, hP, hK, hE⟩ := hv
  have hx := B.exec
  have hb := B.bytes
  have hr := B.returns
  have hts := atoms_spec (ws := wsL_fine) B.pre
  have hown : s.vm.findClass RL = some m.cls := findClass_of_methodNamed B.named
  have hlocks := B.notSynchronized
  have hc : CallFix p m c cL_fine 10 s ([.int p0, .int p1, .ref (oa 0), .ref (oa 1), .ref (oa 2), .ref (oa 4)] : List Value).toArray wsL_fine RL := ⟨hx, hb, hml, hown, hts⟩
  subst hsz
  have hD := hD0.self (sz := s.heap.size)
  generalize hAe : va_A (aW K oa M) s.heap.size = A at hD ⊢
  have hA : ∀ q : Nat, s.heap.size ≤ q → A q := fun q h => by rw [← hAe]; exact Or.inr h
  have hS : va_S A s.heap s.heap [] := va_S.rf
  have hP : va_P D vwCl (aW K oa M) s.heap := hP
  have hl := lv_entry ([.int p0, .int p1, .ref (oa 0), .ref (oa 1), .ref (oa 2), .ref (oa 4)]) (n := 10) (Nat.le_of_ble_eq_true rfl)
  rw [lg_entry_eq]
  generalize (lg_sl ([.int p0, .int p1, .ref (oa 0), .ref (oa 1), .ref (oa 2), .ref (oa 4)]) ++ List.replicate (10 - (lg_sl ([.int p0, .int p1, .ref (oa 0), .ref (oa 1), .ref (oa 2), .ref (oa 4)])).length) Slot.unset).toArray = ls at hl ⊢
  have hl : lv_has ls 10 [(0, .int p0), (1, .int p1), (2, .ref (oa 0)), (3, .ref (oa 1)), (4, .ref (oa 2)), (5, .ref (oa 4))] := hl
  refine lv_aload hx hb dL_fine_0 (lv_at hl 5 rfl) ?_
  refine lv_bipush (v := 8) hx hb dL_fine_2 (by decide) ?_
  refine lv_iload_n hx hb dL_fine_4 rfl (lv_at hl 0 rfl) ?_
  refine lv_imul hx hb dL_fine_5 ?_
  refine lv_iload_n hx hb dL_fine_6 rfl (lv_at hl 1 rfl) ?_
  refine lv_iadd hx hb dL_fine_7 ?_
  refine va_iald hx hb hK hP 4 0 (cA := K 0) rfl rfl (i8 hf (in42 hs)) dL_fine_8 ?_
  refine lv_istore (lv' := [(6, .int (M 4 (((8 * p0) + p1).toNatClampNeg))), (0, .int p0), (1, .int p1), (2, .ref (oa 0)), (3, .ref (oa 1)), (4, .ref (oa 2)), (5, .ref (oa 4))]) hx hb dL_fine_9 hl (by decide) rfl (fun ls hl => ?_)
  refine W.eq (g2 := F0 m 11 ls []) rfl ?_
  refine lv_aload hx hb dL_fine_11 (lv_at hl 6 rfl) ?_
  refine lv_bipush (v := 8) hx hb dL_fine_13 (by decide) ?_
  refine lv_iload_n hx hb dL_fine_15 rfl (lv_at hl 1 rfl) ?_
  refine lv_imul hx hb dL_fine_16 ?_
  refine lv_iconst (v := 5) hx hb dL_fine_17 (by decide) ?_
  refine lv_iadd hx hb dL_fine_18 ?_
  refine lv_iload_n hx hb dL_fine_19 rfl (lv_at hl 2 rfl) ?_
  refine lv_iadd hx hb dL_fine_20 ?_
  refine W.eq (g2 := F0 m 21 ls [.int (((8 * p0) + 5) + p1), .ref (oa 4)]) rfl ?_
  refine va_iald hx hb hK hP 4 0 (cA := K 0) rfl rfl (i85 hf hs) dL_fine_21 ?_
  refine lv_istore (lv' := [(7, .int (M 4 ((((8 * p0) + 5) + p1).toNatClampNeg))), (6, .int (M 4 (((8 * p0) + p1).toNatClampNeg))), (0, .int p0), (1, .int p1), (2, .ref (oa 0)), (3, .ref (oa 1)), (4, .ref (oa 2)), (5, .ref (oa 4))]) hx hb dL_fine_22 hl (by decide) rfl (fun ls hl => ?_)
  refine lv_iload hx hb dL_fine_24 (lv_at hl 1 rfl) ?_
  refine lv_aload_n hx hb dL_fine_26 rfl (lv_at hl 4 rfl) ?_
  refine lv_aload_n hx hb dL_fine_27 rfl (lv_at hl 5 rfl) ?_
  refine lv_aload hx hb dL_fine_28 (lv_at hl 6 rfl) ?_
  refine pu_S (As := [.int (M 4 (((8 * p0) + p1).toNatClampNeg)), .ref (oa 0), .ref (oa 1), .ref (oa 2)]) (rest := []) hc (c_L_turnover l D K oa M n (M 4 (((8 * p0) + p1).toNatClampNeg)) hn hn8 hB) (va_cwS 4 hts gL_fine_L_turnover rfl rfl rfl (by decide +kernel) ⟨Nat.le_of_ble_eq_true rfl, Nat.le_of_ble_eq_true rfl⟩) hP hK hE rfl rfl hl.1 (Nat.le_of_ble_eq_true rfl) dL_fine_30 ⟨Nat.le_of_ble_eq_true rfl, Nat.le_of_ble_eq_true rfl⟩ ?_
  refine lv_bipush (v := 10) hx hb dL_fine_33 (by decide) ?_
  refine W.eq (g2 := F0 m 35 ls [.int 10, .int (sp_L_turnover M n (M 4 (((8 * p0) + p1).toNatClampNeg)))]) rfl ?_
  refine lv_idiv hx hb dL_fine_35 (by decide) ?_
  refine lv_istore (lv' := [(8, .int ((sp_L_turnover M n (M 4 (((8 * p0) + p1).toNatClampNeg))) / 10)), (7, .int (M 4 ((((8 * p0) + 5) + p1).toNatClampNeg))), (6, .int (M 4 (((8 * p0) + p1).toNatClampNeg))), (0, .int p0), (1, .int p1), (2, .ref (oa 0)), (3, .ref (oa 1)), (4, .ref (oa 2)), (5, .ref (oa 4))]) hx hb dL_fine_36 hl (by decide) rfl (fun ls hl => ?_)
  refine lv_aload hx hb dL_fine_38 (lv_at hl 8 rfl) ?_
  refine lv_bipush (v := 8) hx hb dL_fine_40 (by decide) ?_
  refine lv_iload_n hx hb dL_fine_42 rfl (lv_at hl 3 rfl) ?_
  refine lv_imul hx hb dL_fine_43 ?_
  refine lv_iconst (v := 4) hx hb dL_fine_44 (by decide) ?_
  refine lv_iadd hx hb dL_fine_45 ?_
  refine W.eq (g2 := F0 m 46 ls [.int ((8 * p0) + 4), .ref (oa 4)]) rfl ?_
  refine va_iald hx hb hK hP 4 0 (cA := K 0) rfl rfl (i8 hf (show vp_in 4 8 from vp_in_nI (n := 4) (by decide) (by decide))) dL_fine_46 ?_
  refine lv_iload hx hb dL_fine_47 (lv_at hl 2 rfl) ?_
  have hj_49 : ∀ (v49_0 : Int32) (ls : Array Slot), v49_0 = sp_L_fine_j49l8 M n p0 p1 → lv_has ls 10 [(0, .int p0), (1, .int p1), (2, .ref (oa 0)), (3, .ref (oa 1)), (4, .ref (oa 2)), (5, .ref (oa 4)), (6, .int (M 4 (((8 * p0) + p1).toNatClampNeg))), (7, .int (M 4 ((((8 * p0) + 5) + p1).toNatClampNeg))), (8, .int v49_0)] → W p l e ({ frames := 1, cells := 0, slots := 0, locals := 26 } : Room) s m ([.int p0, .int p1, .ref (oa 0), .ref (oa 1), .ref (oa 2), .ref (oa 4)] : List Value).toArray below meth c s.heap [] 0 0 (MQ below (va_Qi (fun r (_ : Unit) => r = (sp_L_fine M n p0 p1).1) (fun _ t => va_P D vwCl (aW K oa ((sp_L_fine M n p0 p1).2)) t.heap ∧ va_D A (aW K oa ((sp_L_fine M n p0 p1).2))) A) ([.int p0, .int p1, .ref (oa 0), .ref (oa 1), .ref (oa 2), .ref (oa 4)] : List Value).toArray s 0 0 A) (F0 m 99 ls []) := by
    intro v49_0 ls ev49_0 hl
    subst ev49_0
    refine lv_iload hx hb dL_fine_99 (lv_at hl 8 rfl) ?_
    refine lv_aload_n hx hb dL_fine_101 rfl (lv_at hl 2 rfl) ?_
    refine lv_iconst (v := 3) hx hb dL_fine_102 (by decide) ?_
    refine lv_iload hx hb dL_fine_103 (lv_at hl 6 rfl) ?_
    refine lv_iadd hx hb dL_fine_105 ?_
    refine va_iald hx hb hK hP 0 0 (cA := K 0) rfl rfl (i3 hB) dL_fine_106 ?_
    have hj_107 : ∀ (v107_0 : Int32) (ls : Array Slot), v107_0 = sp_L_fine_j107s0 M n p0 p1 → lv_has ls 10 [(0, .int p0), (1, .int p1), (2, .ref (oa 0)), (3, .ref (oa 1)), (4, .ref (oa 2)), (5, .ref (oa 4)), (6, .int (M 4 (((8 * p0) + p1).toNatClampNeg))), (7, .int (M 4 ((((8 * p0) + 5) + p1).toNatClampNeg))), (8, .int (sp_L_fine_j49l8 M n p0 p1))] → W p l e ({ frames := 1, cells := 0, slots := 0, locals := 26 } : Room) s m ([.int p0, .int p1, .ref (oa 0), .ref (oa 1), .ref (oa 2), .ref (oa 4)] : List Value).toArray below meth c s.heap [] 0 0 (MQ below (va_Qi (fun r (_ : Unit) => r = (sp_L_fine M n p0 p1).1) (fun _ t => va_P D vwCl (aW K oa ((sp_L_fine M n p0 p1).2)) t.heap ∧ va_D A (aW K oa ((sp_L_fine M n p0 p1).2))) A) ([.int p0, .int p1, .ref (oa 0), .ref (oa 1), .ref (oa 2), .ref (oa 4)] : List Value).toArray s 0 0 A) (F0 m 121 ls [.int v107_0]) := by
      intro v107_0 ls ev107_0 hl
      subst ev107_0
      refine lv_istore (lv' := [(9, .int (sp_L_fine_j107s0 M n p0 p1)), (0, .int p0), (1, .int p1), (2, .ref (oa 0)), (3, .ref (oa 1)), (4, .ref (oa 2)), (5, .ref (oa 4)), (6, .int (M 4 (((8 * p0) + p1).toNatClampNeg))), (7, .int (M 4 ((((8 * p0) + 5) + p1).toNatClampNeg))), (8, .int (sp_L_fine_j49l8 M n p0 p1))]) hx hb dL_fine_121 hl (by decide) rfl (fun ls hl => ?_)
      refine lv_aload_n hx hb dL_fine_123 rfl (lv_at hl 3 rfl) ?_
      refine lv_iconst (v := 3) hx hb dL_fine_124 (by decide) ?_
      refine lv_iload hx hb dL_fine_125 (lv_at hl 7 rfl) ?_
      refine lv_iadd hx hb dL_fine_127 ?_
      refine lv_dup2_11 hx hb dL_fine_128 rfl rfl ?_
      refine va_iald hx hb hK hP 0 0 (cA := K 0) rfl rfl (i3 hB) dL_fine_129 ?_
      refine lv_iload hx hb dL_fine_130 (lv_at hl 0 rfl) ?_
      refine W.eq (g2 := F0 m 132 ls [.int (sp_L_fine_j107s0 M n p0 p1), .int (M 0 ((3 + (M 4 (((8 * p0) + p1).toNatClampNeg))).toNatClampNeg)), .int (3 + (M 4 (((8 * p0) + p1).toNatClampNeg))), .ref (oa 0)]) rfl ?_
      refine lv_isub hx hb dL_fine_132 ?_
      refine va_iast hx hb hK hP hD hS 0 0 (cA := K 0) rfl rfl (i3 hB) dL_fine_133 (fun H locs hP hD hS => ?_)
      have hP : va_P D vwCl [(oa 0, .inl (K 0, 7, .inl (upd (M 0) ((3 + (M 4 (((8 * p0) + p1).toNatClampNeg))).toNatClampNeg) ((M 0 ((3 + (M 4 (((8 * p0) + p1).toNatClampNeg))).toNatClampNeg)) - (sp_L_fine_j107s0 M n p0 p1))))), (oa 1, .inl (K 0, 32, .inl (M 1))), (oa 2, .inl (K 0, 32, .inl (M 2))), (oa 3, .inl (K 0, 8, .inl (M 3))), (oa 4, .inl (K 0, 48, .inl (M 4))), (oa 5, .inl (K 0, 12, .inl (M 5)))] H := hP
      have hD : va_D A [(oa 0, .inl (K 0, 7, .inl (upd (M 0) ((3 + (M 4 (((8 * p0) + p1).toNatClampNeg))).toNatClampNeg) ((M 0 ((3 + (M 4 (((8 * p0) + p1).toNatClampNeg))).toNatClampNeg)) - (sp_L_fine_j107s0 M n p0 p1))))), (oa 1, .inl (K 0, 32, .inl (M 1))), (oa 2, .inl (K 0, 32, .inl (M 2))), (oa 3, .inl (K 0, 8, .inl (M 3))), (oa 4, .inl (K 0, 48, .inl (M 4))), (oa 5, .inl (K 0, 12, .inl (M 5)))] := hD
      refine lv_iload hx hb dL_fine_134 (lv_at hl 9 rfl) ?_
      refine lv_iload hx hb dL_fine_136 (lv_at hl 0 rfl) ?_
      refine lv_isub hx hb dL_fine_138 ?_
      have hPe := (fun (f0 : Nat → Int32) (h : va_P D vwCl [(oa 0, .inl (K 0, 7, .inl f0)), (oa 1, .inl (K 0, 32, .inl (M 1))), (oa 2, .inl (K 0, 32, .inl (M 2))), (oa 3, .inl (K 0, 8, .inl (M 3))), (oa 4, .inl (K 0, 48, .inl (M 4))), (oa 5, .inl (K 0, 12, .inl (M 5)))] H) => (show va_P D vwCl (aW K oa (um M 0 f0)) H from h)) (upd (M 0) ((3 + (M 4 (((8 * p0) + p1).toNatClampNeg))).toNatClampNeg) ((M 0 ((3 + (M 4 (((8 * p0) + p1).toNatClampNeg))).toNatClampNeg)) - (sp_L_fine_j107s0 M n p0 p1))) hP
      have hDe := (fun (f0 : Nat → Int32) (h : va_D A [(oa 0, .inl (K 0, 7, .inl f0)), (oa 1, .inl (K 0, 32, .inl (M 1))), (oa 2, .inl (K 0, 32, .inl (M 2))), (oa 3, .inl (K 0, 8, .inl (M 3))), (oa 4, .inl (K 0, 48, .inl (M 4))), (oa 5, .inl (K 0, 12, .inl (M 5)))]) => (show va_D A (aW K oa (um M 0 f0)) from h)) (upd (M 0) ((3 + (M 4 (((8 * p0) + p1).toNatClampNeg))).toNatClampNeg) ((M 0 ((3 + (M 4 (((8 * p0) + p1).toNatClampNeg))).toNatClampNeg)) - (sp_L_fine_j107s0 M n p0 p1))) hD
      have hsp : sp_L_fine M n p0 p1 = (((sp_L_fine_j49l8 M n p0 p1) - (sp_L_fine_j107s0 M n p0 p1), um M 0 (upd (M 0) ((3 + (M 4 (((8 * p0) + p1).toNatClampNeg))).toNatClampNeg) ((M 0 ((3 + (M 4 (((8 * p0) + p1).toNatClampNeg))).toNatClampNeg)) - (sp_L_fine_j107s0 M n p0 p1)))) : Int32 × (Nat → Nat → Int32)) := rfl
      exact W.iret (v := (sp_L_fine_j49l8 M n p0 p1) - (sp_L_fine_j107s0 M n p0 p1)) hx hb hr (fun t ht hW => ⟨⟨_, (), rfl, by rw [hsp], by dsimp only; rw [ht, hsp]; exact ⟨hPe, hDe⟩⟩, hS.F ht⟩) hS.2.2 dL_fine_139
    refine lv_icmp_ge (tgt := 115) hx hb dL_fine_107 (by decide) (fun c_107 => ?_) (fun c_107 => ?_)
    · skip
      refine lv_aload_n hx hb dL_fine_115 rfl (lv_at hl 2 rfl) ?_
      refine lv_iconst (v := 3) hx hb dL_fine_116 (by decide) ?_
      refine lv_iload hx hb dL_fine_117 (lv_at hl 6 rfl) ?_
      refine lv_iadd hx hb dL_fine_119 ?_
      refine va_iald hx hb hK hP 0 0 (cA := K 0) rfl rfl (i3 hB) dL_fine_120 ?_
      exact hj_107 _ ls (Eq.symm (Eq.trans (if_pos c_107) (rfl))) (lv_sub hl [0, 1, 2, 3, 4, 5, 6, 7, 8] rfl)
    · skip
      refine lv_iload hx hb dL_fine_110 (lv_at hl 8 rfl) ?_
      refine lv_goto (tgt := 121) hx hb dL_fine_112 (by decide) ?_
      exact hj_107 _ ls (Eq.symm (Eq.trans (if_neg c_107) (rfl))) (lv_sub hl [0, 1, 2, 3, 4, 5, 6, 7, 8] rfl)
  refine lv_icmp_ne (tgt := 85) hx hb dL_fine_49 (by decide) (fun c_49 => ?_) (fun c_49 => ?_)
  · skip
    refine lv_iload hx hb dL_fine_85 (lv_at hl 1 rfl) ?_
    refine lv_if_le (tgt := 99) hx hb dL_fine_87 (by decide) (fun c_87 => ?_) (fun c_87 => ?_)
    · skip
      exact hj_49 _ ls (Eq.symm (Eq.trans (if_neg c_49) (Eq.trans (if_pos c_87) (rfl)))) (lv_sub hl [3, 4, 5, 6, 7, 8, 2, 1, 0] rfl)
    · skip
      refine lv_iload hx hb dL_fine_90 (lv_at hl 0 rfl) ?_
      refine lv_iload hx hb dL_fine_92 (lv_at hl 0 rfl) ?_
      refine lv_iconst (v := 4) hx hb dL_fine_94 (by decide) ?_
      refine lv_idiv hx hb dL_fine_95 (by decide) ?_
      refine lv_isub hx hb dL_fine_96 ?_
      refine lv_istore (lv' := [(8, .int (((sp_L_turnover M n (M 4 (((8 * p0) + p1).toNatClampNeg))) / 10) - (((sp_L_turnover M n (M 4 (((8 * p0) + p1).toNatClampNeg))) / 10) / 4))), (7, .int (M 4 ((((8 * p0) + 5) + p1).toNatClampNeg))), (6, .int (M 4 (((8 * p0) + p1).toNatClampNeg))), (0, .int p0), (1, .int p1), (2, .ref (oa 0)), (3, .ref (oa 1)), (4, .ref (oa 2)), (5, .ref (oa 4))]) hx hb dL_fine_97 hl (by decide) rfl (fun ls hl => ?_)
      exact hj_49 _ ls (Eq.symm (Eq.trans (if_neg c_49) (Eq.trans (if_neg c_87) (rfl)))) (lv_sub hl [3, 4, 5, 6, 7, 8, 2, 1, 0] rfl)
  · skip
    refine lv_iload hx hb dL_fine_52 (lv_at hl 1 rfl) ?_
    refine lv_iload hx hb dL_fine_54 (lv_at hl 1 rfl) ?_
    refine lv_iadd hx hb dL_fine_56 ?_
    refine lv_aload hx hb dL_fine_57 (lv_at hl 8 rfl) ?_
    refine lv_bipush (v := 8) hx hb dL_fine_59 (by decide) ?_
    refine lv_iload_n hx hb dL_fine_61 rfl (lv_at hl 3 rfl) ?_
    refine lv_imul hx hb dL_fine_62 ?_
    refine W.eq (g2 := F0 m 63 ls [.int (8 * p0), .ref (oa 4), .int ((M 4 ((((8 * p0) + 5) + p1).toNatClampNeg)) + (M 4 ((((8 * p0) + 5) + p1).toNatClampNeg)))]) rfl ?_
    refine lv_iconst (v := 2) hx hb dL_fine_63 (by decide) ?_
    refine lv_iadd hx hb dL_fine_64 ?_
    refine va_iald hx hb hK hP 4 0 (cA := K 0) rfl rfl (i8 hf (show vp_in 2 8 from vp_in_nI (n := 2) (by decide) (by decide))) dL_fine_65 ?_
    refine pu_S (As := [.int (M 4 (((8 * p0) + 2).toNatClampNeg))]) (rest := [.int ((M 4 ((((8 * p0) + 5) + p1).toNatClampNeg)) + (M 4 ((((8 * p0) + 5) + p1).toNatClampNeg)))]) hc (c_L_bits l D K (M 4 (((8 * p0) + 2).toNatClampNeg))) (va_cwS 1 hts gL_fine_L_bits rfl rfl rfl (by decide +kernel) ⟨Nat.le_of_ble_eq_true rfl, Nat.le_of_ble_eq_true rfl⟩) trivial hK hE rfl rfl hl.1 (Nat.le_of_ble_eq_true rfl) dL_fine_66 ⟨Nat.le_of_ble_eq_true rfl, Nat.le_of_ble_eq_true rfl⟩ ?_
    have hj_69 : ∀ (v69_0 : Int32) (ls : Array Slot), v69_0 = sp_L_fine_j69s0 M n p0 p1 → lv_has ls 10 [(0, .int p0), (1, .int p1), (2, .ref (oa 0)), (3, .ref (oa 1)), (4, .ref (oa 2)), (5, .ref (oa 4)), (6, .int (M 4 (((8 * p0) + p1).toNatClampNeg))), (7, .int (M 4 ((((8 * p0) + 5) + p1).toNatClampNeg))), (8, .int ((sp_L_turnover M n (M 4 (((8 * p0) + p1).toNatClampNeg))) / 10))] → W p l e ({ frames := 1, cells := 0, slots := 0, locals := 26 } : Room) s m ([.int p0, .int p1, .ref (oa 0), .ref (oa 1), .ref (oa 2), .ref (oa 4)] : List Value).toArray below meth c s.heap [] 0 0 (MQ below (va_Qi (fun r (_ : Unit) => r = (sp_L_fine M n p0 p1).1) (fun _ t => va_P D vwCl (aW K oa ((sp_L_fine M n p0 p1).2)) t.heap ∧ va_D A (aW K oa ((sp_L_fine M n p0 p1).2))) A) ([.int p0, .int p1, .ref (oa 0), .ref (oa 1), .ref (oa 2), .ref (oa 4)] : List Value).toArray s 0 0 A) (F0 m 80 ls [.int v69_0]) := by
      intro v69_0 ls ev69_0 hl
      subst ev69_0
      refine lv_istore (lv' := [(8, .int (sp_L_fine_j69s0 M n p0 p1)), (0, .int p0), (1, .int p1), (2, .ref (oa 0)), (3, .ref (oa 1)), (4, .ref (oa 2)), (5, .ref (oa 4)), (6, .int (M 4 (((8 * p0) + p1).toNatClampNeg))), (7, .int (M 4 ((((8 * p0) + 5) + p1).toNatClampNeg)))]) hx hb dL_fine_80 hl (by decide) rfl (fun ls hl => ?_)
      refine lv_goto (tgt := 99) hx hb dL_fine_82 (by decide) ?_
      exact hj_49 _ ls (Eq.symm (Eq.trans (if_pos c_49) (rfl))) (lv_sub hl [1, 2, 3, 4, 5, 6, 7, 8, 0] rfl)
    refine lv_icmp_lt (tgt := 76) hx hb dL_fine_69 (by decide) (fun c_69 => ?_) (fun c_69 => ?_)
    · skip
      refine lv_iload hx hb dL_fine_76 (lv_at hl 0 rfl) ?_
      refine lv_iconst (v := 2) hx hb dL_fine_78 (by decide) ?_
      refine lv_idiv hx hb dL_fine_79 (by decide) ?_
      exact hj_69 _ ls (Eq.symm (Eq.trans (if_pos c_69) (rfl))) (lv_sub hl [3, 4, 5, 6, 7, 8, 2, 1, 0] rfl)
    · skip
      refine lv_iconst (v := 0) hx hb dL_fine_72 (by decide) ?_
      refine lv_goto (tgt := 80) hx hb dL_fine_73 (by decide) ?_
      exact hj_69 _ ls (Eq.symm (Eq.trans (if_neg c_69) (rfl))) (lv_sub hl [3, 4, 5, 6, 7, 8, 2, 1, 0] rfl)
