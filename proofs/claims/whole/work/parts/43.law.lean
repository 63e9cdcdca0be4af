set_option maxHeartbeats 4000000 in
set_option maxRecDepth 100000 in
theorem c_L_open (l : Launch) (hl0 : l.stackTraces = false) (D : va_G) (K : Nat → ClassId) (sz : Nat) (ad : Nat → Nat → Nat) (n d : Nat) (S : Nat → Nat → Nat → Int32) (o : Nat) (f : Nat → Int64) (hDJ : DJ ad n d) (ho : ∀ k i, ad k i ≠ o) : LMet l yL_open wsL_open 7 121 D K [.ref (ad 0 0), .ref o] sz ad o f (fun H => XP D K ad n d S H) ((sp_X2_open n S).1) (((sp_X2_open n S).2.1).toInt64) (fun H => ∃ ad2, XP D K ad2 (n + 1) d ((sp_X2_open n S).2.2) H ∧ DJ ad2 (n + 1) d ∧ ∀ k i, ad2 k i = ad k i ∨ 4 ≤ k ∧ sz ≤ ad2 k i) := by
  refine Met_ofWH (cc := cL_open) (maxL := 3) (ret := some .int) (hh := [(0, 8, 11, 13)]) (by decide) rfl ?_
  intro p e s m args below meth c s₁ B hml hv
  obtain ⟨rfl, ⟨hsz, hZ, hX, hXP, hK, hE⟩, hN, hPo, hK5⟩ := hv
  have hx := B.exec
  have hb := B.bytes
  have hr := B.returns
  have hts := atoms_spec (ws := wsL_open) B.pre
  have hown : s.vm.findClass RL = some m.cls := findClass_of_methodNamed B.named
  have hlocks := B.notSynchronized
  have htab := vx_table (x := yL_open) B (hts _ List.mem_cons_self)
  have hc : CallFix p m c cL_open 3 s ([.ref (ad 0 0), .ref o] : List Value).toArray wsL_open RL := ⟨hx, hb, hml, hown, hts⟩
  subst hsz
  have hol : o < s.heap.size := (hPo 0 _ rfl).lt
  have hox : ¬ XA ad s.heap.size o := fun h => h.elim (fun ⟨k, i, e⟩ => ho k i e) (fun h => by omega)
  have hP := hXP.2.2.1
  have hS : va_S (LA ad o s.heap.size) s.heap s.heap [] := va_S.rf
  have hl := lv_entry ([.ref (ad 0 0), .ref o]) (n := 3) (Nat.le_of_ble_eq_true rfl)
  rw [lg_entry_eq]
  generalize (lg_sl ([.ref (ad 0 0), .ref o]) ++ List.replicate (3 - (lg_sl ([.ref (ad 0 0), .ref o])).length) Slot.unset).toArray = ls at hl ⊢
  have hl : lv_has ls 3 [(0, .ref (ad 0 0)), (1, .ref o)] := hl
  refine lv_aload_n hx hb dL_open_0 rfl (lv_at hl 1 rfl) ?_
  refine lv_iconst (v := 0) hx hb dL_open_1 (by decide) ?_
  refine lv_aload_n hx hb dL_open_2 rfl (lv_at hl 0 rfl) ?_
  refine vx_calli (vx_runV (As := []) (rest := [.int 0, .ref o]) hc (c_X2_open l hl0 D K s.heap.size ad n d S  hDJ) (cwV 0 hts gL_open_X2_open rfl rfl rfl (by decide +kernel) ⟨(Nat.le_of_ble_eq_true rfl), (Nat.le_of_ble_eq_true rfl)⟩) ⟨XPre_blind, va_recv hK hP (ci := 2) (q0 := 0) rfl rfl, XPre_at hXP hK hE hX ⟨vx_Zq.narrow hZ.1 (fun q h => Or.inl h), vx_Zq.narrow hZ.2 (fun q h => Or.inl h)⟩⟩ rfl rfl hl.1 rfl (lv_room (Nat.le_of_ble_eq_true rfl)) dL_open_3 ⟨(Nat.le_of_ble_eq_true rfl), (Nat.le_of_ble_eq_true rfl)⟩) hS (fun q _ h => Or.inl h) (fun q h => Or.inl h) (fun q _ h => Or.inl h) (fun E ce q9 u t H1 locs ht hvm hp hB hz1 hk1 hS hce hcv hcl => ?_) (fun r u t H1 locs ht hvm hp hB hz1 hk1 hS => ?_)
  · have hPo1 : va_P D vwCl (oW K o f) H1 := hPo.kept (fun k q hq => by obtain ⟨x, hx1, ex⟩ : q.1 = o ∧ True ∧ True := by { rcases k with _ | k <;> simp at hq; exact ⟨by rw [← hq], trivial, trivial⟩ }; rw [x]; exact hk1 o hol hox)
    rw [ht] at hB
    obtain ⟨hen, hBx⟩ := hB
    rcases hen with ⟨hcode, rfl⟩ | ⟨hcode, rfl⟩ | ⟨hcode, rfl⟩
    · refine vx_catch (own := RL) (name := "java/lang/IllegalStateException") (E := "java/lang/IllegalStateException") hown (tableOf []) ⟨0, 8, 11, 13⟩ (tableOf []) (by rw [htab]; rfl) ?_ (by decide) (by decide) (hts (.classLink RL 13 "java/lang/IllegalStateException") (by decide +kernel)) (va_Nw.use rfl (hX.2 (.castable "java/lang/IllegalStateException" "java/lang/IllegalStateException") (by decide +kernel))) hce hcv hcl ?_
      · intro z hz
        exact absurd hz List.not_mem_nil
      · refine W.eq (g2 := F0 m 11 ls [.ref q9]) rfl ?_
        refine lv_astore_n (lv' := [(2, .ref q9), (0, .ref (ad 0 0)), (1, .ref o)]) hx hb dL_open_11 rfl hl (by decide) rfl (fun ls hl => ?_)
        refine lv_iconst (v := 1) hx hb dL_open_12 (by decide) ?_
        refine W.widen (k := 4) (n := 60) (Nat.le_of_ble_eq_true rfl) (Nat.le_of_ble_eq_true rfl) ?_
        exact W.iret (v := 1) hx hb hr (fun t9 ht9 hW => ⟨⟨_, (), rfl, hcode.symm, by dsimp only; rw [ht9]; exact Or.inr ⟨by rw [hcode]; decide, hBx, hPo1⟩⟩, hS.F ht9⟩) hS.2.2 dL_open_13
    · exfalso; unfold sp_X2_open at hcode; repeat' split at hcode
      all_goals first | exact absurd (show (0 : Int32) = 2 from hcode) (by decide) | exact absurd (show (1 : Int32) = 2 from hcode) (by decide) | exact absurd (show (2 : Int32) = 2 from hcode) (by decide)
    · exfalso; unfold sp_X2_open at hcode; repeat' split at hcode
      all_goals first | exact absurd (show (0 : Int32) = 3 from hcode) (by decide) | exact absurd (show (1 : Int32) = 3 from hcode) (by decide) | exact absurd (show (2 : Int32) = 3 from hcode) (by decide)
  · obtain ⟨hcode, rfl⟩ := hp
    rw [ht] at hB
    have hPo1 : va_P D vwCl (oW K o f) H1 := hPo.kept (fun k q hq => by obtain ⟨x, hx1, ex⟩ : q.1 = o ∧ True ∧ True := by { rcases k with _ | k <;> simp at hq; exact ⟨by rw [← hq], trivial, trivial⟩ }; rw [x]; exact hk1 o hol hox)
    refine W.eq (g2 := F0 m 6 ls [.int ((sp_X2_open n S).2.1), .int 0, .ref o]) rfl ?_
    refine lv_i2l hx hb dL_open_6 rfl ?_
    refine vo_last (A := LA ad o s.heap.size) hx hb hK5 hPo1 (Or.inr rfl) hS dL_open_7 (fun H9 locs hP9 oq9 hS => ?_)
    refine lv_goto (tgt := 14) hx hb dL_open_8 (by decide) ?_
    refine lv_iconst (v := 0) hx hb dL_open_14 (by decide) ?_
    refine W.widen (k := 4) (n := 60) (Nat.le_of_ble_eq_true rfl) (Nat.le_of_ble_eq_true rfl) ?_
    exact W.iret (v := 0) hx hb hr (fun t9 ht9 hW => ⟨⟨_, (), rfl, hcode.symm, by dsimp only; rw [ht9]; exact Or.inl ⟨hcode, (by obtain ⟨a2, g1, g2, g3⟩ := hB; exact ⟨a2, XP_off (fun k i e9 => (g3 k i).elim (fun z => ho k i (by rw [← z]; exact e9)) (fun z => by rw [e9] at z; omega)) g1 oq9, g2, g3⟩), hP9⟩⟩, hS.F ht9⟩) hS.2.2 dL_open_15

set_option maxHeartbeats 4000000 in
set_option maxRecDepth 100000 in
theorem c_L_bid (l : Launch) (hl0 : l.stackTraces = false) (D : va_G) (K : Nat → ClassId) (sz : Nat) (ad : Nat → Nat → Nat) (n d : Nat) (S : Nat → Nat → Nat → Int32) (o : Nat) (f : Nat → Int64) (p0 p1 p2 : Int32) (hDJ : DJ ad n d) (ho : ∀ k i, ad k i ≠ o) : LMet l yL_bid wsL_bid 7 124 D K [.ref (ad 0 0), .int p0, .int p1, .int p2, .ref o] sz ad o f (fun H => XP D K ad n d S H) ((sp_X2_bid n S p0 p1 p2).1) (((sp_X2_bid n S p0 p1 p2).2.1).toInt64) (fun H => XP D K ad n d ((sp_X2_bid n S p0 p1 p2).2.2) H) := by
  refine Met_ofWH (cc := cL_bid) (maxL := 6) (ret := some .int) (hh := [(0, 12, 15, 19), (0, 12, 19, 21), (0, 12, 23, 13)]) (by decide) rfl ?_
  intro p e s m args below meth c s₁ B hml hv
  obtain ⟨rfl, ⟨hsz, hZ, hX, hXP, hK, hE⟩, hN, hPo, hK5⟩ := hv
  have hx := B.exec
  have hb := B.bytes
  have hr := B.returns
  have hts := atoms_spec (ws := wsL_bid) B.pre
  have hown : s.vm.findClass RL = some m.cls := findClass_of_methodNamed B.named
  have hlocks := B.notSynchronized
  have htab := vx_table (x := yL_bid) B (hts _ List.mem_cons_self)
  have hc : CallFix p m c cL_bid 6 s ([.ref (ad 0 0), .int p0, .int p1, .int p2, .ref o] : List Value).toArray wsL_bid RL := ⟨hx, hb, hml, hown, hts⟩
  subst hsz
  have hol : o < s.heap.size := (hPo 0 _ rfl).lt
  have hox : ¬ XA ad s.heap.size o := fun h => h.elim (fun ⟨k, i, e⟩ => ho k i e) (fun h => by omega)
  have hP := hXP.2.2.1
  have hS : va_S (LA ad o s.heap.size) s.heap s.heap [] := va_S.rf
  have hl := lv_entry ([.ref (ad 0 0), .int p0, .int p1, .int p2, .ref o]) (n := 6) (Nat.le_of_ble_eq_true rfl)
  rw [lg_entry_eq]
  generalize (lg_sl ([.ref (ad 0 0), .int p0, .int p1, .int p2, .ref o]) ++ List.replicate (6 - (lg_sl ([.ref (ad 0 0), .int p0, .int p1, .int p2, .ref o])).length) Slot.unset).toArray = ls at hl ⊢
  have hl : lv_has ls 6 [(0, .ref (ad 0 0)), (1, .int p0), (2, .int p1), (3, .int p2), (4, .ref o)] := hl
  refine lv_aload hx hb dL_bid_0 (lv_at hl 4 rfl) ?_
  refine lv_iconst (v := 0) hx hb dL_bid_2 (by decide) ?_
  refine lv_aload_n hx hb dL_bid_3 rfl (lv_at hl 0 rfl) ?_
  refine lv_iload_n hx hb dL_bid_4 rfl (lv_at hl 1 rfl) ?_
  refine lv_iload_n hx hb dL_bid_5 rfl (lv_at hl 2 rfl) ?_
  refine lv_iload_n hx hb dL_bid_6 rfl (lv_at hl 3 rfl) ?_
  refine vx_calli (vx_runV (As := [.int p0, .int p1, .int p2]) (rest := [.int 0, .ref o]) hc (c_X2_bid l hl0 D K s.heap.size ad n d S p0 p1 p2 hDJ) (cwV 3 hts gL_bid_X2_bid rfl rfl rfl (by decide +kernel) ⟨(Nat.le_of_ble_eq_true rfl), (Nat.le_of_ble_eq_true rfl)⟩) ⟨XPre_blind, va_recv hK hP (ci := 2) (q0 := 0) rfl rfl, XPre_at hXP hK hE hX ⟨vx_Zq.narrow hZ.1 (fun q h => Or.inl h), vx_Zq.narrow hZ.2 (fun q h => Or.inl h)⟩⟩ rfl rfl hl.1 rfl (lv_room (Nat.le_of_ble_eq_true rfl)) dL_bid_7 ⟨(Nat.le_of_ble_eq_true rfl), (Nat.le_of_ble_eq_true rfl)⟩) hS (fun q _ h => Or.inl h) (fun q h => Or.inl h) (fun q _ h => Or.inl h) (fun E ce q9 u t H1 locs ht hvm hp hB hz1 hk1 hS hce hcv hcl => ?_) (fun r u t H1 locs ht hvm hp hB hz1 hk1 hS => ?_)
  · have hPo1 : va_P D vwCl (oW K o f) H1 := hPo.kept (fun k q hq => by obtain ⟨x, hx1, ex⟩ : q.1 = o ∧ True ∧ True := by { rcases k with _ | k <;> simp at hq; exact ⟨by rw [← hq], trivial, trivial⟩ }; rw [x]; exact hk1 o hol hox)
    rw [ht] at hB
    obtain ⟨hen, hBx⟩ := hB
    rcases hen with ⟨hcode, rfl⟩ | ⟨hcode, rfl⟩ | ⟨hcode, rfl⟩
    · refine vx_catch (own := RL) (name := "java/lang/IndexOutOfBoundsException") (E := "java/lang/IndexOutOfBoundsException") hown (tableOf []) ⟨0, 12, 15, 19⟩ (tableOf [(0, 12, 19, 21), (0, 12, 23, 13)]) (by rw [htab]; rfl) ?_ (by decide) (by decide) (hts (.classLink RL 19 "java/lang/IndexOutOfBoundsException") (by decide +kernel)) (va_Nw.use rfl (hX.2 (.castable "java/lang/IndexOutOfBoundsException" "java/lang/IndexOutOfBoundsException") (by decide +kernel))) hce hcv hcl ?_
      · intro z hz
        exact absurd hz List.not_mem_nil
      · refine W.eq (g2 := F0 m 15 ls [.ref q9]) rfl ?_
        refine lv_astore (lv' := [(5, .ref q9), (0, .ref (ad 0 0)), (1, .int p0), (2, .int p1), (3, .int p2), (4, .ref o)]) hx hb dL_bid_15 hl (by decide) rfl (fun ls hl => ?_)
        refine lv_iconst (v := 1) hx hb dL_bid_17 (by decide) ?_
        refine W.widen (k := 4) (n := 60) (Nat.le_of_ble_eq_true rfl) (Nat.le_of_ble_eq_true rfl) ?_
        exact W.iret (v := 1) hx hb hr (fun t9 ht9 hW => ⟨⟨_, (), rfl, hcode.symm, by dsimp only; rw [ht9]; exact Or.inr ⟨by rw [hcode]; decide, hBx, hPo1⟩⟩, hS.F ht9⟩) hS.2.2 dL_bid_18
    · refine vx_catch (own := RL) (name := "java/lang/IllegalArgumentException") (E := "java/lang/IllegalArgumentException") hown (tableOf [(0, 12, 15, 19)]) ⟨0, 12, 19, 21⟩ (tableOf [(0, 12, 23, 13)]) (by rw [htab]; rfl) ?_ (by decide) (by decide) (hts (.classLink RL 21 "java/lang/IllegalArgumentException") (by decide +kernel)) (va_Nw.use rfl (hX.2 (.castable "java/lang/IllegalArgumentException" "java/lang/IllegalArgumentException") (by decide +kernel))) hce hcv hcl ?_
      · intro z hz
        simp only [tableOf, List.map_cons, List.map_nil, List.mem_cons, List.not_mem_nil, or_false] at hz
        rcases hz with rfl
        · exact Or.inr ⟨by decide, "java/lang/IndexOutOfBoundsException", hts (.classLink RL 19 "java/lang/IndexOutOfBoundsException") (by decide +kernel), hN ("java/lang/IllegalArgumentException", "java/lang/IndexOutOfBoundsException") (by decide +kernel)⟩
      · refine W.eq (g2 := F0 m 19 ls [.ref q9]) rfl ?_
        refine lv_astore (lv' := [(5, .ref q9), (0, .ref (ad 0 0)), (1, .int p0), (2, .int p1), (3, .int p2), (4, .ref o)]) hx hb dL_bid_19 hl (by decide) rfl (fun ls hl => ?_)
        refine lv_iconst (v := 2) hx hb dL_bid_21 (by decide) ?_
        refine W.widen (k := 4) (n := 60) (Nat.le_of_ble_eq_true rfl) (Nat.le_of_ble_eq_true rfl) ?_
        exact W.iret (v := 2) hx hb hr (fun t9 ht9 hW => ⟨⟨_, (), rfl, hcode.symm, by dsimp only; rw [ht9]; exact Or.inr ⟨by rw [hcode]; decide, hBx, hPo1⟩⟩, hS.F ht9⟩) hS.2.2 dL_bid_22
    · refine vx_catch (own := RL) (name := "java/lang/IllegalStateException") (E := "java/lang/IllegalStateException") hown (tableOf [(0, 12, 15, 19), (0, 12, 19, 21)]) ⟨0, 12, 23, 13⟩ (tableOf []) (by rw [htab]; rfl) ?_ (by decide) (by decide) (hts (.classLink RL 13 "java/lang/IllegalStateException") (by decide +kernel)) (va_Nw.use rfl (hX.2 (.castable "java/lang/IllegalStateException" "java/lang/IllegalStateException") (by decide +kernel))) hce hcv hcl ?_
      · intro z hz
        simp only [tableOf, List.map_cons, List.map_nil, List.mem_cons, List.not_mem_nil, or_false] at hz
        rcases hz with rfl | rfl
        · exact Or.inr ⟨by decide, "java/lang/IndexOutOfBoundsException", hts (.classLink RL 19 "java/lang/IndexOutOfBoundsException") (by decide +kernel), hN ("java/lang/IllegalStateException", "java/lang/IndexOutOfBoundsException") (by decide +kernel)⟩
        · exact Or.inr ⟨by decide, "java/lang/IllegalArgumentException", hts (.classLink RL 21 "java/lang/IllegalArgumentException") (by decide +kernel), hN ("java/lang/IllegalStateException", "java/lang/IllegalArgumentException") (by decide +kernel)⟩
      · refine W.eq (g2 := F0 m 23 ls [.ref q9]) rfl ?_
        refine lv_astore (lv' := [(5, .ref q9), (0, .ref (ad 0 0)), (1, .int p0), (2, .int p1), (3, .int p2), (4, .ref o)]) hx hb dL_bid_23 hl (by decide) rfl (fun ls hl => ?_)
        refine lv_iconst (v := 3) hx hb dL_bid_25 (by decide) ?_
        refine W.widen (k := 4) (n := 60) (Nat.le_of_ble_eq_true rfl) (Nat.le_of_ble_eq_true rfl) ?_
        exact W.iret (v := 3) hx hb hr (fun t9 ht9 hW => ⟨⟨_, (), rfl, hcode.symm, by dsimp only; rw [ht9]; exact Or.inr ⟨by rw [hcode]; decide, hBx, hPo1⟩⟩, hS.F ht9⟩) hS.2.2 dL_bid_26
  · obtain ⟨hcode, rfl⟩ := hp
    rw [ht] at hB
    have hPo1 : va_P D vwCl (oW K o f) H1 := hPo.kept (fun k q hq => by obtain ⟨x, hx1, ex⟩ : q.1 = o ∧ True ∧ True := by { rcases k with _ | k <;> simp at hq; exact ⟨by rw [← hq], trivial, trivial⟩ }; rw [x]; exact hk1 o hol hox)
    refine W.eq (g2 := F0 m 10 ls [.int ((sp_X2_bid n S p0 p1 p2).2.1), .int 0, .ref o]) rfl ?_
    refine lv_i2l hx hb dL_bid_10 rfl ?_
    refine vo_last (A := LA ad o s.heap.size) hx hb hK5 hPo1 (Or.inr rfl) hS dL_bid_11 (fun H9 locs hP9 oq9 hS => ?_)
    refine lv_goto (tgt := 27) hx hb dL_bid_12 (by decide) ?_
    refine lv_iconst (v := 0) hx hb dL_bid_27 (by decide) ?_
    refine W.widen (k := 4) (n := 60) (Nat.le_of_ble_eq_true rfl) (Nat.le_of_ble_eq_true rfl) ?_
    exact W.iret (v := 0) hx hb hr (fun t9 ht9 hW => ⟨⟨_, (), rfl, hcode.symm, by dsimp only; rw [ht9]; exact Or.inl ⟨hcode, XP_off ho hB oq9, hP9⟩⟩, hS.F ht9⟩) hS.2.2 dL_bid_28

set_option maxHeartbeats 4000000 in
set_option maxRecDepth 100000 in
theorem c_L_withdraw (l : Launch) (hl0 : l.stackTraces = false) (D : va_G) (K : Nat → ClassId) (sz : Nat) (ad : Nat → Nat → Nat) (n d : Nat) (S : Nat → Nat → Nat → Int32) (o : Nat) (f : Nat → Int64) (p0 p1 : Int32) (hDJ : DJ ad n d) (ho : ∀ k i, ad k i ≠ o) : LMet l yL_withdraw wsL_withdraw 7 123 D K [.ref (ad 0 0), .int p0, .int p1, .ref o] sz ad o f (fun H => XP D K ad n d S H) ((sp_X2_withdraw n S p0 p1).1) (((sp_X2_withdraw n S p0 p1).2.1).toInt64) (fun H => XP D K ad n d ((sp_X2_withdraw n S p0 p1).2.2) H) := by
  refine Met_ofWH (cc := cL_withdraw) (maxL := 5) (ret := some .int) (hh := [(0, 10, 13, 19), (0, 10, 17, 21), (0, 10, 21, 13)]) (by decide) rfl ?_
  intro p e s m args below meth c s₁ B hml hv
  obtain ⟨rfl, ⟨hsz, hZ, hX, hXP, hK, hE⟩, hN, hPo, hK5⟩ := hv
  have hx := B.exec
  have hb := B.bytes
  have hr := B.returns
  have hts := atoms_spec (ws := wsL_withdraw) B.pre
  have hown : s.vm.findClass RL = some m.cls := findClass_of_methodNamed B.named
  have hlocks := B.notSynchronized
  have htab := vx_table (x := yL_withdraw) B (hts _ List.mem_cons_self)
  have hc : CallFix p m c cL_withdraw 5 s ([.ref (ad 0 0), .int p0, .int p1, .ref o] : List Value).toArray wsL_withdraw RL := ⟨hx, hb, hml, hown, hts⟩
  subst hsz
  have hol : o < s.heap.size := (hPo 0 _ rfl).lt
  have hox : ¬ XA ad s.heap.size o := fun h => h.elim (fun ⟨k, i, e⟩ => ho k i e) (fun h => by omega)
  have hP := hXP.2.2.1
  have hS : va_S (LA ad o s.heap.size) s.heap s.heap [] := va_S.rf
  have hl := lv_entry ([.ref (ad 0 0), .int p0, .int p1, .ref o]) (n := 5) (Nat.le_of_ble_eq_true rfl)
  rw [lg_entry_eq]
  generalize (lg_sl ([.ref (ad 0 0), .int p0, .int p1, .ref o]) ++ List.replicate (5 - (lg_sl ([.ref (ad 0 0), .int p0, .int p1, .ref o])).length) Slot.unset).toArray = ls at hl ⊢
  have hl : lv_has ls 5 [(0, .ref (ad 0 0)), (1, .int p0), (2, .int p1), (3, .ref o)] := hl
  refine lv_aload_n hx hb dL_withdraw_0 rfl (lv_at hl 3 rfl) ?_
  refine lv_iconst (v := 0) hx hb dL_withdraw_1 (by decide) ?_
  refine lv_aload_n hx hb dL_withdraw_2 rfl (lv_at hl 0 rfl) ?_
  refine lv_iload_n hx hb dL_withdraw_3 rfl (lv_at hl 1 rfl) ?_
  refine lv_iload_n hx hb dL_withdraw_4 rfl (lv_at hl 2 rfl) ?_
  refine vx_calli (vx_runV (As := [.int p0, .int p1]) (rest := [.int 0, .ref o]) hc (c_X2_withdraw l hl0 D K s.heap.size ad n d S p0 p1 hDJ) (cwV 2 hts gL_withdraw_X2_withdraw rfl rfl rfl (by decide +kernel) ⟨(Nat.le_of_ble_eq_true rfl), (Nat.le_of_ble_eq_true rfl)⟩) ⟨XPre_blind, va_recv hK hP (ci := 2) (q0 := 0) rfl rfl, XPre_at hXP hK hE hX ⟨vx_Zq.narrow hZ.1 (fun q h => Or.inl h), vx_Zq.narrow hZ.2 (fun q h => Or.inl h)⟩⟩ rfl rfl hl.1 rfl (lv_room (Nat.le_of_ble_eq_true rfl)) dL_withdraw_5 ⟨(Nat.le_of_ble_eq_true rfl), (Nat.le_of_ble_eq_true rfl)⟩) hS (fun q _ h => Or.inl h) (fun q h => Or.inl h) (fun q _ h => Or.inl h) (fun E ce q9 u t H1 locs ht hvm hp hB hz1 hk1 hS hce hcv hcl => ?_) (fun r u t H1 locs ht hvm hp hB hz1 hk1 hS => ?_)
  · have hPo1 : va_P D vwCl (oW K o f) H1 := hPo.kept (fun k q hq => by obtain ⟨x, hx1, ex⟩ : q.1 = o ∧ True ∧ True := by { rcases k with _ | k <;> simp at hq; exact ⟨by rw [← hq], trivial, trivial⟩ }; rw [x]; exact hk1 o hol hox)
    rw [ht] at hB
    obtain ⟨hen, hBx⟩ := hB
    rcases hen with ⟨hcode, rfl⟩ | ⟨hcode, rfl⟩ | ⟨hcode, rfl⟩
    · refine vx_catch (own := RL) (name := "java/lang/IndexOutOfBoundsException") (E := "java/lang/IndexOutOfBoundsException") hown (tableOf []) ⟨0, 10, 13, 19⟩ (tableOf [(0, 10, 17, 21), (0, 10, 21, 13)]) (by rw [htab]; rfl) ?_ (by decide) (by decide) (hts (.classLink RL 19 "java/lang/IndexOutOfBoundsException") (by decide +kernel)) (va_Nw.use rfl (hX.2 (.castable "java/lang/IndexOutOfBoundsException" "java/lang/IndexOutOfBoundsException") (by decide +kernel))) hce hcv hcl ?_
      · intro z hz
        exact absurd hz List.not_mem_nil
      · refine W.eq (g2 := F0 m 13 ls [.ref q9]) rfl ?_
        refine lv_astore (lv' := [(4, .ref q9), (0, .ref (ad 0 0)), (1, .int p0), (2, .int p1), (3, .ref o)]) hx hb dL_withdraw_13 hl (by decide) rfl (fun ls hl => ?_)
        refine lv_iconst (v := 1) hx hb dL_withdraw_15 (by decide) ?_
        refine W.widen (k := 4) (n := 60) (Nat.le_of_ble_eq_true rfl) (Nat.le_of_ble_eq_true rfl) ?_
        exact W.iret (v := 1) hx hb hr (fun t9 ht9 hW => ⟨⟨_, (), rfl, hcode.symm, by dsimp only; rw [ht9]; exact Or.inr ⟨by rw [hcode]; decide, hBx, hPo1⟩⟩, hS.F ht9⟩) hS.2.2 dL_withdraw_16
    · refine vx_catch (own := RL) (name := "java/lang/IllegalArgumentException") (E := "java/lang/IllegalArgumentException") hown (tableOf [(0, 10, 13, 19)]) ⟨0, 10, 17, 21⟩ (tableOf [(0, 10, 21, 13)]) (by rw [htab]; rfl) ?_ (by decide) (by decide) (hts (.classLink RL 21 "java/lang/IllegalArgumentException") (by decide +kernel)) (va_Nw.use rfl (hX.2 (.castable "java/lang/IllegalArgumentException" "java/lang/IllegalArgumentException") (by decide +kernel))) hce hcv hcl ?_
      · intro z hz
        simp only [tableOf, List.map_cons, List.map_nil, List.mem_cons, List.not_mem_nil, or_false] at hz
        rcases hz with rfl
        · exact Or.inr ⟨by decide, "java/lang/IndexOutOfBoundsException", hts (.classLink RL 19 "java/lang/IndexOutOfBoundsException") (by decide +kernel), hN ("java/lang/IllegalArgumentException", "java/lang/IndexOutOfBoundsException") (by decide +kernel)⟩
      · refine W.eq (g2 := F0 m 17 ls [.ref q9]) rfl ?_
        refine lv_astore (lv' := [(4, .ref q9), (0, .ref (ad 0 0)), (1, .int p0), (2, .int p1), (3, .ref o)]) hx hb dL_withdraw_17 hl (by decide) rfl (fun ls hl => ?_)
        refine lv_iconst (v := 2) hx hb dL_withdraw_19 (by decide) ?_
        refine W.widen (k := 4) (n := 60) (Nat.le_of_ble_eq_true rfl) (Nat.le_of_ble_eq_true rfl) ?_
        exact W.iret (v := 2) hx hb hr (fun t9 ht9 hW => ⟨⟨_, (), rfl, hcode.symm, by dsimp only; rw [ht9]; exact Or.inr ⟨by rw [hcode]; decide, hBx, hPo1⟩⟩, hS.F ht9⟩) hS.2.2 dL_withdraw_20
    · refine vx_catch (own := RL) (name := "java/lang/IllegalStateException") (E := "java/lang/IllegalStateException") hown (tableOf [(0, 10, 13, 19), (0, 10, 17, 21)]) ⟨0, 10, 21, 13⟩ (tableOf []) (by rw [htab]; rfl) ?_ (by decide) (by decide) (hts (.classLink RL 13 "java/lang/IllegalStateException") (by decide +kernel)) (va_Nw.use rfl (hX.2 (.castable "java/lang/IllegalStateException" "java/lang/IllegalStateException") (by decide +kernel))) hce hcv hcl ?_
      · intro z hz
        simp only [tableOf, List.map_cons, List.map_nil, List.mem_cons, List.not_mem_nil, or_false] at hz
        rcases hz with rfl | rfl
        · exact Or.inr ⟨by decide, "java/lang/IndexOutOfBoundsException", hts (.classLink RL 19 "java/lang/IndexOutOfBoundsException") (by decide +kernel), hN ("java/lang/IllegalStateException", "java/lang/IndexOutOfBoundsException") (by decide +kernel)⟩
        · exact Or.inr ⟨by decide, "java/lang/IllegalArgumentException", hts (.classLink RL 21 "java/lang/IllegalArgumentException") (by decide +kernel), hN ("java/lang/IllegalStateException", "java/lang/IllegalArgumentException") (by decide +kernel)⟩
      · refine W.eq (g2 := F0 m 21 ls [.ref q9]) rfl ?_
        refine lv_astore (lv' := [(4, .ref q9), (0, .ref (ad 0 0)), (1, .int p0), (2, .int p1), (3, .ref o)]) hx hb dL_withdraw_21 hl (by decide) rfl (fun ls hl => ?_)
        refine lv_iconst (v := 3) hx hb dL_withdraw_23 (by decide) ?_
        refine W.widen (k := 4) (n := 60) (Nat.le_of_ble_eq_true rfl) (Nat.le_of_ble_eq_true rfl) ?_
        exact W.iret (v := 3) hx hb hr (fun t9 ht9 hW => ⟨⟨_, (), rfl, hcode.symm, by dsimp only; rw [ht9]; exact Or.inr ⟨by rw [hcode]; decide, hBx, hPo1⟩⟩, hS.F ht9⟩) hS.2.2 dL_withdraw_24
  · obtain ⟨hcode, rfl⟩ := hp
    rw [ht] at hB
    have hPo1 : va_P D vwCl (oW K o f) H1 := hPo.kept (fun k q hq => by obtain ⟨x, hx1, ex⟩ : q.1 = o ∧ True ∧ True := by { rcases k with _ | k <;> simp at hq; exact ⟨by rw [← hq], trivial, trivial⟩ }; rw [x]; exact hk1 o hol hox)
    refine W.eq (g2 := F0 m 8 ls [.int ((sp_X2_withdraw n S p0 p1).2.1), .int 0, .ref o]) rfl ?_
    refine lv_i2l hx hb dL_withdraw_8 rfl ?_
    refine vo_last (A := LA ad o s.heap.size) hx hb hK5 hPo1 (Or.inr rfl) hS dL_withdraw_9 (fun H9 locs hP9 oq9 hS => ?_)
    refine lv_goto (tgt := 25) hx hb dL_withdraw_10 (by decide) ?_
    refine lv_iconst (v := 0) hx hb dL_withdraw_25 (by decide) ?_
    refine W.widen (k := 4) (n := 60) (Nat.le_of_ble_eq_true rfl) (Nat.le_of_ble_eq_true rfl) ?_
    exact W.iret (v := 0) hx hb hr (fun t9 ht9 hW => ⟨⟨_, (), rfl, hcode.symm, by dsimp only; rw [ht9]; exact Or.inl ⟨hcode, XP_off ho hB oq9, hP9⟩⟩, hS.F ht9⟩) hS.2.2 dL_withdraw_26

set_option maxHeartbeats 4000000 in
set_option maxRecDepth 100000 in
theorem c_L_award (l : Launch) (hl0 : l.stackTraces = false) (D : va_G) (K : Nat → ClassId) (sz : Nat) (ad : Nat → Nat → Nat) (n d : Nat) (S : Nat → Nat → Nat → Int32) (o : Nat) (f : Nat → Int64) (p0 : Int32) (hDJ : DJ ad n d) (ho : ∀ k i, ad k i ≠ o) : LMet l yL_award wsL_award 7 122 D K [.ref (ad 0 0), .int p0, .ref o] sz ad o f (fun H => XP D K ad n d S H) ((sp_X2_award n S p0).1) (((sp_X2_award n S p0).2.1).toInt64) (fun H => XP D K ad n d ((sp_X2_award n S p0).2.2) H) := by
  refine Met_ofWH (cc := cL_award) (maxL := 4) (ret := some .int) (hh := [(0, 9, 12, 19), (0, 9, 15, 13)]) (by decide) rfl ?_
  intro p e s m args below meth c s₁ B hml hv
  obtain ⟨rfl, ⟨hsz, hZ, hX, hXP, hK, hE⟩, hN, hPo, hK5⟩ := hv
  have hx := B.exec
  have hb := B.bytes
  have hr := B.returns
  have hts := atoms_spec (ws := wsL_award) B.pre
  have hown : s.vm.findClass RL = some m.cls := findClass_of_methodNamed B.named
  have hlocks := B.notSynchronized
  have htab := vx_table (x := yL_award) B (hts _ List.mem_cons_self)
  have hc : CallFix p m c cL_award 4 s ([.ref (ad 0 0), .int p0, .ref o] : List Value).toArray wsL_award RL := ⟨hx, hb, hml, hown, hts⟩
  subst hsz
  have hol : o < s.heap.size := (hPo 0 _ rfl).lt
  have hox : ¬ XA ad s.heap.size o := fun h => h.elim (fun ⟨k, i, e⟩ => ho k i e) (fun h => by omega)
  have hP := hXP.2.2.1
  have hS : va_S (LA ad o s.heap.size) s.heap s.heap [] := va_S.rf
  have hl := lv_entry ([.ref (ad 0 0), .int p0, .ref o]) (n := 4) (Nat.le_of_ble_eq_true rfl)
  rw [lg_entry_eq]
  generalize (lg_sl ([.ref (ad 0 0), .int p0, .ref o]) ++ List.replicate (4 - (lg_sl ([.ref (ad 0 0), .int p0, .ref o])).length) Slot.unset).toArray = ls at hl ⊢
  have hl : lv_has ls 4 [(0, .ref (ad 0 0)), (1, .int p0), (2, .ref o)] := hl
  refine lv_aload_n hx hb dL_award_0 rfl (lv_at hl 2 rfl) ?_
  refine lv_iconst (v := 0) hx hb dL_award_1 (by decide) ?_
  refine lv_aload_n hx hb dL_award_2 rfl (lv_at hl 0 rfl) ?_
  refine lv_iload_n hx hb dL_award_3 rfl (lv_at hl 1 rfl) ?_
  refine vx_calli (vx_runV (As := [.int p0]) (rest := [.int 0, .ref o]) hc (c_X2_award l hl0 D K s.heap.size ad n d S p0 hDJ) (cwV 1 hts gL_award_X2_award rfl rfl rfl (by decide +kernel) ⟨(Nat.le_of_ble_eq_true rfl), (Nat.le_of_ble_eq_true rfl)⟩) ⟨XPre_blind, va_recv hK hP (ci := 2) (q0 := 0) rfl rfl, XPre_at hXP hK hE hX ⟨vx_Zq.narrow hZ.1 (fun q h => Or.inl h), vx_Zq.narrow hZ.2 (fun q h => Or.inl h)⟩⟩ rfl rfl hl.1 rfl (lv_room (Nat.le_of_ble_eq_true rfl)) dL_award_4 ⟨(Nat.le_of_ble_eq_true rfl), (Nat.le_of_ble_eq_true rfl)⟩) hS (fun q _ h => Or.inl h) (fun q h => Or.inl h) (fun q _ h => Or.inl h) (fun E ce q9 u t H1 locs ht hvm hp hB hz1 hk1 hS hce hcv hcl => ?_) (fun r u t H1 locs ht hvm hp hB hz1 hk1 hS => ?_)
  · have hPo1 : va_P D vwCl (oW K o f) H1 := hPo.kept (fun k q hq => by obtain ⟨x, hx1, ex⟩ : q.1 = o ∧ True ∧ True := by { rcases k with _ | k <;> simp at hq; exact ⟨by rw [← hq], trivial, trivial⟩ }; rw [x]; exact hk1 o hol hox)
    rw [ht] at hB
    obtain ⟨hen, hBx⟩ := hB
    rcases hen with ⟨hcode, rfl⟩ | ⟨hcode, rfl⟩ | ⟨hcode, rfl⟩
    · refine vx_catch (own := RL) (name := "java/lang/IndexOutOfBoundsException") (E := "java/lang/IndexOutOfBoundsException") hown (tableOf []) ⟨0, 9, 12, 19⟩ (tableOf [(0, 9, 15, 13)]) (by rw [htab]; rfl) ?_ (by decide) (by decide) (hts (.classLink RL 19 "java/lang/IndexOutOfBoundsException") (by decide +kernel)) (va_Nw.use rfl (hX.2 (.castable "java/lang/IndexOutOfBoundsException" "java/lang/IndexOutOfBoundsException") (by decide +kernel))) hce hcv hcl ?_
      · intro z hz
        exact absurd hz List.not_mem_nil
      · refine W.eq (g2 := F0 m 12 ls [.ref q9]) rfl ?_
        refine lv_astore_n (lv' := [(3, .ref q9), (0, .ref (ad 0 0)), (1, .int p0), (2, .ref o)]) hx hb dL_award_12 rfl hl (by decide) rfl (fun ls hl => ?_)
        refine lv_iconst (v := 1) hx hb dL_award_13 (by decide) ?_
        refine W.widen (k := 4) (n := 60) (Nat.le_of_ble_eq_true rfl) (Nat.le_of_ble_eq_true rfl) ?_
        exact W.iret (v := 1) hx hb hr (fun t9 ht9 hW => ⟨⟨_, (), rfl, hcode.symm, by dsimp only; rw [ht9]; exact Or.inr ⟨by rw [hcode]; decide, hBx, hPo1⟩⟩, hS.F ht9⟩) hS.2.2 dL_award_14
    · refine vx_catch (own := RL) (name := "java/lang/IllegalStateException") (E := "java/lang/IllegalStateException") hown (tableOf [(0, 9, 12, 19)]) ⟨0, 9, 15, 13⟩ (tableOf []) (by rw [htab]; rfl) ?_ (by decide) (by decide) (hts (.classLink RL 13 "java/lang/IllegalStateException") (by decide +kernel)) (va_Nw.use rfl (hX.2 (.castable "java/lang/IllegalStateException" "java/lang/IllegalStateException") (by decide +kernel))) hce hcv hcl ?_
      · intro z hz
        simp only [tableOf, List.map_cons, List.map_nil, List.mem_cons, List.not_mem_nil, or_false] at hz
        rcases hz with rfl
        · exact Or.inr ⟨by decide, "java/lang/IndexOutOfBoundsException", hts (.classLink RL 19 "java/lang/IndexOutOfBoundsException") (by decide +kernel), hN ("java/lang/IllegalStateException", "java/lang/IndexOutOfBoundsException") (by decide +kernel)⟩
      · refine W.eq (g2 := F0 m 15 ls [.ref q9]) rfl ?_
        refine lv_astore_n (lv' := [(3, .ref q9), (0, .ref (ad 0 0)), (1, .int p0), (2, .ref o)]) hx hb dL_award_15 rfl hl (by decide) rfl (fun ls hl => ?_)
        refine lv_iconst (v := 2) hx hb dL_award_16 (by decide) ?_
        refine W.widen (k := 4) (n := 60) (Nat.le_of_ble_eq_true rfl) (Nat.le_of_ble_eq_true rfl) ?_
        exact W.iret (v := 2) hx hb hr (fun t9 ht9 hW => ⟨⟨_, (), rfl, hcode.symm, by dsimp only; rw [ht9]; exact Or.inr ⟨by rw [hcode]; decide, hBx, hPo1⟩⟩, hS.F ht9⟩) hS.2.2 dL_award_17
    · exfalso; unfold sp_X2_award at hcode; repeat' split at hcode
      all_goals first | exact absurd (show (0 : Int32) = 3 from hcode) (by decide) | exact absurd (show (1 : Int32) = 3 from hcode) (by decide) | exact absurd (show (2 : Int32) = 3 from hcode) (by decide)
  · obtain ⟨hcode, rfl⟩ := hp
    rw [ht] at hB
    have hPo1 : va_P D vwCl (oW K o f) H1 := hPo.kept (fun k q hq => by obtain ⟨x, hx1, ex⟩ : q.1 = o ∧ True ∧ True := by { rcases k with _ | k <;> simp at hq; exact ⟨by rw [← hq], trivial, trivial⟩ }; rw [x]; exact hk1 o hol hox)
    refine W.eq (g2 := F0 m 7 ls [.int ((sp_X2_award n S p0).2.1), .int 0, .ref o]) rfl ?_
    refine lv_i2l hx hb dL_award_7 rfl ?_
    refine vo_last (A := LA ad o s.heap.size) hx hb hK5 hPo1 (Or.inr rfl) hS dL_award_8 (fun H9 locs hP9 oq9 hS => ?_)
    refine lv_goto (tgt := 18) hx hb dL_award_9 (by decide) ?_
    refine lv_iconst (v := 0) hx hb dL_award_18 (by decide) ?_
    refine W.widen (k := 4) (n := 60) (Nat.le_of_ble_eq_true rfl) (Nat.le_of_ble_eq_true rfl) ?_
    exact W.iret (v := 0) hx hb hr (fun t9 ht9 hW => ⟨⟨_, (), rfl, hcode.symm, by dsimp only; rw [ht9]; exact Or.inl ⟨hcode, XP_off ho hB oq9, hP9⟩⟩, hS.F ht9⟩) hS.2.2 dL_award_19

set_option maxHeartbeats 4000000 in
set_option maxRecDepth 100000 in
theorem c_L_passOn (l : Launch) (hl0 : l.stackTraces = false) (D : va_G) (K : Nat → ClassId) (sz : Nat) (ad : Nat → Nat → Nat) (n d : Nat) (S : Nat → Nat → Nat → Int32) (o : Nat) (f : Nat → Int64) (p0 p1 p2 : Int32) (hDJ : DJ ad n d) (ho : ∀ k i, ad k i ≠ o) : LMet l yL_passOn wsL_passOn 7 125 D K [.ref (ad 0 0), .int p0, .int p1, .int p2, .ref o] sz ad o f (fun H => XP D K ad n d S H) ((sp_X2_passOn n S p0 p1 p2).1) (((sp_X2_passOn n S p0 p1 p2).2.1).toInt64) (fun H => XP D K ad n d ((sp_X2_passOn n S p0 p1 p2).2.2) H) := by
  refine Met_ofWH (cc := cL_passOn) (maxL := 6) (ret := some .int) (hh := [(0, 12, 15, 19), (0, 12, 19, 13), (0, 12, 23, 21)]) (by decide) rfl ?_
  intro p e s m args below meth c s₁ B hml hv
  obtain ⟨rfl, ⟨hsz, hZ, hX, hXP, hK, hE⟩, hN, hPo, hK5⟩ := hv
  have hx := B.exec
  have hb := B.bytes
  have hr := B.returns
  have hts := atoms_spec (ws := wsL_passOn) B.pre
  have hown : s.vm.findClass RL = some m.cls := findClass_of_methodNamed B.named
  have hlocks := B.notSynchronized
  have htab := vx_table (x := yL_passOn) B (hts _ List.mem_cons_self)
  have hc : CallFix p m c cL_passOn 6 s ([.ref (ad 0 0), .int p0, .int p1, .int p2, .ref o] : List Value).toArray wsL_passOn RL := ⟨hx, hb, hml, hown, hts⟩
  subst hsz
  have hol : o < s.heap.size := (hPo 0 _ rfl).lt
  have hox : ¬ XA ad s.heap.size o := fun h => h.elim (fun ⟨k, i, e⟩ => ho k i e) (fun h => by omega)
  have hP := hXP.2.2.1
  have hS : va_S (LA ad o s.heap.size) s.heap s.heap [] := va_S.rf
  have hl := lv_entry ([.ref (ad 0 0), .int p0, .int p1, .int p2, .ref o]) (n := 6) (Nat.le_of_ble_eq_true rfl)
  rw [lg_entry_eq]
  generalize (lg_sl ([.ref (ad 0 0), .int p0, .int p1, .int p2, .ref o]) ++ List.replicate (6 - (lg_sl ([.ref (ad 0 0), .int p0, .int p1, .int p2, .ref o])).length) Slot.unset).toArray = ls at hl ⊢
  have hl : lv_has ls 6 [(0, .ref (ad 0 0)), (1, .int p0), (2, .int p1), (3, .int p2), (4, .ref o)] := hl
  refine lv_aload hx hb dL_passOn_0 (lv_at hl 4 rfl) ?_
  refine lv_iconst (v := 0) hx hb dL_passOn_2 (by decide) ?_
  refine lv_aload_n hx hb dL_passOn_3 rfl (lv_at hl 0 rfl) ?_
  refine lv_iload_n hx hb dL_passOn_4 rfl (lv_at hl 1 rfl) ?_
  refine lv_iload_n hx hb dL_passOn_5 rfl (lv_at hl 2 rfl) ?_
  refine lv_iload_n hx hb dL_passOn_6 rfl (lv_at hl 3 rfl) ?_
  refine vx_calli (vx_runV (As := [.int p0, .int p1, .int p2]) (rest := [.int 0, .ref o]) hc (c_X2_passOn l hl0 D K s.heap.size ad n d S p0 p1 p2 hDJ) (cwV 3 hts gL_passOn_X2_passOn rfl rfl rfl (by decide +kernel) ⟨(Nat.le_of_ble_eq_true rfl), (Nat.le_of_ble_eq_true rfl)⟩) ⟨XPre_blind, va_recv hK hP (ci := 2) (q0 := 0) rfl rfl, XPre_at hXP hK hE hX ⟨vx_Zq.narrow hZ.1 (fun q h => Or.inl h), vx_Zq.narrow hZ.2 (fun q h => Or.inl h)⟩⟩ rfl rfl hl.1 rfl (lv_room (Nat.le_of_ble_eq_true rfl)) dL_passOn_7 ⟨(Nat.le_of_ble_eq_true rfl), (Nat.le_of_ble_eq_true rfl)⟩) hS (fun q _ h => Or.inl h) (fun q h => Or.inl h) (fun q _ h => Or.inl h) (fun E ce q9 u t H1 locs ht hvm hp hB hz1 hk1 hS hce hcv hcl => ?_) (fun r u t H1 locs ht hvm hp hB hz1 hk1 hS => ?_)
  · have hPo1 : va_P D vwCl (oW K o f) H1 := hPo.kept (fun k q hq => by obtain ⟨x, hx1, ex⟩ : q.1 = o ∧ True ∧ True := by { rcases k with _ | k <;> simp at hq; exact ⟨by rw [← hq], trivial, trivial⟩ }; rw [x]; exact hk1 o hol hox)
    rw [ht] at hB
    obtain ⟨hen, hBx⟩ := hB
    rcases hen with ⟨hcode, rfl⟩ | ⟨hcode, rfl⟩ | ⟨hcode, rfl⟩
    · refine vx_catch (own := RL) (name := "java/lang/IndexOutOfBoundsException") (E := "java/lang/IndexOutOfBoundsException") hown (tableOf []) ⟨0, 12, 15, 19⟩ (tableOf [(0, 12, 19, 13), (0, 12, 23, 21)]) (by rw [htab]; rfl) ?_ (by decide) (by decide) (hts (.classLink RL 19 "java/lang/IndexOutOfBoundsException") (by decide +kernel)) (va_Nw.use rfl (hX.2 (.castable "java/lang/IndexOutOfBoundsException" "java/lang/IndexOutOfBoundsException") (by decide +kernel))) hce hcv hcl ?_
      · intro z hz
        exact absurd hz List.not_mem_nil
      · refine W.eq (g2 := F0 m 15 ls [.ref q9]) rfl ?_
        refine lv_astore (lv' := [(5, .ref q9), (0, .ref (ad 0 0)), (1, .int p0), (2, .int p1), (3, .int p2), (4, .ref o)]) hx hb dL_passOn_15 hl (by decide) rfl (fun ls hl => ?_)
        refine lv_iconst (v := 1) hx hb dL_passOn_17 (by decide) ?_
        refine W.widen (k := 4) (n := 60) (Nat.le_of_ble_eq_true rfl) (Nat.le_of_ble_eq_true rfl) ?_
        exact W.iret (v := 1) hx hb hr (fun t9 ht9 hW => ⟨⟨_, (), rfl, hcode.symm, by dsimp only; rw [ht9]; exact Or.inr ⟨by rw [hcode]; decide, hBx, hPo1⟩⟩, hS.F ht9⟩) hS.2.2 dL_passOn_18
    · refine vx_catch (own := RL) (name := "java/lang/IllegalStateException") (E := "java/lang/IllegalStateException") hown (tableOf [(0, 12, 15, 19)]) ⟨0, 12, 19, 13⟩ (tableOf [(0, 12, 23, 21)]) (by rw [htab]; rfl) ?_ (by decide) (by decide) (hts (.classLink RL 13 "java/lang/IllegalStateException") (by decide +kernel)) (va_Nw.use rfl (hX.2 (.castable "java/lang/IllegalStateException" "java/lang/IllegalStateException") (by decide +kernel))) hce hcv hcl ?_
      · intro z hz
        simp only [tableOf, List.map_cons, List.map_nil, List.mem_cons, List.not_mem_nil, or_false] at hz
        rcases hz with rfl
        · exact Or.inr ⟨by decide, "java/lang/IndexOutOfBoundsException", hts (.classLink RL 19 "java/lang/IndexOutOfBoundsException") (by decide +kernel), hN ("java/lang/IllegalStateException", "java/lang/IndexOutOfBoundsException") (by decide +kernel)⟩
      · refine W.eq (g2 := F0 m 19 ls [.ref q9]) rfl ?_
        refine lv_astore (lv' := [(5, .ref q9), (0, .ref (ad 0 0)), (1, .int p0), (2, .int p1), (3, .int p2), (4, .ref o)]) hx hb dL_passOn_19 hl (by decide) rfl (fun ls hl => ?_)
        refine lv_iconst (v := 2) hx hb dL_passOn_21 (by decide) ?_
        refine W.widen (k := 4) (n := 60) (Nat.le_of_ble_eq_true rfl) (Nat.le_of_ble_eq_true rfl) ?_
        exact W.iret (v := 2) hx hb hr (fun t9 ht9 hW => ⟨⟨_, (), rfl, hcode.symm, by dsimp only; rw [ht9]; exact Or.inr ⟨by rw [hcode]; decide, hBx, hPo1⟩⟩, hS.F ht9⟩) hS.2.2 dL_passOn_22
    · refine vx_catch (own := RL) (name := "java/lang/IllegalArgumentException") (E := "java/lang/IllegalArgumentException") hown (tableOf [(0, 12, 15, 19), (0, 12, 19, 13)]) ⟨0, 12, 23, 21⟩ (tableOf []) (by rw [htab]; rfl) ?_ (by decide) (by decide) (hts (.classLink RL 21 "java/lang/IllegalArgumentException") (by decide +kernel)) (va_Nw.use rfl (hX.2 (.castable "java/lang/IllegalArgumentException" "java/lang/IllegalArgumentException") (by decide +kernel))) hce hcv hcl ?_
      · intro z hz
        simp only [tableOf, List.map_cons, List.map_nil, List.mem_cons, List.not_mem_nil, or_false] at hz
        rcases hz with rfl | rfl
        · exact Or.inr ⟨by decide, "java/lang/IndexOutOfBoundsException", hts (.classLink RL 19 "java/lang/IndexOutOfBoundsException") (by decide +kernel), hN ("java/lang/IllegalArgumentException", "java/lang/IndexOutOfBoundsException") (by decide +kernel)⟩
        · exact Or.inr ⟨by decide, "java/lang/IllegalStateException", hts (.classLink RL 13 "java/lang/IllegalStateException") (by decide +kernel), hN ("java/lang/IllegalArgumentException", "java/lang/IllegalStateException") (by decide +kernel)⟩
      · refine W.eq (g2 := F0 m 23 ls [.ref q9]) rfl ?_
        refine lv_astore (lv' := [(5, .ref q9), (0, .ref (ad 0 0)), (1, .int p0), (2, .int p1), (3, .int p2), (4, .ref o)]) hx hb dL_passOn_23 hl (by decide) rfl (fun ls hl => ?_)
        refine lv_iconst (v := 3) hx hb dL_passOn_25 (by decide) ?_
        refine W.widen (k := 4) (n := 60) (Nat.le_of_ble_eq_true rfl) (Nat.le_of_ble_eq_true rfl) ?_
        exact W.iret (v := 3) hx hb hr (fun t9 ht9 hW => ⟨⟨_, (), rfl, hcode.symm, by dsimp only; rw [ht9]; exact Or.inr ⟨by rw [hcode]; decide, hBx, hPo1⟩⟩, hS.F ht9⟩) hS.2.2 dL_passOn_26
  · obtain ⟨hcode, rfl⟩ := hp
    rw [ht] at hB
    have hPo1 : va_P D vwCl (oW K o f) H1 := hPo.kept (fun k q hq => by obtain ⟨x, hx1, ex⟩ : q.1 = o ∧ True ∧ True := by { rcases k with _ | k <;> simp at hq; exact ⟨by rw [← hq], trivial, trivial⟩ }; rw [x]; exact hk1 o hol hox)
    refine W.eq (g2 := F0 m 10 ls [.int ((sp_X2_passOn n S p0 p1 p2).2.1), .int 0, .ref o]) rfl ?_
    refine lv_i2l hx hb dL_passOn_10 rfl ?_
    refine vo_last (A := LA ad o s.heap.size) hx hb hK5 hPo1 (Or.inr rfl) hS dL_passOn_11 (fun H9 locs hP9 oq9 hS => ?_)
    refine lv_goto (tgt := 27) hx hb dL_passOn_12 (by decide) ?_
    refine lv_iconst (v := 0) hx hb dL_passOn_27 (by decide) ?_
    refine W.widen (k := 4) (n := 60) (Nat.le_of_ble_eq_true rfl) (Nat.le_of_ble_eq_true rfl) ?_
    exact W.iret (v := 0) hx hb hr (fun t9 ht9 hW => ⟨⟨_, (), rfl, hcode.symm, by dsimp only; rw [ht9]; exact Or.inl ⟨hcode, XP_off ho hB oq9, hP9⟩⟩, hS.F ht9⟩) hS.2.2 dL_passOn_28

set_option maxHeartbeats 4000000 in
set_option maxRecDepth 100000 in
theorem c_L_turnover (l : Launch) (hl0 : l.stackTraces = false) (D : va_G) (K : Nat → ClassId) (sz : Nat) (ad : Nat → Nat → Nat) (n d : Nat) (S : Nat → Nat → Nat → Int32) (o : Nat) (f : Nat → Int64) (p0 : Int32)  (ho : ∀ k i, ad k i ≠ o) : LMet l yL_turnover wsL_turnover 7 121 D K [.ref (ad 0 0), .int p0, .ref o] sz ad o f (fun H => XP D K ad n d S H) ((sp_X2_turnover n S p0).1) (((sp_X2_turnover n S p0).2).toInt64) (fun H => XP D K ad n d S H) := by
  refine Met_ofWH (cc := cL_turnover) (maxL := 4) (ret := some .int) (hh := [(0, 9, 12, 21)]) (by decide) rfl ?_
  intro p e s m args below meth c s₁ B hml hv
  obtain ⟨rfl, ⟨hsz, hZ, hX, hXP, hK, hE⟩, hN, hPo, hK5⟩ := hv
  have hx := B.exec
  have hb := B.bytes
  have hr := B.returns
  have hts := atoms_spec (ws := wsL_turnover) B.pre
  have hown : s.vm.findClass RL = some m.cls := findClass_of_methodNamed B.named
  have hlocks := B.notSynchronized
  have htab := vx_table (x := yL_turnover) B (hts _ List.mem_cons_self)
  have hc : CallFix p m c cL_turnover 4 s ([.ref (ad 0 0), .int p0, .ref o] : List Value).toArray wsL_turnover RL := ⟨hx, hb, hml, hown, hts⟩
  subst hsz
  have hol : o < s.heap.size := (hPo 0 _ rfl).lt
  have hox : ¬ XA ad s.heap.size o := fun h => h.elim (fun ⟨k, i, e⟩ => ho k i e) (fun h => by omega)
  have hP := hXP.2.2.1
  have hS : va_S (LA ad o s.heap.size) s.heap s.heap [] := va_S.rf
  have hl := lv_entry ([.ref (ad 0 0), .int p0, .ref o]) (n := 4) (Nat.le_of_ble_eq_true rfl)
  rw [lg_entry_eq]
  generalize (lg_sl ([.ref (ad 0 0), .int p0, .ref o]) ++ List.replicate (4 - (lg_sl ([.ref (ad 0 0), .int p0, .ref o])).length) Slot.unset).toArray = ls at hl ⊢
  have hl : lv_has ls 4 [(0, .ref (ad 0 0)), (1, .int p0), (2, .ref o)] := hl
  refine lv_aload_n hx hb dL_turnover_0 rfl (lv_at hl 2 rfl) ?_
  refine lv_iconst (v := 0) hx hb dL_turnover_1 (by decide) ?_
  refine lv_aload_n hx hb dL_turnover_2 rfl (lv_at hl 0 rfl) ?_
  refine lv_iload_n hx hb dL_turnover_3 rfl (lv_at hl 1 rfl) ?_
  refine vx_calli (vx_runV (As := [.int p0]) (rest := [.int 0, .ref o]) hc (c_X2_turnover l hl0 D K s.heap.size ad n d S p0 ) (cwV 1 hts gL_turnover_X2_turnover rfl rfl rfl (by decide +kernel) ⟨(Nat.le_of_ble_eq_true rfl), (Nat.le_of_ble_eq_true rfl)⟩) ⟨XPre_blind, va_recv hK hP (ci := 2) (q0 := 0) rfl rfl, XPre_at hXP hK hE hX ⟨vx_Zq.narrow hZ.1 (fun q h => Or.inl h), vx_Zq.narrow hZ.2 (fun q h => Or.inl h)⟩⟩ rfl rfl hl.1 rfl (lv_room (Nat.le_of_ble_eq_true rfl)) dL_turnover_4 ⟨(Nat.le_of_ble_eq_true rfl), (Nat.le_of_ble_eq_true rfl)⟩) hS (fun q _ h => Or.inl h) (fun q h => Or.inl h) (fun q _ h => Or.inl h) (fun E ce q9 u t H1 locs ht hvm hp hB hz1 hk1 hS hce hcv hcl => ?_) (fun r u t H1 locs ht hvm hp hB hz1 hk1 hS => ?_)
  · have hPo1 : va_P D vwCl (oW K o f) H1 := hPo.kept (fun k q hq => by obtain ⟨x, hx1, ex⟩ : q.1 = o ∧ True ∧ True := by { rcases k with _ | k <;> simp at hq; exact ⟨by rw [← hq], trivial, trivial⟩ }; rw [x]; exact hk1 o hol hox)
    rw [ht] at hB
    obtain ⟨hen, hBx⟩ := hB
    rcases hen with ⟨hcode, rfl⟩ | ⟨hcode, rfl⟩ | ⟨hcode, rfl⟩
    · refine vx_catch (own := RL) (name := "java/lang/IllegalArgumentException") (E := "java/lang/IllegalArgumentException") hown (tableOf []) ⟨0, 9, 12, 21⟩ (tableOf []) (by rw [htab]; rfl) ?_ (by decide) (by decide) (hts (.classLink RL 21 "java/lang/IllegalArgumentException") (by decide +kernel)) (va_Nw.use rfl (hX.2 (.castable "java/lang/IllegalArgumentException" "java/lang/IllegalArgumentException") (by decide +kernel))) hce hcv hcl ?_
      · intro z hz
        exact absurd hz List.not_mem_nil
      · refine W.eq (g2 := F0 m 12 ls [.ref q9]) rfl ?_
        refine lv_astore_n (lv' := [(3, .ref q9), (0, .ref (ad 0 0)), (1, .int p0), (2, .ref o)]) hx hb dL_turnover_12 rfl hl (by decide) rfl (fun ls hl => ?_)
        refine lv_iconst (v := 1) hx hb dL_turnover_13 (by decide) ?_
        refine W.widen (k := 4) (n := 60) (Nat.le_of_ble_eq_true rfl) (Nat.le_of_ble_eq_true rfl) ?_
        exact W.iret (v := 1) hx hb hr (fun t9 ht9 hW => ⟨⟨_, (), rfl, hcode.symm, by dsimp only; rw [ht9]; exact Or.inr ⟨by rw [hcode]; decide, hBx, hPo1⟩⟩, hS.F ht9⟩) hS.2.2 dL_turnover_14
    · exfalso; unfold sp_X2_turnover at hcode; repeat' split at hcode
      all_goals first | exact absurd (show (0 : Int32) = 2 from hcode) (by decide) | exact absurd (show (1 : Int32) = 2 from hcode) (by decide) | exact absurd (show (2 : Int32) = 2 from hcode) (by decide)
    · exfalso; unfold sp_X2_turnover at hcode; repeat' split at hcode
      all_goals first | exact absurd (show (0 : Int32) = 3 from hcode) (by decide) | exact absurd (show (1 : Int32) = 3 from hcode) (by decide) | exact absurd (show (2 : Int32) = 3 from hcode) (by decide)
  · obtain ⟨hcode, rfl⟩ := hp
    rw [ht] at hB
    have hPo1 : va_P D vwCl (oW K o f) H1 := hPo.kept (fun k q hq => by obtain ⟨x, hx1, ex⟩ : q.1 = o ∧ True ∧ True := by { rcases k with _ | k <;> simp at hq; exact ⟨by rw [← hq], trivial, trivial⟩ }; rw [x]; exact hk1 o hol hox)
    refine W.eq (g2 := F0 m 7 ls [.int ((sp_X2_turnover n S p0).2), .int 0, .ref o]) rfl ?_
    refine lv_i2l hx hb dL_turnover_7 rfl ?_
    refine vo_last (A := LA ad o s.heap.size) hx hb hK5 hPo1 (Or.inr rfl) hS dL_turnover_8 (fun H9 locs hP9 oq9 hS => ?_)
    refine lv_goto (tgt := 15) hx hb dL_turnover_9 (by decide) ?_
    refine lv_iconst (v := 0) hx hb dL_turnover_15 (by decide) ?_
    refine W.widen (k := 4) (n := 60) (Nat.le_of_ble_eq_true rfl) (Nat.le_of_ble_eq_true rfl) ?_
    exact W.iret (v := 0) hx hb hr (fun t9 ht9 hW => ⟨⟨_, (), rfl, hcode.symm, by dsimp only; rw [ht9]; exact Or.inl ⟨hcode, XP_off ho hB oq9, hP9⟩⟩, hS.F ht9⟩) hS.2.2 dL_turnover_16

set_option maxHeartbeats 4000000 in
set_option maxRecDepth 100000 in
theorem c_L_won (l : Launch) (hl0 : l.stackTraces = false) (D : va_G) (K : Nat → ClassId) (sz : Nat) (ad : Nat → Nat → Nat) (n d : Nat) (S : Nat → Nat → Nat → Int32) (o : Nat) (f : Nat → Int64) (p0 : Int32)  (ho : ∀ k i, ad k i ≠ o) : LMet l yL_won wsL_won 7 126 D K [.ref (ad 0 0), .int p0, .ref o] sz ad o f (fun H => XP D K ad n d S H) ((sp_X2_won n S p0).1) (((sp_X2_won n S p0).2).toInt64) (fun H => XP D K ad n d S H) := by
  refine Met_ofWH (cc := cL_won) (maxL := 4) (ret := some .int) (hh := [(0, 9, 12, 21)]) (by decide) rfl ?_
  intro p e s m args below meth c s₁ B hml hv
  obtain ⟨rfl, ⟨hsz, hZ, hX, hXP, hK, hE⟩, hN, hPo, hK5⟩ := hv
  have hx := B.exec
  have hb := B.bytes
  have hr := B.returns
  have hts := atoms_spec (ws := wsL_won) B.pre
  have hown : s.vm.findClass RL = some m.cls := findClass_of_methodNamed B.named
  have hlocks := B.notSynchronized
  have htab := vx_table (x := yL_won) B (hts _ List.mem_cons_self)
  have hc : CallFix p m c cL_won 4 s ([.ref (ad 0 0), .int p0, .ref o] : List Value).toArray wsL_won RL := ⟨hx, hb, hml, hown, hts⟩
  subst hsz
  have hol : o < s.heap.size := (hPo 0 _ rfl).lt
  have hox : ¬ XA ad s.heap.size o := fun h => h.elim (fun ⟨k, i, e⟩ => ho k i e) (fun h => by omega)
  have hP := hXP.2.2.1
  have hS : va_S (LA ad o s.heap.size) s.heap s.heap [] := va_S.rf
  have hl := lv_entry ([.ref (ad 0 0), .int p0, .ref o]) (n := 4) (Nat.le_of_ble_eq_true rfl)
  rw [lg_entry_eq]
  generalize (lg_sl ([.ref (ad 0 0), .int p0, .ref o]) ++ List.replicate (4 - (lg_sl ([.ref (ad 0 0), .int p0, .ref o])).length) Slot.unset).toArray = ls at hl ⊢
  have hl : lv_has ls 4 [(0, .ref (ad 0 0)), (1, .int p0), (2, .ref o)] := hl
  refine lv_aload_n hx hb dL_won_0 rfl (lv_at hl 2 rfl) ?_
  refine lv_iconst (v := 0) hx hb dL_won_1 (by decide) ?_
  refine lv_aload_n hx hb dL_won_2 rfl (lv_at hl 0 rfl) ?_
  refine lv_iload_n hx hb dL_won_3 rfl (lv_at hl 1 rfl) ?_
  refine vx_calli (vx_runV (As := [.int p0]) (rest := [.int 0, .ref o]) hc (c_X2_won l hl0 D K s.heap.size ad n d S p0 ) (cwV 1 hts gL_won_X2_won rfl rfl rfl (by decide +kernel) ⟨(Nat.le_of_ble_eq_true rfl), (Nat.le_of_ble_eq_true rfl)⟩) ⟨XPre_blind, va_recv hK hP (ci := 2) (q0 := 0) rfl rfl, XPre_at hXP hK hE hX ⟨vx_Zq.narrow hZ.1 (fun q h => Or.inl h), vx_Zq.narrow hZ.2 (fun q h => Or.inl h)⟩⟩ rfl rfl hl.1 rfl (lv_room (Nat.le_of_ble_eq_true rfl)) dL_won_4 ⟨(Nat.le_of_ble_eq_true rfl), (Nat.le_of_ble_eq_true rfl)⟩) hS (fun q _ h => Or.inl h) (fun q h => Or.inl h) (fun q _ h => Or.inl h) (fun E ce q9 u t H1 locs ht hvm hp hB hz1 hk1 hS hce hcv hcl => ?_) (fun r u t H1 locs ht hvm hp hB hz1 hk1 hS => ?_)
  · have hPo1 : va_P D vwCl (oW K o f) H1 := hPo.kept (fun k q hq => by obtain ⟨x, hx1, ex⟩ : q.1 = o ∧ True ∧ True := by { rcases k with _ | k <;> simp at hq; exact ⟨by rw [← hq], trivial, trivial⟩ }; rw [x]; exact hk1 o hol hox)
    rw [ht] at hB
    obtain ⟨hen, hBx⟩ := hB
    rcases hen with ⟨hcode, rfl⟩ | ⟨hcode, rfl⟩ | ⟨hcode, rfl⟩
    · refine vx_catch (own := RL) (name := "java/lang/IllegalArgumentException") (E := "java/lang/IllegalArgumentException") hown (tableOf []) ⟨0, 9, 12, 21⟩ (tableOf []) (by rw [htab]; rfl) ?_ (by decide) (by decide) (hts (.classLink RL 21 "java/lang/IllegalArgumentException") (by decide +kernel)) (va_Nw.use rfl (hX.2 (.castable "java/lang/IllegalArgumentException" "java/lang/IllegalArgumentException") (by decide +kernel))) hce hcv hcl ?_
      · intro z hz
        exact absurd hz List.not_mem_nil
      · refine W.eq (g2 := F0 m 12 ls [.ref q9]) rfl ?_
        refine lv_astore_n (lv' := [(3, .ref q9), (0, .ref (ad 0 0)), (1, .int p0), (2, .ref o)]) hx hb dL_won_12 rfl hl (by decide) rfl (fun ls hl => ?_)
        refine lv_iconst (v := 1) hx hb dL_won_13 (by decide) ?_
        refine W.widen (k := 4) (n := 60) (Nat.le_of_ble_eq_true rfl) (Nat.le_of_ble_eq_true rfl) ?_
        exact W.iret (v := 1) hx hb hr (fun t9 ht9 hW => ⟨⟨_, (), rfl, hcode.symm, by dsimp only; rw [ht9]; exact Or.inr ⟨by rw [hcode]; decide, hBx, hPo1⟩⟩, hS.F ht9⟩) hS.2.2 dL_won_14
    · exfalso; unfold sp_X2_won at hcode; repeat' split at hcode
      all_goals first | exact absurd (show (0 : Int32) = 2 from hcode) (by decide) | exact absurd (show (1 : Int32) = 2 from hcode) (by decide) | exact absurd (show (2 : Int32) = 2 from hcode) (by decide)
    · exfalso; unfold sp_X2_won at hcode; repeat' split at hcode
      all_goals first | exact absurd (show (0 : Int32) = 3 from hcode) (by decide) | exact absurd (show (1 : Int32) = 3 from hcode) (by decide) | exact absurd (show (2 : Int32) = 3 from hcode) (by decide)
  · obtain ⟨hcode, rfl⟩ := hp
    rw [ht] at hB
    have hPo1 : va_P D vwCl (oW K o f) H1 := hPo.kept (fun k q hq => by obtain ⟨x, hx1, ex⟩ : q.1 = o ∧ True ∧ True := by { rcases k with _ | k <;> simp at hq; exact ⟨by rw [← hq], trivial, trivial⟩ }; rw [x]; exact hk1 o hol hox)
    refine W.eq (g2 := F0 m 7 ls [.int ((sp_X2_won n S p0).2), .int 0, .ref o]) rfl ?_
    refine lv_i2l hx hb dL_won_7 rfl ?_
    refine vo_last (A := LA ad o s.heap.size) hx hb hK5 hPo1 (Or.inr rfl) hS dL_won_8 (fun H9 locs hP9 oq9 hS => ?_)
    refine lv_goto (tgt := 15) hx hb dL_won_9 (by decide) ?_
    refine lv_iconst (v := 0) hx hb dL_won_15 (by decide) ?_
    refine W.widen (k := 4) (n := 60) (Nat.le_of_ble_eq_true rfl) (Nat.le_of_ble_eq_true rfl) ?_
    exact W.iret (v := 0) hx hb hr (fun t9 ht9 hW => ⟨⟨_, (), rfl, hcode.symm, by dsimp only; rw [ht9]; exact Or.inl ⟨hcode, XP_off ho hB oq9, hP9⟩⟩, hS.F ht9⟩) hS.2.2 dL_won_16

set_option maxHeartbeats 4000000 in
set_option maxRecDepth 100000 in
theorem c_L_suspicion (l : Launch) (hl0 : l.stackTraces = false) (D : va_G) (K : Nat → ClassId) (sz : Nat) (ad : Nat → Nat → Nat) (n d : Nat) (S : Nat → Nat → Nat → Int32) (o : Nat) (f : Nat → Int64) (p0 p1 : Int32)  (ho : ∀ k i, ad k i ≠ o) : LMet l yL_suspicion wsL_suspicion 7 158 D K [.ref (ad 0 0), .int p0, .int p1, .ref o] sz ad o f (fun H => XP D K ad n d S H) ((sp_X2_suspicion n S p0 p1).1) (((sp_X2_suspicion n S p0 p1).2).toInt64) (fun H => XP D K ad n d S H) := by
  refine Met_ofWH (cc := cL_suspicion) (maxL := 5) (ret := some .int) (hh := [(0, 10, 13, 21)]) (by decide) rfl ?_
  intro p e s m args below meth c s₁ B hml hv
  obtain ⟨rfl, ⟨hsz, hZ, hX, hXP, hK, hE⟩, hN, hPo, hK5⟩ := hv
  have hx := B.exec
  have hb := B.bytes
  have hr := B.returns
  have hts := atoms_spec (ws := wsL_suspicion) B.pre
  have hown : s.vm.findClass RL = some m.cls := findClass_of_methodNamed B.named
  have hlocks := B.notSynchronized
  have htab := vx_table (x := yL_suspicion) B (hts _ List.mem_cons_self)
  have hc : CallFix p m c cL_suspicion 5 s ([.ref (ad 0 0), .int p0, .int p1, .ref o] : List Value).toArray wsL_suspicion RL := ⟨hx, hb, hml, hown, hts⟩
  subst hsz
  have hol : o < s.heap.size := (hPo 0 _ rfl).lt
  have hox : ¬ XA ad s.heap.size o := fun h => h.elim (fun ⟨k, i, e⟩ => ho k i e) (fun h => by omega)
  have hP := hXP.2.2.1
  have hS : va_S (LA ad o s.heap.size) s.heap s.heap [] := va_S.rf
  have hl := lv_entry ([.ref (ad 0 0), .int p0, .int p1, .ref o]) (n := 5) (Nat.le_of_ble_eq_true rfl)
  rw [lg_entry_eq]
  generalize (lg_sl ([.ref (ad 0 0), .int p0, .int p1, .ref o]) ++ List.replicate (5 - (lg_sl ([.ref (ad 0 0), .int p0, .int p1, .ref o])).length) Slot.unset).toArray = ls at hl ⊢
  have hl : lv_has ls 5 [(0, .ref (ad 0 0)), (1, .int p0), (2, .int p1), (3, .ref o)] := hl
  refine lv_aload_n hx hb dL_suspicion_0 rfl (lv_at hl 3 rfl) ?_
  refine lv_iconst (v := 0) hx hb dL_suspicion_1 (by decide) ?_
  refine lv_aload_n hx hb dL_suspicion_2 rfl (lv_at hl 0 rfl) ?_
  refine lv_iload_n hx hb dL_suspicion_3 rfl (lv_at hl 1 rfl) ?_
  refine lv_iload_n hx hb dL_suspicion_4 rfl (lv_at hl 2 rfl) ?_
  refine vx_calli (vx_runV (As := [.int p0, .int p1]) (rest := [.int 0, .ref o]) hc (c_X2_suspicion l hl0 D K s.heap.size ad n d S p0 p1 ) (cwV 2 hts gL_suspicion_X2_suspicion rfl rfl rfl (by decide +kernel) ⟨(Nat.le_of_ble_eq_true rfl), (Nat.le_of_ble_eq_true rfl)⟩) ⟨XPre_blind, va_recv hK hP (ci := 2) (q0 := 0) rfl rfl, XPre_at hXP hK hE hX ⟨vx_Zq.narrow hZ.1 (fun q h => Or.inl h), vx_Zq.narrow hZ.2 (fun q h => Or.inl h)⟩⟩ rfl rfl hl.1 rfl (lv_room (Nat.le_of_ble_eq_true rfl)) dL_suspicion_5 ⟨(Nat.le_of_ble_eq_true rfl), (Nat.le_of_ble_eq_true rfl)⟩) hS (fun q _ h => Or.inl h) (fun q h => Or.inl h) (fun q _ h => Or.inl h) (fun E ce q9 u t H1 locs ht hvm hp hB hz1 hk1 hS hce hcv hcl => ?_) (fun r u t H1 locs ht hvm hp hB hz1 hk1 hS => ?_)
  · have hPo1 : va_P D vwCl (oW K o f) H1 := hPo.kept (fun k q hq => by obtain ⟨x, hx1, ex⟩ : q.1 = o ∧ True ∧ True := by { rcases k with _ | k <;> simp at hq; exact ⟨by rw [← hq], trivial, trivial⟩ }; rw [x]; exact hk1 o hol hox)
    rw [ht] at hB
    obtain ⟨hen, hBx⟩ := hB
    rcases hen with ⟨hcode, rfl⟩ | ⟨hcode, rfl⟩ | ⟨hcode, rfl⟩
    · refine vx_catch (own := RL) (name := "java/lang/IllegalArgumentException") (E := "java/lang/IllegalArgumentException") hown (tableOf []) ⟨0, 10, 13, 21⟩ (tableOf []) (by rw [htab]; rfl) ?_ (by decide) (by decide) (hts (.classLink RL 21 "java/lang/IllegalArgumentException") (by decide +kernel)) (va_Nw.use rfl (hX.2 (.castable "java/lang/IllegalArgumentException" "java/lang/IllegalArgumentException") (by decide +kernel))) hce hcv hcl ?_
      · intro z hz
        exact absurd hz List.not_mem_nil
      · refine W.eq (g2 := F0 m 13 ls [.ref q9]) rfl ?_
        refine lv_astore (lv' := [(4, .ref q9), (0, .ref (ad 0 0)), (1, .int p0), (2, .int p1), (3, .ref o)]) hx hb dL_suspicion_13 hl (by decide) rfl (fun ls hl => ?_)
        refine lv_iconst (v := 1) hx hb dL_suspicion_15 (by decide) ?_
        refine W.widen (k := 4) (n := 60) (Nat.le_of_ble_eq_true rfl) (Nat.le_of_ble_eq_true rfl) ?_
        exact W.iret (v := 1) hx hb hr (fun t9 ht9 hW => ⟨⟨_, (), rfl, hcode.symm, by dsimp only; rw [ht9]; exact Or.inr ⟨by rw [hcode]; decide, hBx, hPo1⟩⟩, hS.F ht9⟩) hS.2.2 dL_suspicion_16
    · exfalso; unfold sp_X2_suspicion at hcode; repeat' split at hcode
      all_goals first | exact absurd (show (0 : Int32) = 2 from hcode) (by decide) | exact absurd (show (1 : Int32) = 2 from hcode) (by decide) | exact absurd (show (2 : Int32) = 2 from hcode) (by decide)
    · exfalso; unfold sp_X2_suspicion at hcode; repeat' split at hcode
      all_goals first | exact absurd (show (0 : Int32) = 3 from hcode) (by decide) | exact absurd (show (1 : Int32) = 3 from hcode) (by decide) | exact absurd (show (2 : Int32) = 3 from hcode) (by decide)
  · obtain ⟨hcode, rfl⟩ := hp
    rw [ht] at hB
    have hPo1 : va_P D vwCl (oW K o f) H1 := hPo.kept (fun k q hq => by obtain ⟨x, hx1, ex⟩ : q.1 = o ∧ True ∧ True := by { rcases k with _ | k <;> simp at hq; exact ⟨by rw [← hq], trivial, trivial⟩ }; rw [x]; exact hk1 o hol hox)
    refine W.eq (g2 := F0 m 8 ls [.int ((sp_X2_suspicion n S p0 p1).2), .int 0, .ref o]) rfl ?_
    refine lv_i2l hx hb dL_suspicion_8 rfl ?_
    refine vo_last (A := LA ad o s.heap.size) hx hb hK5 hPo1 (Or.inr rfl) hS dL_suspicion_9 (fun H9 locs hP9 oq9 hS => ?_)
    refine lv_goto (tgt := 17) hx hb dL_suspicion_10 (by decide) ?_
    refine lv_iconst (v := 0) hx hb dL_suspicion_17 (by decide) ?_
    refine W.widen (k := 4) (n := 60) (Nat.le_of_ble_eq_true rfl) (Nat.le_of_ble_eq_true rfl) ?_
    exact W.iret (v := 0) hx hb hr (fun t9 ht9 hW => ⟨⟨_, (), rfl, hcode.symm, by dsimp only; rw [ht9]; exact Or.inl ⟨hcode, XP_off ho hB oq9, hP9⟩⟩, hS.F ht9⟩) hS.2.2 dL_suspicion_18

set_option maxHeartbeats 4000000 in
set_option maxRecDepth 100000 in
theorem c_L_sign (l : Launch) (hl0 : l.stackTraces = false) (D : va_G) (K : Nat → ClassId) (sz : Nat) (ad : Nat → Nat → Nat) (n d : Nat) (S : Nat → Nat → Nat → Int32) (o : Nat) (f : Nat → Int64) (p0 p1 p2 : Int32)  (ho : ∀ k i, ad k i ≠ o) : LMet l yL_sign wsL_sign 7 135 D K [.ref (ad 0 0), .int p0, .int p1, .int p2, .ref o] sz ad o f (fun H => XP D K ad n d S H) ((sp_X2_sign n S p0 p1 p2).1) (((sp_X2_sign n S p0 p1 p2).2).toInt64) (fun H => XP D K ad n d S H) := by
  refine Met_ofWH (cc := cL_sign) (maxL := 6) (ret := some .int) (hh := [(0, 12, 15, 19), (0, 12, 19, 21)]) (by decide) rfl ?_
  intro p e s m args below meth c s₁ B hml hv
  obtain ⟨rfl, ⟨hsz, hZ, hX, hXP, hK, hE⟩, hN, hPo, hK5⟩ := hv
  have hx := B.exec
  have hb := B.bytes
  have hr := B.returns
  have hts := atoms_spec (ws := wsL_sign) B.pre
  have hown : s.vm.findClass RL = some m.cls := findClass_of_methodNamed B.named
  have hlocks := B.notSynchronized
  have htab := vx_table (x := yL_sign) B (hts _ List.mem_cons_self)
  have hc : CallFix p m c cL_sign 6 s ([.ref (ad 0 0), .int p0, .int p1, .int p2, .ref o] : List Value).toArray wsL_sign RL := ⟨hx, hb, hml, hown, hts⟩
  subst hsz
  have hol : o < s.heap.size := (hPo 0 _ rfl).lt
  have hox : ¬ XA ad s.heap.size o := fun h => h.elim (fun ⟨k, i, e⟩ => ho k i e) (fun h => by omega)
  have hP := hXP.2.2.1
  have hS : va_S (LA ad o s.heap.size) s.heap s.heap [] := va_S.rf
  have hl := lv_entry ([.ref (ad 0 0), .int p0, .int p1, .int p2, .ref o]) (n := 6) (Nat.le_of_ble_eq_true rfl)
  rw [lg_entry_eq]
  generalize (lg_sl ([.ref (ad 0 0), .int p0, .int p1, .int p2, .ref o]) ++ List.replicate (6 - (lg_sl ([.ref (ad 0 0), .int p0, .int p1, .int p2, .ref o])).length) Slot.unset).toArray = ls at hl ⊢
  have hl : lv_has ls 6 [(0, .ref (ad 0 0)), (1, .int p0), (2, .int p1), (3, .int p2), (4, .ref o)] := hl
  refine lv_aload hx hb dL_sign_0 (lv_at hl 4 rfl) ?_
  refine lv_iconst (v := 0) hx hb dL_sign_2 (by decide) ?_
  refine lv_aload_n hx hb dL_sign_3 rfl (lv_at hl 0 rfl) ?_
  refine lv_iload_n hx hb dL_sign_4 rfl (lv_at hl 1 rfl) ?_
  refine lv_iload_n hx hb dL_sign_5 rfl (lv_at hl 2 rfl) ?_
  refine lv_iload_n hx hb dL_sign_6 rfl (lv_at hl 3 rfl) ?_
  refine vx_calli (vx_runV (As := [.int p0, .int p1, .int p2]) (rest := [.int 0, .ref o]) hc (c_X2_sign l hl0 D K s.heap.size ad n d S p0 p1 p2 ) (cwV 3 hts gL_sign_X2_sign rfl rfl rfl (by decide +kernel) ⟨(Nat.le_of_ble_eq_true rfl), (Nat.le_of_ble_eq_true rfl)⟩) ⟨XPre_blind, va_recv hK hP (ci := 2) (q0 := 0) rfl rfl, XPre_at hXP hK hE hX ⟨vx_Zq.narrow hZ.1 (fun q h => Or.inl h), vx_Zq.narrow hZ.2 (fun q h => Or.inl h)⟩⟩ rfl rfl hl.1 rfl (lv_room (Nat.le_of_ble_eq_true rfl)) dL_sign_7 ⟨(Nat.le_of_ble_eq_true rfl), (Nat.le_of_ble_eq_true rfl)⟩) hS (fun q _ h => Or.inl h) (fun q h => Or.inl h) (fun q _ h => Or.inl h) (fun E ce q9 u t H1 locs ht hvm hp hB hz1 hk1 hS hce hcv hcl => ?_) (fun r u t H1 locs ht hvm hp hB hz1 hk1 hS => ?_)
  · have hPo1 : va_P D vwCl (oW K o f) H1 := hPo.kept (fun k q hq => by obtain ⟨x, hx1, ex⟩ : q.1 = o ∧ True ∧ True := by { rcases k with _ | k <;> simp at hq; exact ⟨by rw [← hq], trivial, trivial⟩ }; rw [x]; exact hk1 o hol hox)
    rw [ht] at hB
    obtain ⟨hen, hBx⟩ := hB
    rcases hen with ⟨hcode, rfl⟩ | ⟨hcode, rfl⟩ | ⟨hcode, rfl⟩
    · refine vx_catch (own := RL) (name := "java/lang/IndexOutOfBoundsException") (E := "java/lang/IndexOutOfBoundsException") hown (tableOf []) ⟨0, 12, 15, 19⟩ (tableOf [(0, 12, 19, 21)]) (by rw [htab]; rfl) ?_ (by decide) (by decide) (hts (.classLink RL 19 "java/lang/IndexOutOfBoundsException") (by decide +kernel)) (va_Nw.use rfl (hX.2 (.castable "java/lang/IndexOutOfBoundsException" "java/lang/IndexOutOfBoundsException") (by decide +kernel))) hce hcv hcl ?_
      · intro z hz
        exact absurd hz List.not_mem_nil
      · refine W.eq (g2 := F0 m 15 ls [.ref q9]) rfl ?_
        refine lv_astore (lv' := [(5, .ref q9), (0, .ref (ad 0 0)), (1, .int p0), (2, .int p1), (3, .int p2), (4, .ref o)]) hx hb dL_sign_15 hl (by decide) rfl (fun ls hl => ?_)
        refine lv_iconst (v := 1) hx hb dL_sign_17 (by decide) ?_
        refine W.widen (k := 4) (n := 60) (Nat.le_of_ble_eq_true rfl) (Nat.le_of_ble_eq_true rfl) ?_
        exact W.iret (v := 1) hx hb hr (fun t9 ht9 hW => ⟨⟨_, (), rfl, hcode.symm, by dsimp only; rw [ht9]; exact Or.inr ⟨by rw [hcode]; decide, hBx, hPo1⟩⟩, hS.F ht9⟩) hS.2.2 dL_sign_18
    · refine vx_catch (own := RL) (name := "java/lang/IllegalArgumentException") (E := "java/lang/IllegalArgumentException") hown (tableOf [(0, 12, 15, 19)]) ⟨0, 12, 19, 21⟩ (tableOf []) (by rw [htab]; rfl) ?_ (by decide) (by decide) (hts (.classLink RL 21 "java/lang/IllegalArgumentException") (by decide +kernel)) (va_Nw.use rfl (hX.2 (.castable "java/lang/IllegalArgumentException" "java/lang/IllegalArgumentException") (by decide +kernel))) hce hcv hcl ?_
      · intro z hz
        simp only [tableOf, List.map_cons, List.map_nil, List.mem_cons, List.not_mem_nil, or_false] at hz
        rcases hz with rfl
        · exact Or.inr ⟨by decide, "java/lang/IndexOutOfBoundsException", hts (.classLink RL 19 "java/lang/IndexOutOfBoundsException") (by decide +kernel), hN ("java/lang/IllegalArgumentException", "java/lang/IndexOutOfBoundsException") (by decide +kernel)⟩
      · refine W.eq (g2 := F0 m 19 ls [.ref q9]) rfl ?_
        refine lv_astore (lv' := [(5, .ref q9), (0, .ref (ad 0 0)), (1, .int p0), (2, .int p1), (3, .int p2), (4, .ref o)]) hx hb dL_sign_19 hl (by decide) rfl (fun ls hl => ?_)
        refine lv_iconst (v := 2) hx hb dL_sign_21 (by decide) ?_
        refine W.widen (k := 4) (n := 60) (Nat.le_of_ble_eq_true rfl) (Nat.le_of_ble_eq_true rfl) ?_
        exact W.iret (v := 2) hx hb hr (fun t9 ht9 hW => ⟨⟨_, (), rfl, hcode.symm, by dsimp only; rw [ht9]; exact Or.inr ⟨by rw [hcode]; decide, hBx, hPo1⟩⟩, hS.F ht9⟩) hS.2.2 dL_sign_22
    · exfalso; unfold sp_X2_sign at hcode; repeat' split at hcode
      all_goals first | exact absurd (show (0 : Int32) = 3 from hcode) (by decide) | exact absurd (show (1 : Int32) = 3 from hcode) (by decide) | exact absurd (show (2 : Int32) = 3 from hcode) (by decide)
  · obtain ⟨hcode, rfl⟩ := hp
    rw [ht] at hB
    have hPo1 : va_P D vwCl (oW K o f) H1 := hPo.kept (fun k q hq => by obtain ⟨x, hx1, ex⟩ : q.1 = o ∧ True ∧ True := by { rcases k with _ | k <;> simp at hq; exact ⟨by rw [← hq], trivial, trivial⟩ }; rw [x]; exact hk1 o hol hox)
    refine W.eq (g2 := F0 m 10 ls [.int ((sp_X2_sign n S p0 p1 p2).2), .int 0, .ref o]) rfl ?_
    refine lv_i2l hx hb dL_sign_10 rfl ?_
    refine vo_last (A := LA ad o s.heap.size) hx hb hK5 hPo1 (Or.inr rfl) hS dL_sign_11 (fun H9 locs hP9 oq9 hS => ?_)
    refine lv_goto (tgt := 23) hx hb dL_sign_12 (by decide) ?_
    refine lv_iconst (v := 0) hx hb dL_sign_23 (by decide) ?_
    refine W.widen (k := 4) (n := 60) (Nat.le_of_ble_eq_true rfl) (Nat.le_of_ble_eq_true rfl) ?_
    exact W.iret (v := 0) hx hb hr (fun t9 ht9 hW => ⟨⟨_, (), rfl, hcode.symm, by dsimp only; rw [ht9]; exact Or.inl ⟨hcode, XP_off ho hB oq9, hP9⟩⟩, hS.F ht9⟩) hS.2.2 dL_sign_24

set_option maxHeartbeats 4000000 in
set_option maxRecDepth 100000 in
theorem c_L_setMark (l : Launch) (hl0 : l.stackTraces = false) (D : va_G) (K : Nat → ClassId) (sz : Nat) (ad : Nat → Nat → Nat) (n d : Nat) (S : Nat → Nat → Nat → Int32) (o : Nat) (f : Nat → Int64) (p0 : Int32) (hDJ : DJ ad n d) (ho : ∀ k i, ad k i ≠ o) : LMet l yL_setMark wsL_setMark 7 122 D K [.ref (ad 0 0), .int p0, .ref o] sz ad o f (fun H => XP D K ad n d S H) ((sp_X2_setMark S p0).1) (((sp_X2_setMark S p0).2.1).toInt64) (fun H => XP D K ad n d ((sp_X2_setMark S p0).2.2) H) := by
  refine Met_ofWH (cc := cL_setMark) (maxL := 4) (ret := some .int) (hh := [(0, 9, 12, 21)]) (by decide) rfl ?_
  intro p e s m args below meth c s₁ B hml hv
  obtain ⟨rfl, ⟨hsz, hZ, hX, hXP, hK, hE⟩, hN, hPo, hK5⟩ := hv
  have hx := B.exec
  have hb := B.bytes
  have hr := B.returns
  have hts := atoms_spec (ws := wsL_setMark) B.pre
  have hown : s.vm.findClass RL = some m.cls := findClass_of_methodNamed B.named
  have hlocks := B.notSynchronized
  have htab := vx_table (x := yL_setMark) B (hts _ List.mem_cons_self)
  have hc : CallFix p m c cL_setMark 4 s ([.ref (ad 0 0), .int p0, .ref o] : List Value).toArray wsL_setMark RL := ⟨hx, hb, hml, hown, hts⟩
  subst hsz
  have hol : o < s.heap.size := (hPo 0 _ rfl).lt
  have hox : ¬ XA ad s.heap.size o := fun h => h.elim (fun ⟨k, i, e⟩ => ho k i e) (fun h => by omega)
  have hP := hXP.2.2.1
  have hS : va_S (LA ad o s.heap.size) s.heap s.heap [] := va_S.rf
  have hl := lv_entry ([.ref (ad 0 0), .int p0, .ref o]) (n := 4) (Nat.le_of_ble_eq_true rfl)
  rw [lg_entry_eq]
  generalize (lg_sl ([.ref (ad 0 0), .int p0, .ref o]) ++ List.replicate (4 - (lg_sl ([.ref (ad 0 0), .int p0, .ref o])).length) Slot.unset).toArray = ls at hl ⊢
  have hl : lv_has ls 4 [(0, .ref (ad 0 0)), (1, .int p0), (2, .ref o)] := hl
  refine lv_aload_n hx hb dL_setMark_0 rfl (lv_at hl 2 rfl) ?_
  refine lv_iconst (v := 0) hx hb dL_setMark_1 (by decide) ?_
  refine lv_aload_n hx hb dL_setMark_2 rfl (lv_at hl 0 rfl) ?_
  refine lv_iload_n hx hb dL_setMark_3 rfl (lv_at hl 1 rfl) ?_
  refine vx_calli (vx_runV (As := [.int p0]) (rest := [.int 0, .ref o]) hc (c_X2_setMark l hl0 D K s.heap.size ad n d S p0 hDJ) (cwV 1 hts gL_setMark_X2_setMark rfl rfl rfl (by decide +kernel) ⟨(Nat.le_of_ble_eq_true rfl), (Nat.le_of_ble_eq_true rfl)⟩) ⟨XPre_blind, va_recv hK hP (ci := 2) (q0 := 0) rfl rfl, XPre_at hXP hK hE hX ⟨vx_Zq.narrow hZ.1 (fun q h => Or.inl h), vx_Zq.narrow hZ.2 (fun q h => Or.inl h)⟩⟩ rfl rfl hl.1 rfl (lv_room (Nat.le_of_ble_eq_true rfl)) dL_setMark_4 ⟨(Nat.le_of_ble_eq_true rfl), (Nat.le_of_ble_eq_true rfl)⟩) hS (fun q _ h => Or.inl h) (fun q h => Or.inl h) (fun q _ h => Or.inl h) (fun E ce q9 u t H1 locs ht hvm hp hB hz1 hk1 hS hce hcv hcl => ?_) (fun r u t H1 locs ht hvm hp hB hz1 hk1 hS => ?_)
  · have hPo1 : va_P D vwCl (oW K o f) H1 := hPo.kept (fun k q hq => by obtain ⟨x, hx1, ex⟩ : q.1 = o ∧ True ∧ True := by { rcases k with _ | k <;> simp at hq; exact ⟨by rw [← hq], trivial, trivial⟩ }; rw [x]; exact hk1 o hol hox)
    rw [ht] at hB
    obtain ⟨hen, hBx⟩ := hB
    rcases hen with ⟨hcode, rfl⟩ | ⟨hcode, rfl⟩ | ⟨hcode, rfl⟩
    · refine vx_catch (own := RL) (name := "java/lang/IllegalArgumentException") (E := "java/lang/IllegalArgumentException") hown (tableOf []) ⟨0, 9, 12, 21⟩ (tableOf []) (by rw [htab]; rfl) ?_ (by decide) (by decide) (hts (.classLink RL 21 "java/lang/IllegalArgumentException") (by decide +kernel)) (va_Nw.use rfl (hX.2 (.castable "java/lang/IllegalArgumentException" "java/lang/IllegalArgumentException") (by decide +kernel))) hce hcv hcl ?_
      · intro z hz
        exact absurd hz List.not_mem_nil
      · refine W.eq (g2 := F0 m 12 ls [.ref q9]) rfl ?_
        refine lv_astore_n (lv' := [(3, .ref q9), (0, .ref (ad 0 0)), (1, .int p0), (2, .ref o)]) hx hb dL_setMark_12 rfl hl (by decide) rfl (fun ls hl => ?_)
        refine lv_iconst (v := 1) hx hb dL_setMark_13 (by decide) ?_
        refine W.widen (k := 4) (n := 60) (Nat.le_of_ble_eq_true rfl) (Nat.le_of_ble_eq_true rfl) ?_
        exact W.iret (v := 1) hx hb hr (fun t9 ht9 hW => ⟨⟨_, (), rfl, hcode.symm, by dsimp only; rw [ht9]; exact Or.inr ⟨by rw [hcode]; decide, hBx, hPo1⟩⟩, hS.F ht9⟩) hS.2.2 dL_setMark_14
    · exfalso; unfold sp_X2_setMark at hcode; repeat' split at hcode
      all_goals first | exact absurd (show (0 : Int32) = 2 from hcode) (by decide) | exact absurd (show (1 : Int32) = 2 from hcode) (by decide) | exact absurd (show (2 : Int32) = 2 from hcode) (by decide)
    · exfalso; unfold sp_X2_setMark at hcode; repeat' split at hcode
      all_goals first | exact absurd (show (0 : Int32) = 3 from hcode) (by decide) | exact absurd (show (1 : Int32) = 3 from hcode) (by decide) | exact absurd (show (2 : Int32) = 3 from hcode) (by decide)
  · obtain ⟨hcode, rfl⟩ := hp
    rw [ht] at hB
    have hPo1 : va_P D vwCl (oW K o f) H1 := hPo.kept (fun k q hq => by obtain ⟨x, hx1, ex⟩ : q.1 = o ∧ True ∧ True := by { rcases k with _ | k <;> simp at hq; exact ⟨by rw [← hq], trivial, trivial⟩ }; rw [x]; exact hk1 o hol hox)
    refine W.eq (g2 := F0 m 7 ls [.int ((sp_X2_setMark S p0).2.1), .int 0, .ref o]) rfl ?_
    refine lv_i2l hx hb dL_setMark_7 rfl ?_
    refine vo_last (A := LA ad o s.heap.size) hx hb hK5 hPo1 (Or.inr rfl) hS dL_setMark_8 (fun H9 locs hP9 oq9 hS => ?_)
    refine lv_goto (tgt := 15) hx hb dL_setMark_9 (by decide) ?_
    refine lv_iconst (v := 0) hx hb dL_setMark_15 (by decide) ?_
    refine W.widen (k := 4) (n := 60) (Nat.le_of_ble_eq_true rfl) (Nat.le_of_ble_eq_true rfl) ?_
    exact W.iret (v := 0) hx hb hr (fun t9 ht9 hW => ⟨⟨_, (), rfl, hcode.symm, by dsimp only; rw [ht9]; exact Or.inl ⟨hcode, XP_off ho hB oq9, hP9⟩⟩, hS.F ht9⟩) hS.2.2 dL_setMark_16

set_option maxHeartbeats 4000000 in
set_option maxRecDepth 100000 in
theorem c_L_file (l : Launch) (hl0 : l.stackTraces = false) (D : va_G) (K : Nat → ClassId) (sz : Nat) (ad : Nat → Nat → Nat) (n d : Nat) (S : Nat → Nat → Nat → Int32) (o : Nat) (f : Nat → Int64) (p0 p1 : Int32) (hDJ : DJ ad n d) (ho : ∀ k i, ad k i ≠ o) : LMet l yL_file wsL_file 7 161 D K [.ref (ad 0 0), .int p0, .int p1, .ref o] sz ad o f (fun H => XP D K ad n d S H) ((sp_X2_file n d S p0 p1).1) (((sp_X2_file n d S p0 p1).2.1).toInt64) (fun H => ∃ ad2, XP D K ad2 n (d + 1) ((sp_X2_file n d S p0 p1).2.2) H ∧ DJ ad2 n (d + 1) ∧ ∀ k i, ad2 k i = ad k i ∨ 4 ≤ k ∧ sz ≤ ad2 k i) := by
  refine Met_ofWH (cc := cL_file) (maxL := 5) (ret := some .int) (hh := [(0, 10, 13, 21), (0, 10, 17, 13)]) (by decide) rfl ?_
  intro p e s m args below meth c s₁ B hml hv
  obtain ⟨rfl, ⟨hsz, hZ, hX, hXP, hK, hE⟩, hN, hPo, hK5⟩ := hv
  have hx := B.exec
  have hb := B.bytes
  have hr := B.returns
  have hts := atoms_spec (ws := wsL_file) B.pre
  have hown : s.vm.findClass RL = some m.cls := findClass_of_methodNamed B.named
  have hlocks := B.notSynchronized
  have htab := vx_table (x := yL_file) B (hts _ List.mem_cons_self)
  have hc : CallFix p m c cL_file 5 s ([.ref (ad 0 0), .int p0, .int p1, .ref o] : List Value).toArray wsL_file RL := ⟨hx, hb, hml, hown, hts⟩
  subst hsz
  have hol : o < s.heap.size := (hPo 0 _ rfl).lt
  have hox : ¬ XA ad s.heap.size o := fun h => h.elim (fun ⟨k, i, e⟩ => ho k i e) (fun h => by omega)
  have hP := hXP.2.2.1
  have hS : va_S (LA ad o s.heap.size) s.heap s.heap [] := va_S.rf
  have hl := lv_entry ([.ref (ad 0 0), .int p0, .int p1, .ref o]) (n := 5) (Nat.le_of_ble_eq_true rfl)
  rw [lg_entry_eq]
  generalize (lg_sl ([.ref (ad 0 0), .int p0, .int p1, .ref o]) ++ List.replicate (5 - (lg_sl ([.ref (ad 0 0), .int p0, .int p1, .ref o])).length) Slot.unset).toArray = ls at hl ⊢
  have hl : lv_has ls 5 [(0, .ref (ad 0 0)), (1, .int p0), (2, .int p1), (3, .ref o)] := hl
  refine lv_aload_n hx hb dL_file_0 rfl (lv_at hl 3 rfl) ?_
  refine lv_iconst (v := 0) hx hb dL_file_1 (by decide) ?_
  refine lv_aload_n hx hb dL_file_2 rfl (lv_at hl 0 rfl) ?_
  refine lv_iload_n hx hb dL_file_3 rfl (lv_at hl 1 rfl) ?_
  refine lv_iload_n hx hb dL_file_4 rfl (lv_at hl 2 rfl) ?_
  refine vx_calli (vx_runV (As := [.int p0, .int p1]) (rest := [.int 0, .ref o]) hc (c_X2_file l hl0 D K s.heap.size ad n d S p0 p1 hDJ) (cwV 2 hts gL_file_X2_file rfl rfl rfl (by decide +kernel) ⟨(Nat.le_of_ble_eq_true rfl), (Nat.le_of_ble_eq_true rfl)⟩) ⟨XPre_blind, va_recv hK hP (ci := 2) (q0 := 0) rfl rfl, XPre_at hXP hK hE hX ⟨vx_Zq.narrow hZ.1 (fun q h => Or.inl h), vx_Zq.narrow hZ.2 (fun q h => Or.inl h)⟩⟩ rfl rfl hl.1 rfl (lv_room (Nat.le_of_ble_eq_true rfl)) dL_file_5 ⟨(Nat.le_of_ble_eq_true rfl), (Nat.le_of_ble_eq_true rfl)⟩) hS (fun q _ h => Or.inl h) (fun q h => Or.inl h) (fun q _ h => Or.inl h) (fun E ce q9 u t H1 locs ht hvm hp hB hz1 hk1 hS hce hcv hcl => ?_) (fun r u t H1 locs ht hvm hp hB hz1 hk1 hS => ?_)
  · have hPo1 : va_P D vwCl (oW K o f) H1 := hPo.kept (fun k q hq => by obtain ⟨x, hx1, ex⟩ : q.1 = o ∧ True ∧ True := by { rcases k with _ | k <;> simp at hq; exact ⟨by rw [← hq], trivial, trivial⟩ }; rw [x]; exact hk1 o hol hox)
    rw [ht] at hB
    obtain ⟨hen, hBx⟩ := hB
    rcases hen with ⟨hcode, rfl⟩ | ⟨hcode, rfl⟩ | ⟨hcode, rfl⟩
    · refine vx_catch (own := RL) (name := "java/lang/IllegalArgumentException") (E := "java/lang/IllegalArgumentException") hown (tableOf []) ⟨0, 10, 13, 21⟩ (tableOf [(0, 10, 17, 13)]) (by rw [htab]; rfl) ?_ (by decide) (by decide) (hts (.classLink RL 21 "java/lang/IllegalArgumentException") (by decide +kernel)) (va_Nw.use rfl (hX.2 (.castable "java/lang/IllegalArgumentException" "java/lang/IllegalArgumentException") (by decide +kernel))) hce hcv hcl ?_
      · intro z hz
        exact absurd hz List.not_mem_nil
      · refine W.eq (g2 := F0 m 13 ls [.ref q9]) rfl ?_
        refine lv_astore (lv' := [(4, .ref q9), (0, .ref (ad 0 0)), (1, .int p0), (2, .int p1), (3, .ref o)]) hx hb dL_file_13 hl (by decide) rfl (fun ls hl => ?_)
        refine lv_iconst (v := 1) hx hb dL_file_15 (by decide) ?_
        refine W.widen (k := 4) (n := 60) (Nat.le_of_ble_eq_true rfl) (Nat.le_of_ble_eq_true rfl) ?_
        exact W.iret (v := 1) hx hb hr (fun t9 ht9 hW => ⟨⟨_, (), rfl, hcode.symm, by dsimp only; rw [ht9]; exact Or.inr ⟨by rw [hcode]; decide, hBx, hPo1⟩⟩, hS.F ht9⟩) hS.2.2 dL_file_16
    · refine vx_catch (own := RL) (name := "java/lang/IllegalStateException") (E := "java/lang/IllegalStateException") hown (tableOf [(0, 10, 13, 21)]) ⟨0, 10, 17, 13⟩ (tableOf []) (by rw [htab]; rfl) ?_ (by decide) (by decide) (hts (.classLink RL 13 "java/lang/IllegalStateException") (by decide +kernel)) (va_Nw.use rfl (hX.2 (.castable "java/lang/IllegalStateException" "java/lang/IllegalStateException") (by decide +kernel))) hce hcv hcl ?_
      · intro z hz
        simp only [tableOf, List.map_cons, List.map_nil, List.mem_cons, List.not_mem_nil, or_false] at hz
        rcases hz with rfl
        · exact Or.inr ⟨by decide, "java/lang/IllegalArgumentException", hts (.classLink RL 21 "java/lang/IllegalArgumentException") (by decide +kernel), hN ("java/lang/IllegalStateException", "java/lang/IllegalArgumentException") (by decide +kernel)⟩
      · refine W.eq (g2 := F0 m 17 ls [.ref q9]) rfl ?_
        refine lv_astore (lv' := [(4, .ref q9), (0, .ref (ad 0 0)), (1, .int p0), (2, .int p1), (3, .ref o)]) hx hb dL_file_17 hl (by decide) rfl (fun ls hl => ?_)
        refine lv_iconst (v := 2) hx hb dL_file_19 (by decide) ?_
        refine W.widen (k := 4) (n := 60) (Nat.le_of_ble_eq_true rfl) (Nat.le_of_ble_eq_true rfl) ?_
        exact W.iret (v := 2) hx hb hr (fun t9 ht9 hW => ⟨⟨_, (), rfl, hcode.symm, by dsimp only; rw [ht9]; exact Or.inr ⟨by rw [hcode]; decide, hBx, hPo1⟩⟩, hS.F ht9⟩) hS.2.2 dL_file_20
    · exfalso; unfold sp_X2_file at hcode; repeat' split at hcode
      all_goals first | exact absurd (show (0 : Int32) = 3 from hcode) (by decide) | exact absurd (show (1 : Int32) = 3 from hcode) (by decide) | exact absurd (show (2 : Int32) = 3 from hcode) (by decide)
  · obtain ⟨hcode, rfl⟩ := hp
    rw [ht] at hB
    have hPo1 : va_P D vwCl (oW K o f) H1 := hPo.kept (fun k q hq => by obtain ⟨x, hx1, ex⟩ : q.1 = o ∧ True ∧ True := by { rcases k with _ | k <;> simp at hq; exact ⟨by rw [← hq], trivial, trivial⟩ }; rw [x]; exact hk1 o hol hox)
    refine W.eq (g2 := F0 m 8 ls [.int ((sp_X2_file n d S p0 p1).2.1), .int 0, .ref o]) rfl ?_
    refine lv_i2l hx hb dL_file_8 rfl ?_
    refine vo_last (A := LA ad o s.heap.size) hx hb hK5 hPo1 (Or.inr rfl) hS dL_file_9 (fun H9 locs hP9 oq9 hS => ?_)
    refine lv_goto (tgt := 21) hx hb dL_file_10 (by decide) ?_
    refine lv_iconst (v := 0) hx hb dL_file_21 (by decide) ?_
    refine W.widen (k := 4) (n := 60) (Nat.le_of_ble_eq_true rfl) (Nat.le_of_ble_eq_true rfl) ?_
    exact W.iret (v := 0) hx hb hr (fun t9 ht9 hW => ⟨⟨_, (), rfl, hcode.symm, by dsimp only; rw [ht9]; exact Or.inl ⟨hcode, (by obtain ⟨a2, g1, g2, g3⟩ := hB; exact ⟨a2, XP_off (fun k i e9 => (g3 k i).elim (fun z => ho k i (by rw [← z]; exact e9)) (fun z => by rw [e9] at z; omega)) g1 oq9, g2, g3⟩), hP9⟩⟩, hS.F ht9⟩) hS.2.2 dL_file_22

set_option maxHeartbeats 4000000 in
set_option maxRecDepth 100000 in
theorem c_L_matters (l : Launch) (hl0 : l.stackTraces = false) (D : va_G) (K : Nat → ClassId) (sz : Nat) (ad : Nat → Nat → Nat) (n d : Nat) (S : Nat → Nat → Nat → Int32) (o : Nat) (f : Nat → Int64) (p0 : Int32)  (ho : ∀ k i, ad k i ≠ o) : LMet l yL_matters wsL_matters 7 122 D K [.ref (ad 0 0), .int p0, .ref o] sz ad o f (fun H => XP D K ad n d S H) ((sp_X2_matters d S p0).1) (((sp_X2_matters d S p0).2).toInt64) (fun H => XP D K ad n d S H) := by
  refine Met_ofWH (cc := cL_matters) (maxL := 4) (ret := some .int) (hh := [(0, 9, 12, 19)]) (by decide) rfl ?_
  intro p e s m args below meth c s₁ B hml hv
  obtain ⟨rfl, ⟨hsz, hZ, hX, hXP, hK, hE⟩, hN, hPo, hK5⟩ := hv
  have hx := B.exec
  have hb := B.bytes
  have hr := B.returns
  have hts := atoms_spec (ws := wsL_matters) B.pre
  have hown : s.vm.findClass RL = some m.cls := findClass_of_methodNamed B.named
  have hlocks := B.notSynchronized
  have htab := vx_table (x := yL_matters) B (hts _ List.mem_cons_self)
  have hc : CallFix p m c cL_matters 4 s ([.ref (ad 0 0), .int p0, .ref o] : List Value).toArray wsL_matters RL := ⟨hx, hb, hml, hown, hts⟩
  subst hsz
  have hol : o < s.heap.size := (hPo 0 _ rfl).lt
  have hox : ¬ XA ad s.heap.size o := fun h => h.elim (fun ⟨k, i, e⟩ => ho k i e) (fun h => by omega)
  have hP := hXP.2.2.1
  have hS : va_S (LA ad o s.heap.size) s.heap s.heap [] := va_S.rf
  have hl := lv_entry ([.ref (ad 0 0), .int p0, .ref o]) (n := 4) (Nat.le_of_ble_eq_true rfl)
  rw [lg_entry_eq]
  generalize (lg_sl ([.ref (ad 0 0), .int p0, .ref o]) ++ List.replicate (4 - (lg_sl ([.ref (ad 0 0), .int p0, .ref o])).length) Slot.unset).toArray = ls at hl ⊢
  have hl : lv_has ls 4 [(0, .ref (ad 0 0)), (1, .int p0), (2, .ref o)] := hl
  refine lv_aload_n hx hb dL_matters_0 rfl (lv_at hl 2 rfl) ?_
  refine lv_iconst (v := 0) hx hb dL_matters_1 (by decide) ?_
  refine lv_aload_n hx hb dL_matters_2 rfl (lv_at hl 0 rfl) ?_
  refine lv_iload_n hx hb dL_matters_3 rfl (lv_at hl 1 rfl) ?_
  refine vx_calli (vx_runV (As := [.int p0]) (rest := [.int 0, .ref o]) hc (c_X2_matters l hl0 D K s.heap.size ad n d S p0 ) (cwV 1 hts gL_matters_X2_matters rfl rfl rfl (by decide +kernel) ⟨(Nat.le_of_ble_eq_true rfl), (Nat.le_of_ble_eq_true rfl)⟩) ⟨XPre_blind, va_recv hK hP (ci := 2) (q0 := 0) rfl rfl, XPre_at hXP hK hE hX ⟨vx_Zq.narrow hZ.1 (fun q h => Or.inl h), vx_Zq.narrow hZ.2 (fun q h => Or.inl h)⟩⟩ rfl rfl hl.1 rfl (lv_room (Nat.le_of_ble_eq_true rfl)) dL_matters_4 ⟨(Nat.le_of_ble_eq_true rfl), (Nat.le_of_ble_eq_true rfl)⟩) hS (fun q _ h => Or.inl h) (fun q h => Or.inl h) (fun q _ h => Or.inl h) (fun E ce q9 u t H1 locs ht hvm hp hB hz1 hk1 hS hce hcv hcl => ?_) (fun r u t H1 locs ht hvm hp hB hz1 hk1 hS => ?_)
  · have hPo1 : va_P D vwCl (oW K o f) H1 := hPo.kept (fun k q hq => by obtain ⟨x, hx1, ex⟩ : q.1 = o ∧ True ∧ True := by { rcases k with _ | k <;> simp at hq; exact ⟨by rw [← hq], trivial, trivial⟩ }; rw [x]; exact hk1 o hol hox)
    rw [ht] at hB
    obtain ⟨hen, hBx⟩ := hB
    rcases hen with ⟨hcode, rfl⟩ | ⟨hcode, rfl⟩ | ⟨hcode, rfl⟩
    · refine vx_catch (own := RL) (name := "java/lang/IndexOutOfBoundsException") (E := "java/lang/IndexOutOfBoundsException") hown (tableOf []) ⟨0, 9, 12, 19⟩ (tableOf []) (by rw [htab]; rfl) ?_ (by decide) (by decide) (hts (.classLink RL 19 "java/lang/IndexOutOfBoundsException") (by decide +kernel)) (va_Nw.use rfl (hX.2 (.castable "java/lang/IndexOutOfBoundsException" "java/lang/IndexOutOfBoundsException") (by decide +kernel))) hce hcv hcl ?_
      · intro z hz
        exact absurd hz List.not_mem_nil
      · refine W.eq (g2 := F0 m 12 ls [.ref q9]) rfl ?_
        refine lv_astore_n (lv' := [(3, .ref q9), (0, .ref (ad 0 0)), (1, .int p0), (2, .ref o)]) hx hb dL_matters_12 rfl hl (by decide) rfl (fun ls hl => ?_)
        refine lv_iconst (v := 1) hx hb dL_matters_13 (by decide) ?_
        refine W.widen (k := 4) (n := 60) (Nat.le_of_ble_eq_true rfl) (Nat.le_of_ble_eq_true rfl) ?_
        exact W.iret (v := 1) hx hb hr (fun t9 ht9 hW => ⟨⟨_, (), rfl, hcode.symm, by dsimp only; rw [ht9]; exact Or.inr ⟨by rw [hcode]; decide, hBx, hPo1⟩⟩, hS.F ht9⟩) hS.2.2 dL_matters_14
    · exfalso; unfold sp_X2_matters at hcode; repeat' split at hcode
      all_goals first | exact absurd (show (0 : Int32) = 2 from hcode) (by decide) | exact absurd (show (1 : Int32) = 2 from hcode) (by decide) | exact absurd (show (2 : Int32) = 2 from hcode) (by decide)
    · exfalso; unfold sp_X2_matters at hcode; repeat' split at hcode
      all_goals first | exact absurd (show (0 : Int32) = 3 from hcode) (by decide) | exact absurd (show (1 : Int32) = 3 from hcode) (by decide) | exact absurd (show (2 : Int32) = 3 from hcode) (by decide)
  · obtain ⟨hcode, rfl⟩ := hp
    rw [ht] at hB
    have hPo1 : va_P D vwCl (oW K o f) H1 := hPo.kept (fun k q hq => by obtain ⟨x, hx1, ex⟩ : q.1 = o ∧ True ∧ True := by { rcases k with _ | k <;> simp at hq; exact ⟨by rw [← hq], trivial, trivial⟩ }; rw [x]; exact hk1 o hol hox)
    refine W.eq (g2 := F0 m 7 ls [.int ((sp_X2_matters d S p0).2), .int 0, .ref o]) rfl ?_
    refine lv_i2l hx hb dL_matters_7 rfl ?_
    refine vo_last (A := LA ad o s.heap.size) hx hb hK5 hPo1 (Or.inr rfl) hS dL_matters_8 (fun H9 locs hP9 oq9 hS => ?_)
    refine lv_goto (tgt := 15) hx hb dL_matters_9 (by decide) ?_
    refine lv_iconst (v := 0) hx hb dL_matters_15 (by decide) ?_
    refine W.widen (k := 4) (n := 60) (Nat.le_of_ble_eq_true rfl) (Nat.le_of_ble_eq_true rfl) ?_
    exact W.iret (v := 0) hx hb hr (fun t9 ht9 hW => ⟨⟨_, (), rfl, hcode.symm, by dsimp only; rw [ht9]; exact Or.inl ⟨hcode, XP_off ho hB oq9, hP9⟩⟩, hS.F ht9⟩) hS.2.2 dL_matters_16

set_option maxHeartbeats 4000000 in
set_option maxRecDepth 100000 in
theorem c_L_tell (l : Launch) (hl0 : l.stackTraces = false) (D : va_G) (K : Nat → ClassId) (sz : Nat) (ad : Nat → Nat → Nat) (n d : Nat) (S : Nat → Nat → Nat → Int32) (o : Nat) (f : Nat → Int64) (p0 p1 p2 : Int32) (hDJ : DJ ad n d) (hz : ∀ j, j < d → narrow .boolean (.int (S 14 j 0)) = .int (S 14 j 0)) (hO : ∀ j, j < d → sp_X2_isBidder (S 7 j 0) = true ∧ sp_X2_isBidder (S 8 j 0) = true) (ho : ∀ k i, ad k i ≠ o) : LMet l yL_tell wsL_tell 7 124 D K [.ref (ad 0 0), .int p0, .int p1, .int p2, .ref o] sz ad o f (fun H => XP D K ad n d S H) ((sp_X2_tell n d S p0 p1 p2).1) (if (sp_X2_tell n d S p0 p1 p2).2.1 = 0 then (0 : Int64) else 1) (fun H => XP D K ad n d ((sp_X2_tell n d S p0 p1 p2).2.2) H) := by
  refine Met_ofWH (cc := cL_tell) (maxL := 6) (ret := some .int) (hh := [(0, 19, 22, 19), (0, 19, 26, 21), (0, 19, 30, 13)]) (by decide) rfl ?_
  intro p e s m args below meth c s₁ B hml hv
  obtain ⟨rfl, ⟨hsz, hZ, hX, hXP, hK, hE⟩, hN, hPo, hK5⟩ := hv
  have hx := B.exec
  have hb := B.bytes
  have hr := B.returns
  have hts := atoms_spec (ws := wsL_tell) B.pre
  have hown : s.vm.findClass RL = some m.cls := findClass_of_methodNamed B.named
  have hlocks := B.notSynchronized
  have htab := vx_table (x := yL_tell) B (hts _ List.mem_cons_self)
  have hc : CallFix p m c cL_tell 6 s ([.ref (ad 0 0), .int p0, .int p1, .int p2, .ref o] : List Value).toArray wsL_tell RL := ⟨hx, hb, hml, hown, hts⟩
  subst hsz
  have hol : o < s.heap.size := (hPo 0 _ rfl).lt
  have hox : ¬ XA ad s.heap.size o := fun h => h.elim (fun ⟨k, i, e⟩ => ho k i e) (fun h => by omega)
  have hP := hXP.2.2.1
  have hS : va_S (LA ad o s.heap.size) s.heap s.heap [] := va_S.rf
  have hl := lv_entry ([.ref (ad 0 0), .int p0, .int p1, .int p2, .ref o]) (n := 6) (Nat.le_of_ble_eq_true rfl)
  rw [lg_entry_eq]
  generalize (lg_sl ([.ref (ad 0 0), .int p0, .int p1, .int p2, .ref o]) ++ List.replicate (6 - (lg_sl ([.ref (ad 0 0), .int p0, .int p1, .int p2, .ref o])).length) Slot.unset).toArray = ls at hl ⊢
  have hl : lv_has ls 6 [(0, .ref (ad 0 0)), (1, .int p0), (2, .int p1), (3, .int p2), (4, .ref o)] := hl
  refine lv_aload hx hb dL_tell_0 (lv_at hl 4 rfl) ?_
  refine lv_iconst (v := 0) hx hb dL_tell_2 (by decide) ?_
  refine lv_aload_n hx hb dL_tell_3 rfl (lv_at hl 0 rfl) ?_
  refine lv_iload_n hx hb dL_tell_4 rfl (lv_at hl 1 rfl) ?_
  refine lv_iload_n hx hb dL_tell_5 rfl (lv_at hl 2 rfl) ?_
  refine lv_iload_n hx hb dL_tell_6 rfl (lv_at hl 3 rfl) ?_
  refine vx_calli (vx_runV (As := [.int p0, .int p1, .int p2]) (rest := [.int 0, .ref o]) hc (c_X2_tell l hl0 D K s.heap.size ad n d S p0 p1 p2 hDJ hz hO) (cwV 3 hts gL_tell_X2_tell rfl rfl rfl (by decide +kernel) ⟨(Nat.le_of_ble_eq_true rfl), (Nat.le_of_ble_eq_true rfl)⟩) ⟨XPre_blind, va_recv hK hP (ci := 2) (q0 := 0) rfl rfl, XPre_at hXP hK hE hX ⟨vx_Zq.narrow hZ.1 (fun q h => Or.inl h), vx_Zq.narrow hZ.2 (fun q h => Or.inl h)⟩⟩ rfl rfl hl.1 rfl (lv_room (Nat.le_of_ble_eq_true rfl)) dL_tell_7 ⟨(Nat.le_of_ble_eq_true rfl), (Nat.le_of_ble_eq_true rfl)⟩) hS (fun q _ h => Or.inl h) (fun q h => Or.inl h) (fun q _ h => Or.inl h) (fun E ce q9 u t H1 locs ht hvm hp hB hz1 hk1 hS hce hcv hcl => ?_) (fun r u t H1 locs ht hvm hp hB hz1 hk1 hS => ?_)
  · have hPo1 : va_P D vwCl (oW K o f) H1 := hPo.kept (fun k q hq => by obtain ⟨x, hx1, ex⟩ : q.1 = o ∧ True ∧ True := by { rcases k with _ | k <;> simp at hq; exact ⟨by rw [← hq], trivial, trivial⟩ }; rw [x]; exact hk1 o hol hox)
    rw [ht] at hB
    obtain ⟨hen, hBx⟩ := hB
    rcases hen with ⟨hcode, rfl⟩ | ⟨hcode, rfl⟩ | ⟨hcode, rfl⟩
    · refine vx_catch (own := RL) (name := "java/lang/IndexOutOfBoundsException") (E := "java/lang/IndexOutOfBoundsException") hown (tableOf []) ⟨0, 19, 22, 19⟩ (tableOf [(0, 19, 26, 21), (0, 19, 30, 13)]) (by rw [htab]; rfl) ?_ (by decide) (by decide) (hts (.classLink RL 19 "java/lang/IndexOutOfBoundsException") (by decide +kernel)) (va_Nw.use rfl (hX.2 (.castable "java/lang/IndexOutOfBoundsException" "java/lang/IndexOutOfBoundsException") (by decide +kernel))) hce hcv hcl ?_
      · intro z hz
        exact absurd hz List.not_mem_nil
      · refine W.eq (g2 := F0 m 22 ls [.ref q9]) rfl ?_
        refine lv_astore (lv' := [(5, .ref q9), (0, .ref (ad 0 0)), (1, .int p0), (2, .int p1), (3, .int p2), (4, .ref o)]) hx hb dL_tell_22 hl (by decide) rfl (fun ls hl => ?_)
        refine lv_iconst (v := 1) hx hb dL_tell_24 (by decide) ?_
        refine W.widen (k := 4) (n := 60) (Nat.le_of_ble_eq_true rfl) (Nat.le_of_ble_eq_true rfl) ?_
        exact W.iret (v := 1) hx hb hr (fun t9 ht9 hW => ⟨⟨_, (), rfl, hcode.symm, by dsimp only; rw [ht9]; exact Or.inr ⟨by rw [hcode]; decide, hBx, hPo1⟩⟩, hS.F ht9⟩) hS.2.2 dL_tell_25
    · refine vx_catch (own := RL) (name := "java/lang/IllegalArgumentException") (E := "java/lang/IllegalArgumentException") hown (tableOf [(0, 19, 22, 19)]) ⟨0, 19, 26, 21⟩ (tableOf [(0, 19, 30, 13)]) (by rw [htab]; rfl) ?_ (by decide) (by decide) (hts (.classLink RL 21 "java/lang/IllegalArgumentException") (by decide +kernel)) (va_Nw.use rfl (hX.2 (.castable "java/lang/IllegalArgumentException" "java/lang/IllegalArgumentException") (by decide +kernel))) hce hcv hcl ?_
      · intro z hz
        simp only [tableOf, List.map_cons, List.map_nil, List.mem_cons, List.not_mem_nil, or_false] at hz
        rcases hz with rfl
        · exact Or.inr ⟨by decide, "java/lang/IndexOutOfBoundsException", hts (.classLink RL 19 "java/lang/IndexOutOfBoundsException") (by decide +kernel), hN ("java/lang/IllegalArgumentException", "java/lang/IndexOutOfBoundsException") (by decide +kernel)⟩
      · refine W.eq (g2 := F0 m 26 ls [.ref q9]) rfl ?_
        refine lv_astore (lv' := [(5, .ref q9), (0, .ref (ad 0 0)), (1, .int p0), (2, .int p1), (3, .int p2), (4, .ref o)]) hx hb dL_tell_26 hl (by decide) rfl (fun ls hl => ?_)
        refine lv_iconst (v := 2) hx hb dL_tell_28 (by decide) ?_
        refine W.widen (k := 4) (n := 60) (Nat.le_of_ble_eq_true rfl) (Nat.le_of_ble_eq_true rfl) ?_
        exact W.iret (v := 2) hx hb hr (fun t9 ht9 hW => ⟨⟨_, (), rfl, hcode.symm, by dsimp only; rw [ht9]; exact Or.inr ⟨by rw [hcode]; decide, hBx, hPo1⟩⟩, hS.F ht9⟩) hS.2.2 dL_tell_29
    · refine vx_catch (own := RL) (name := "java/lang/IllegalStateException") (E := "java/lang/IllegalStateException") hown (tableOf [(0, 19, 22, 19), (0, 19, 26, 21)]) ⟨0, 19, 30, 13⟩ (tableOf []) (by rw [htab]; rfl) ?_ (by decide) (by decide) (hts (.classLink RL 13 "java/lang/IllegalStateException") (by decide +kernel)) (va_Nw.use rfl (hX.2 (.castable "java/lang/IllegalStateException" "java/lang/IllegalStateException") (by decide +kernel))) hce hcv hcl ?_
      · intro z hz
        simp only [tableOf, List.map_cons, List.map_nil, List.mem_cons, List.not_mem_nil, or_false] at hz
        rcases hz with rfl | rfl
        · exact Or.inr ⟨by decide, "java/lang/IndexOutOfBoundsException", hts (.classLink RL 19 "java/lang/IndexOutOfBoundsException") (by decide +kernel), hN ("java/lang/IllegalStateException", "java/lang/IndexOutOfBoundsException") (by decide +kernel)⟩
        · exact Or.inr ⟨by decide, "java/lang/IllegalArgumentException", hts (.classLink RL 21 "java/lang/IllegalArgumentException") (by decide +kernel), hN ("java/lang/IllegalStateException", "java/lang/IllegalArgumentException") (by decide +kernel)⟩
      · refine W.eq (g2 := F0 m 30 ls [.ref q9]) rfl ?_
        refine lv_astore (lv' := [(5, .ref q9), (0, .ref (ad 0 0)), (1, .int p0), (2, .int p1), (3, .int p2), (4, .ref o)]) hx hb dL_tell_30 hl (by decide) rfl (fun ls hl => ?_)
        refine lv_iconst (v := 3) hx hb dL_tell_32 (by decide) ?_
        refine W.widen (k := 4) (n := 60) (Nat.le_of_ble_eq_true rfl) (Nat.le_of_ble_eq_true rfl) ?_
        exact W.iret (v := 3) hx hb hr (fun t9 ht9 hW => ⟨⟨_, (), rfl, hcode.symm, by dsimp only; rw [ht9]; exact Or.inr ⟨by rw [hcode]; decide, hBx, hPo1⟩⟩, hS.F ht9⟩) hS.2.2 dL_tell_33
  · obtain ⟨hcode, rfl⟩ := hp
    rw [ht] at hB
    have hPo1 : va_P D vwCl (oW K o f) H1 := hPo.kept (fun k q hq => by obtain ⟨x, hx1, ex⟩ : q.1 = o ∧ True ∧ True := by { rcases k with _ | k <;> simp at hq; exact ⟨by rw [← hq], trivial, trivial⟩ }; rw [x]; exact hk1 o hol hox)
    refine W.eq (g2 := F0 m 10 ls [.int ((sp_X2_tell n d S p0 p1 p2).2.1), .int 0, .ref o]) rfl ?_
    refine lv_if_eq (tgt := 17) hx hb dL_tell_10 (by decide) (fun c_10 => ?_) (fun c_10 => ?_)
    · skip
      refine lv_lconst (v := 0) hx hb dL_tell_17 (by decide) ?_
      refine vo_last (A := LA ad o s.heap.size) hx hb hK5 hPo1 (Or.inr rfl) hS dL_tell_18 (fun H9 locs hP9 oq9 hS => ?_)
      refine lv_goto (tgt := 34) hx hb dL_tell_19 (by decide) ?_
      refine lv_iconst (v := 0) hx hb dL_tell_34 (by decide) ?_
      refine W.widen (k := 4) (n := 60) (Nat.le_of_ble_eq_true rfl) (Nat.le_of_ble_eq_true rfl) ?_
      exact W.iret (v := 0) hx hb hr (fun t9 ht9 hW => ⟨⟨_, (), rfl, hcode.symm, by dsimp only; rw [ht9]; exact Or.inl ⟨hcode, XP_off ho hB oq9, by rw [(if_pos c_10)]; exact hP9⟩⟩, hS.F ht9⟩) hS.2.2 dL_tell_35
    · skip
      refine lv_lconst (v := 1) hx hb dL_tell_13 (by decide) ?_
      refine lv_goto (tgt := 18) hx hb dL_tell_14 (by decide) ?_
      refine vo_last (A := LA ad o s.heap.size) hx hb hK5 hPo1 (Or.inr rfl) hS dL_tell_18 (fun H9 locs hP9 oq9 hS => ?_)
      refine lv_goto (tgt := 34) hx hb dL_tell_19 (by decide) ?_
      refine lv_iconst (v := 0) hx hb dL_tell_34 (by decide) ?_
      refine W.widen (k := 4) (n := 60) (Nat.le_of_ble_eq_true rfl) (Nat.le_of_ble_eq_true rfl) ?_
      exact W.iret (v := 0) hx hb hr (fun t9 ht9 hW => ⟨⟨_, (), rfl, hcode.symm, by dsimp only; rw [ht9]; exact Or.inl ⟨hcode, XP_off ho hB oq9, by rw [(if_neg c_10)]; exact hP9⟩⟩, hS.F ht9⟩) hS.2.2 dL_tell_35

set_option maxHeartbeats 4000000 in
set_option maxRecDepth 100000 in
theorem c_L_compensate (l : Launch) (hl0 : l.stackTraces = false) (D : va_G) (K : Nat → ClassId) (sz : Nat) (ad : Nat → Nat → Nat) (n d : Nat) (S : Nat → Nat → Nat → Int32) (o : Nat) (f : Nat → Int64) (p0 p1 : Int32) (hDJ : DJ ad n d) (ho : ∀ k i, ad k i ≠ o) : LMet l yL_compensate wsL_compensate 7 122 D K [.ref (ad 0 0), .int p0, .int p1, .ref o] sz ad o f (fun H => XP D K ad n d S H) ((sp_X2_compensate S p0 p1).1) (((sp_X2_compensate S p0 p1).2.1).toInt64) (fun H => XP D K ad n d ((sp_X2_compensate S p0 p1).2.2) H) := by
  refine Met_ofWH (cc := cL_compensate) (maxL := 5) (ret := some .int) (hh := [(0, 10, 13, 21)]) (by decide) rfl ?_
  intro p e s m args below meth c s₁ B hml hv
  obtain ⟨rfl, ⟨hsz, hZ, hX, hXP, hK, hE⟩, hN, hPo, hK5⟩ := hv
  have hx := B.exec
  have hb := B.bytes
  have hr := B.returns
  have hts := atoms_spec (ws := wsL_compensate) B.pre
  have hown : s.vm.findClass RL = some m.cls := findClass_of_methodNamed B.named
  have hlocks := B.notSynchronized
  have htab := vx_table (x := yL_compensate) B (hts _ List.mem_cons_self)
  have hc : CallFix p m c cL_compensate 5 s ([.ref (ad 0 0), .int p0, .int p1, .ref o] : List Value).toArray wsL_compensate RL := ⟨hx, hb, hml, hown, hts⟩
  subst hsz
  have hol : o < s.heap.size := (hPo 0 _ rfl).lt
  have hox : ¬ XA ad s.heap.size o := fun h => h.elim (fun ⟨k, i, e⟩ => ho k i e) (fun h => by omega)
  have hP := hXP.2.2.1
  have hS : va_S (LA ad o s.heap.size) s.heap s.heap [] := va_S.rf
  have hl := lv_entry ([.ref (ad 0 0), .int p0, .int p1, .ref o]) (n := 5) (Nat.le_of_ble_eq_true rfl)
  rw [lg_entry_eq]
  generalize (lg_sl ([.ref (ad 0 0), .int p0, .int p1, .ref o]) ++ List.replicate (5 - (lg_sl ([.ref (ad 0 0), .int p0, .int p1, .ref o])).length) Slot.unset).toArray = ls at hl ⊢
  have hl : lv_has ls 5 [(0, .ref (ad 0 0)), (1, .int p0), (2, .int p1), (3, .ref o)] := hl
  refine lv_aload_n hx hb dL_compensate_0 rfl (lv_at hl 3 rfl) ?_
  refine lv_iconst (v := 0) hx hb dL_compensate_1 (by decide) ?_
  refine lv_aload_n hx hb dL_compensate_2 rfl (lv_at hl 0 rfl) ?_
  refine lv_iload_n hx hb dL_compensate_3 rfl (lv_at hl 1 rfl) ?_
  refine lv_iload_n hx hb dL_compensate_4 rfl (lv_at hl 2 rfl) ?_
  refine vx_calli (vx_runV (As := [.int p0, .int p1]) (rest := [.int 0, .ref o]) hc (c_X2_compensate l hl0 D K s.heap.size ad n d S p0 p1 hDJ) (cwV 2 hts gL_compensate_X2_compensate rfl rfl rfl (by decide +kernel) ⟨(Nat.le_of_ble_eq_true rfl), (Nat.le_of_ble_eq_true rfl)⟩) ⟨XPre_blind, va_recv hK hP (ci := 2) (q0 := 0) rfl rfl, XPre_at hXP hK hE hX ⟨vx_Zq.narrow hZ.1 (fun q h => Or.inl h), vx_Zq.narrow hZ.2 (fun q h => Or.inl h)⟩⟩ rfl rfl hl.1 rfl (lv_room (Nat.le_of_ble_eq_true rfl)) dL_compensate_5 ⟨(Nat.le_of_ble_eq_true rfl), (Nat.le_of_ble_eq_true rfl)⟩) hS (fun q _ h => Or.inl h) (fun q h => Or.inl h) (fun q _ h => Or.inl h) (fun E ce q9 u t H1 locs ht hvm hp hB hz1 hk1 hS hce hcv hcl => ?_) (fun r u t H1 locs ht hvm hp hB hz1 hk1 hS => ?_)
  · have hPo1 : va_P D vwCl (oW K o f) H1 := hPo.kept (fun k q hq => by obtain ⟨x, hx1, ex⟩ : q.1 = o ∧ True ∧ True := by { rcases k with _ | k <;> simp at hq; exact ⟨by rw [← hq], trivial, trivial⟩ }; rw [x]; exact hk1 o hol hox)
    rw [ht] at hB
    obtain ⟨hen, hBx⟩ := hB
    rcases hen with ⟨hcode, rfl⟩ | ⟨hcode, rfl⟩ | ⟨hcode, rfl⟩
    · refine vx_catch (own := RL) (name := "java/lang/IllegalArgumentException") (E := "java/lang/IllegalArgumentException") hown (tableOf []) ⟨0, 10, 13, 21⟩ (tableOf []) (by rw [htab]; rfl) ?_ (by decide) (by decide) (hts (.classLink RL 21 "java/lang/IllegalArgumentException") (by decide +kernel)) (va_Nw.use rfl (hX.2 (.castable "java/lang/IllegalArgumentException" "java/lang/IllegalArgumentException") (by decide +kernel))) hce hcv hcl ?_
      · intro z hz
        exact absurd hz List.not_mem_nil
      · refine W.eq (g2 := F0 m 13 ls [.ref q9]) rfl ?_
        refine lv_astore (lv' := [(4, .ref q9), (0, .ref (ad 0 0)), (1, .int p0), (2, .int p1), (3, .ref o)]) hx hb dL_compensate_13 hl (by decide) rfl (fun ls hl => ?_)
        refine lv_iconst (v := 1) hx hb dL_compensate_15 (by decide) ?_
        refine W.widen (k := 4) (n := 60) (Nat.le_of_ble_eq_true rfl) (Nat.le_of_ble_eq_true rfl) ?_
        exact W.iret (v := 1) hx hb hr (fun t9 ht9 hW => ⟨⟨_, (), rfl, hcode.symm, by dsimp only; rw [ht9]; exact Or.inr ⟨by rw [hcode]; decide, hBx, hPo1⟩⟩, hS.F ht9⟩) hS.2.2 dL_compensate_16
    · exfalso; unfold sp_X2_compensate at hcode; repeat' split at hcode
      all_goals first | exact absurd (show (0 : Int32) = 2 from hcode) (by decide) | exact absurd (show (1 : Int32) = 2 from hcode) (by decide) | exact absurd (show (2 : Int32) = 2 from hcode) (by decide)
    · exfalso; unfold sp_X2_compensate at hcode; repeat' split at hcode
      all_goals first | exact absurd (show (0 : Int32) = 3 from hcode) (by decide) | exact absurd (show (1 : Int32) = 3 from hcode) (by decide) | exact absurd (show (2 : Int32) = 3 from hcode) (by decide)
  · obtain ⟨hcode, rfl⟩ := hp
    rw [ht] at hB
    have hPo1 : va_P D vwCl (oW K o f) H1 := hPo.kept (fun k q hq => by obtain ⟨x, hx1, ex⟩ : q.1 = o ∧ True ∧ True := by { rcases k with _ | k <;> simp at hq; exact ⟨by rw [← hq], trivial, trivial⟩ }; rw [x]; exact hk1 o hol hox)
    refine W.eq (g2 := F0 m 8 ls [.int ((sp_X2_compensate S p0 p1).2.1), .int 0, .ref o]) rfl ?_
    refine lv_i2l hx hb dL_compensate_8 rfl ?_
    refine vo_last (A := LA ad o s.heap.size) hx hb hK5 hPo1 (Or.inr rfl) hS dL_compensate_9 (fun H9 locs hP9 oq9 hS => ?_)
    refine lv_goto (tgt := 17) hx hb dL_compensate_10 (by decide) ?_
    refine lv_iconst (v := 0) hx hb dL_compensate_17 (by decide) ?_
    refine W.widen (k := 4) (n := 60) (Nat.le_of_ble_eq_true rfl) (Nat.le_of_ble_eq_true rfl) ?_
    exact W.iret (v := 0) hx hb hr (fun t9 ht9 hW => ⟨⟨_, (), rfl, hcode.symm, by dsimp only; rw [ht9]; exact Or.inl ⟨hcode, XP_off ho hB oq9, hP9⟩⟩, hS.F ht9⟩) hS.2.2 dL_compensate_18

set_option maxHeartbeats 4000000 in
set_option maxRecDepth 100000 in
theorem c_L_close (l : Launch) (hl0 : l.stackTraces = false) (D : va_G) (K : Nat → ClassId) (sz : Nat) (ad : Nat → Nat → Nat) (n d : Nat) (S : Nat → Nat → Nat → Int32) (o : Nat) (f : Nat → Int64) (p0 : Int32) (hDJ : DJ ad n d) (hz : ∀ j, j < d → narrow .boolean (.int (S 14 j 0)) = .int (S 14 j 0)) (hO : ∀ j, j < d → sp_X2_isBidder (S 7 j 0) = true ∧ sp_X2_isBidder (S 8 j 0) = true) (ho : ∀ k i, ad k i ≠ o) : LMet l yL_close wsL_close 7 134 D K [.ref (ad 0 0), .int p0, .ref o] sz ad o f (fun H => XP D K ad n d S H) ((sp_X2_close n d S p0).1) (((sp_X2_close n d S p0).2.1).toInt64) (fun H => XP D K ad n d ((sp_X2_close n d S p0).2.2) H) := by
  refine Met_ofWH (cc := cL_close) (maxL := 4) (ret := some .int) (hh := [(0, 9, 12, 19), (0, 9, 15, 13)]) (by decide) rfl ?_
  intro p e s m args below meth c s₁ B hml hv
  obtain ⟨rfl, ⟨hsz, hZ, hX, hXP, hK, hE⟩, hN, hPo, hK5⟩ := hv
  have hx := B.exec
  have hb := B.bytes
  have hr := B.returns
  have hts := atoms_spec (ws := wsL_close) B.pre
  have hown : s.vm.findClass RL = some m.cls := findClass_of_methodNamed B.named
  have hlocks := B.notSynchronized
  have htab := vx_table (x := yL_close) B (hts _ List.mem_cons_self)
  have hc : CallFix p m c cL_close 4 s ([.ref (ad 0 0), .int p0, .ref o] : List Value).toArray wsL_close RL := ⟨hx, hb, hml, hown, hts⟩
  subst hsz
  have hol : o < s.heap.size := (hPo 0 _ rfl).lt
  have hox : ¬ XA ad s.heap.size o := fun h => h.elim (fun ⟨k, i, e⟩ => ho k i e) (fun h => by omega)
  have hP := hXP.2.2.1
  have hS : va_S (LA ad o s.heap.size) s.heap s.heap [] := va_S.rf
  have hl := lv_entry ([.ref (ad 0 0), .int p0, .ref o]) (n := 4) (Nat.le_of_ble_eq_true rfl)
  rw [lg_entry_eq]
  generalize (lg_sl ([.ref (ad 0 0), .int p0, .ref o]) ++ List.replicate (4 - (lg_sl ([.ref (ad 0 0), .int p0, .ref o])).length) Slot.unset).toArray = ls at hl ⊢
  have hl : lv_has ls 4 [(0, .ref (ad 0 0)), (1, .int p0), (2, .ref o)] := hl
  refine lv_aload_n hx hb dL_close_0 rfl (lv_at hl 2 rfl) ?_
  refine lv_iconst (v := 0) hx hb dL_close_1 (by decide) ?_
  refine lv_aload_n hx hb dL_close_2 rfl (lv_at hl 0 rfl) ?_
  refine lv_iload_n hx hb dL_close_3 rfl (lv_at hl 1 rfl) ?_
  refine vx_calli (vx_runV (As := [.int p0]) (rest := [.int 0, .ref o]) hc (c_X2_close l hl0 D K s.heap.size ad n d S p0 hDJ hz hO) (cwV 1 hts gL_close_X2_close rfl rfl rfl (by decide +kernel) ⟨(Nat.le_of_ble_eq_true rfl), (Nat.le_of_ble_eq_true rfl)⟩) ⟨XPre_blind, va_recv hK hP (ci := 2) (q0 := 0) rfl rfl, XPre_at hXP hK hE hX ⟨vx_Zq.narrow hZ.1 (fun q h => Or.inl h), vx_Zq.narrow hZ.2 (fun q h => Or.inl h)⟩⟩ rfl rfl hl.1 rfl (lv_room (Nat.le_of_ble_eq_true rfl)) dL_close_4 ⟨(Nat.le_of_ble_eq_true rfl), (Nat.le_of_ble_eq_true rfl)⟩) hS (fun q _ h => Or.inl h) (fun q h => Or.inl h) (fun q _ h => Or.inl h) (fun E ce q9 u t H1 locs ht hvm hp hB hz1 hk1 hS hce hcv hcl => ?_) (fun r u t H1 locs ht hvm hp hB hz1 hk1 hS => ?_)
  · have hPo1 : va_P D vwCl (oW K o f) H1 := hPo.kept (fun k q hq => by obtain ⟨x, hx1, ex⟩ : q.1 = o ∧ True ∧ True := by { rcases k with _ | k <;> simp at hq; exact ⟨by rw [← hq], trivial, trivial⟩ }; rw [x]; exact hk1 o hol hox)
    rw [ht] at hB
    obtain ⟨hen, hBx⟩ := hB
    rcases hen with ⟨hcode, rfl⟩ | ⟨hcode, rfl⟩ | ⟨hcode, rfl⟩
    · refine vx_catch (own := RL) (name := "java/lang/IndexOutOfBoundsException") (E := "java/lang/IndexOutOfBoundsException") hown (tableOf []) ⟨0, 9, 12, 19⟩ (tableOf [(0, 9, 15, 13)]) (by rw [htab]; rfl) ?_ (by decide) (by decide) (hts (.classLink RL 19 "java/lang/IndexOutOfBoundsException") (by decide +kernel)) (va_Nw.use rfl (hX.2 (.castable "java/lang/IndexOutOfBoundsException" "java/lang/IndexOutOfBoundsException") (by decide +kernel))) hce hcv hcl ?_
      · intro z hz
        exact absurd hz List.not_mem_nil
      · refine W.eq (g2 := F0 m 12 ls [.ref q9]) rfl ?_
        refine lv_astore_n (lv' := [(3, .ref q9), (0, .ref (ad 0 0)), (1, .int p0), (2, .ref o)]) hx hb dL_close_12 rfl hl (by decide) rfl (fun ls hl => ?_)
        refine lv_iconst (v := 1) hx hb dL_close_13 (by decide) ?_
        refine W.widen (k := 4) (n := 60) (Nat.le_of_ble_eq_true rfl) (Nat.le_of_ble_eq_true rfl) ?_
        exact W.iret (v := 1) hx hb hr (fun t9 ht9 hW => ⟨⟨_, (), rfl, hcode.symm, by dsimp only; rw [ht9]; exact Or.inr ⟨by rw [hcode]; decide, hBx, hPo1⟩⟩, hS.F ht9⟩) hS.2.2 dL_close_14
    · refine vx_catch (own := RL) (name := "java/lang/IllegalStateException") (E := "java/lang/IllegalStateException") hown (tableOf [(0, 9, 12, 19)]) ⟨0, 9, 15, 13⟩ (tableOf []) (by rw [htab]; rfl) ?_ (by decide) (by decide) (hts (.classLink RL 13 "java/lang/IllegalStateException") (by decide +kernel)) (va_Nw.use rfl (hX.2 (.castable "java/lang/IllegalStateException" "java/lang/IllegalStateException") (by decide +kernel))) hce hcv hcl ?_
      · intro z hz
        simp only [tableOf, List.map_cons, List.map_nil, List.mem_cons, List.not_mem_nil, or_false] at hz
        rcases hz with rfl
        · exact Or.inr ⟨by decide, "java/lang/IndexOutOfBoundsException", hts (.classLink RL 19 "java/lang/IndexOutOfBoundsException") (by decide +kernel), hN ("java/lang/IllegalStateException", "java/lang/IndexOutOfBoundsException") (by decide +kernel)⟩
      · refine W.eq (g2 := F0 m 15 ls [.ref q9]) rfl ?_
        refine lv_astore_n (lv' := [(3, .ref q9), (0, .ref (ad 0 0)), (1, .int p0), (2, .ref o)]) hx hb dL_close_15 rfl hl (by decide) rfl (fun ls hl => ?_)
        refine lv_iconst (v := 2) hx hb dL_close_16 (by decide) ?_
        refine W.widen (k := 4) (n := 60) (Nat.le_of_ble_eq_true rfl) (Nat.le_of_ble_eq_true rfl) ?_
        exact W.iret (v := 2) hx hb hr (fun t9 ht9 hW => ⟨⟨_, (), rfl, hcode.symm, by dsimp only; rw [ht9]; exact Or.inr ⟨by rw [hcode]; decide, hBx, hPo1⟩⟩, hS.F ht9⟩) hS.2.2 dL_close_17
    · exfalso; unfold sp_X2_close at hcode; repeat' split at hcode
      all_goals first | exact absurd (show (0 : Int32) = 3 from hcode) (by decide) | exact absurd (show (1 : Int32) = 3 from hcode) (by decide) | exact absurd (show (2 : Int32) = 3 from hcode) (by decide)
  · obtain ⟨hcode, rfl⟩ := hp
    rw [ht] at hB
    have hPo1 : va_P D vwCl (oW K o f) H1 := hPo.kept (fun k q hq => by obtain ⟨x, hx1, ex⟩ : q.1 = o ∧ True ∧ True := by { rcases k with _ | k <;> simp at hq; exact ⟨by rw [← hq], trivial, trivial⟩ }; rw [x]; exact hk1 o hol hox)
    refine W.eq (g2 := F0 m 7 ls [.int ((sp_X2_close n d S p0).2.1), .int 0, .ref o]) rfl ?_
    refine lv_i2l hx hb dL_close_7 rfl ?_
    refine vo_last (A := LA ad o s.heap.size) hx hb hK5 hPo1 (Or.inr rfl) hS dL_close_8 (fun H9 locs hP9 oq9 hS => ?_)
    refine lv_goto (tgt := 18) hx hb dL_close_9 (by decide) ?_
    refine lv_iconst (v := 0) hx hb dL_close_18 (by decide) ?_
    refine W.widen (k := 4) (n := 60) (Nat.le_of_ble_eq_true rfl) (Nat.le_of_ble_eq_true rfl) ?_
    exact W.iret (v := 0) hx hb hr (fun t9 ht9 hW => ⟨⟨_, (), rfl, hcode.symm, by dsimp only; rw [ht9]; exact Or.inl ⟨hcode, XP_off ho hB oq9, hP9⟩⟩, hS.F ht9⟩) hS.2.2 dL_close_19

set_option maxHeartbeats 4000000 in
set_option maxRecDepth 100000 in
theorem c_L_fine (l : Launch) (hl0 : l.stackTraces = false) (D : va_G) (K : Nat → ClassId) (sz : Nat) (ad : Nat → Nat → Nat) (n d : Nat) (S : Nat → Nat → Nat → Int32) (o : Nat) (f : Nat → Int64) (p0 p1 : Int32)  (ho : ∀ k i, ad k i ≠ o) : LMet l yL_fine wsL_fine 7 123 D K [.ref (ad 0 0), .int p0, .int p1, .ref o] sz ad o f (fun H => XP D K ad n d S H) ((sp_X2_fine d S p0 p1).1) (((sp_X2_fine d S p0 p1).2).toInt64) (fun H => XP D K ad n d S H) := by
  refine Met_ofWH (cc := cL_fine) (maxL := 5) (ret := some .int) (hh := [(0, 10, 13, 19), (0, 10, 17, 21)]) (by decide) rfl ?_
  intro p e s m args below meth c s₁ B hml hv
  obtain ⟨rfl, ⟨hsz, hZ, hX, hXP, hK, hE⟩, hN, hPo, hK5⟩ := hv
  have hx := B.exec
  have hb := B.bytes
  have hr := B.returns
  have hts := atoms_spec (ws := wsL_fine) B.pre
  have hown : s.vm.findClass RL = some m.cls := findClass_of_methodNamed B.named
  have hlocks := B.notSynchronized
  have htab := vx_table (x := yL_fine) B (hts _ List.mem_cons_self)
  have hc : CallFix p m c cL_fine 5 s ([.ref (ad 0 0), .int p0, .int p1, .ref o] : List Value).toArray wsL_fine RL := ⟨hx, hb, hml, hown, hts⟩
  subst hsz
  have hol : o < s.heap.size := (hPo 0 _ rfl).lt
  have hox : ¬ XA ad s.heap.size o := fun h => h.elim (fun ⟨k, i, e⟩ => ho k i e) (fun h => by omega)
  have hP := hXP.2.2.1
  have hS : va_S (LA ad o s.heap.size) s.heap s.heap [] := va_S.rf
  have hl := lv_entry ([.ref (ad 0 0), .int p0, .int p1, .ref o]) (n := 5) (Nat.le_of_ble_eq_true rfl)
  rw [lg_entry_eq]
  generalize (lg_sl ([.ref (ad 0 0), .int p0, .int p1, .ref o]) ++ List.replicate (5 - (lg_sl ([.ref (ad 0 0), .int p0, .int p1, .ref o])).length) Slot.unset).toArray = ls at hl ⊢
  have hl : lv_has ls 5 [(0, .ref (ad 0 0)), (1, .int p0), (2, .int p1), (3, .ref o)] := hl
  refine lv_aload_n hx hb dL_fine_0 rfl (lv_at hl 3 rfl) ?_
  refine lv_iconst (v := 0) hx hb dL_fine_1 (by decide) ?_
  refine lv_aload_n hx hb dL_fine_2 rfl (lv_at hl 0 rfl) ?_
  refine lv_iload_n hx hb dL_fine_3 rfl (lv_at hl 1 rfl) ?_
  refine lv_iload_n hx hb dL_fine_4 rfl (lv_at hl 2 rfl) ?_
  refine vx_calli (vx_runV (As := [.int p0, .int p1]) (rest := [.int 0, .ref o]) hc (c_X2_fine l hl0 D K s.heap.size ad n d S p0 p1 ) (cwV 2 hts gL_fine_X2_fine rfl rfl rfl (by decide +kernel) ⟨(Nat.le_of_ble_eq_true rfl), (Nat.le_of_ble_eq_true rfl)⟩) ⟨XPre_blind, va_recv hK hP (ci := 2) (q0 := 0) rfl rfl, XPre_at hXP hK hE hX ⟨vx_Zq.narrow hZ.1 (fun q h => Or.inl h), vx_Zq.narrow hZ.2 (fun q h => Or.inl h)⟩⟩ rfl rfl hl.1 rfl (lv_room (Nat.le_of_ble_eq_true rfl)) dL_fine_5 ⟨(Nat.le_of_ble_eq_true rfl), (Nat.le_of_ble_eq_true rfl)⟩) hS (fun q _ h => Or.inl h) (fun q h => Or.inl h) (fun q _ h => Or.inl h) (fun E ce q9 u t H1 locs ht hvm hp hB hz1 hk1 hS hce hcv hcl => ?_) (fun r u t H1 locs ht hvm hp hB hz1 hk1 hS => ?_)
  · have hPo1 : va_P D vwCl (oW K o f) H1 := hPo.kept (fun k q hq => by obtain ⟨x, hx1, ex⟩ : q.1 = o ∧ True ∧ True := by { rcases k with _ | k <;> simp at hq; exact ⟨by rw [← hq], trivial, trivial⟩ }; rw [x]; exact hk1 o hol hox)
    rw [ht] at hB
    obtain ⟨hen, hBx⟩ := hB
    rcases hen with ⟨hcode, rfl⟩ | ⟨hcode, rfl⟩ | ⟨hcode, rfl⟩
    · refine vx_catch (own := RL) (name := "java/lang/IndexOutOfBoundsException") (E := "java/lang/IndexOutOfBoundsException") hown (tableOf []) ⟨0, 10, 13, 19⟩ (tableOf [(0, 10, 17, 21)]) (by rw [htab]; rfl) ?_ (by decide) (by decide) (hts (.classLink RL 19 "java/lang/IndexOutOfBoundsException") (by decide +kernel)) (va_Nw.use rfl (hX.2 (.castable "java/lang/IndexOutOfBoundsException" "java/lang/IndexOutOfBoundsException") (by decide +kernel))) hce hcv hcl ?_
      · intro z hz
        exact absurd hz List.not_mem_nil
      · refine W.eq (g2 := F0 m 13 ls [.ref q9]) rfl ?_
        refine lv_astore (lv' := [(4, .ref q9), (0, .ref (ad 0 0)), (1, .int p0), (2, .int p1), (3, .ref o)]) hx hb dL_fine_13 hl (by decide) rfl (fun ls hl => ?_)
        refine lv_iconst (v := 1) hx hb dL_fine_15 (by decide) ?_
        refine W.widen (k := 4) (n := 60) (Nat.le_of_ble_eq_true rfl) (Nat.le_of_ble_eq_true rfl) ?_
        exact W.iret (v := 1) hx hb hr (fun t9 ht9 hW => ⟨⟨_, (), rfl, hcode.symm, by dsimp only; rw [ht9]; exact Or.inr ⟨by rw [hcode]; decide, hBx, hPo1⟩⟩, hS.F ht9⟩) hS.2.2 dL_fine_16
    · refine vx_catch (own := RL) (name := "java/lang/IllegalArgumentException") (E := "java/lang/IllegalArgumentException") hown (tableOf [(0, 10, 13, 19)]) ⟨0, 10, 17, 21⟩ (tableOf []) (by rw [htab]; rfl) ?_ (by decide) (by decide) (hts (.classLink RL 21 "java/lang/IllegalArgumentException") (by decide +kernel)) (va_Nw.use rfl (hX.2 (.castable "java/lang/IllegalArgumentException" "java/lang/IllegalArgumentException") (by decide +kernel))) hce hcv hcl ?_
      · intro z hz
        simp only [tableOf, List.map_cons, List.map_nil, List.mem_cons, List.not_mem_nil, or_false] at hz
        rcases hz with rfl
        · exact Or.inr ⟨by decide, "java/lang/IndexOutOfBoundsException", hts (.classLink RL 19 "java/lang/IndexOutOfBoundsException") (by decide +kernel), hN ("java/lang/IllegalArgumentException", "java/lang/IndexOutOfBoundsException") (by decide +kernel)⟩
      · refine W.eq (g2 := F0 m 17 ls [.ref q9]) rfl ?_
        refine lv_astore (lv' := [(4, .ref q9), (0, .ref (ad 0 0)), (1, .int p0), (2, .int p1), (3, .ref o)]) hx hb dL_fine_17 hl (by decide) rfl (fun ls hl => ?_)
        refine lv_iconst (v := 2) hx hb dL_fine_19 (by decide) ?_
        refine W.widen (k := 4) (n := 60) (Nat.le_of_ble_eq_true rfl) (Nat.le_of_ble_eq_true rfl) ?_
        exact W.iret (v := 2) hx hb hr (fun t9 ht9 hW => ⟨⟨_, (), rfl, hcode.symm, by dsimp only; rw [ht9]; exact Or.inr ⟨by rw [hcode]; decide, hBx, hPo1⟩⟩, hS.F ht9⟩) hS.2.2 dL_fine_20
    · exfalso; unfold sp_X2_fine at hcode; repeat' split at hcode
      all_goals first | exact absurd (show (0 : Int32) = 3 from hcode) (by decide) | exact absurd (show (1 : Int32) = 3 from hcode) (by decide) | exact absurd (show (2 : Int32) = 3 from hcode) (by decide)
  · obtain ⟨hcode, rfl⟩ := hp
    rw [ht] at hB
    have hPo1 : va_P D vwCl (oW K o f) H1 := hPo.kept (fun k q hq => by obtain ⟨x, hx1, ex⟩ : q.1 = o ∧ True ∧ True := by { rcases k with _ | k <;> simp at hq; exact ⟨by rw [← hq], trivial, trivial⟩ }; rw [x]; exact hk1 o hol hox)
    refine W.eq (g2 := F0 m 8 ls [.int ((sp_X2_fine d S p0 p1).2), .int 0, .ref o]) rfl ?_
    refine lv_i2l hx hb dL_fine_8 rfl ?_
    refine vo_last (A := LA ad o s.heap.size) hx hb hK5 hPo1 (Or.inr rfl) hS dL_fine_9 (fun H9 locs hP9 oq9 hS => ?_)
    refine lv_goto (tgt := 21) hx hb dL_fine_10 (by decide) ?_
    refine lv_iconst (v := 0) hx hb dL_fine_21 (by decide) ?_
    refine W.widen (k := 4) (n := 60) (Nat.le_of_ble_eq_true rfl) (Nat.le_of_ble_eq_true rfl) ?_
    exact W.iret (v := 0) hx hb hr (fun t9 ht9 hW => ⟨⟨_, (), rfl, hcode.symm, by dsimp only; rw [ht9]; exact Or.inl ⟨hcode, XP_off ho hB oq9, hP9⟩⟩, hS.F ht9⟩) hS.2.2 dL_fine_22

set_option maxHeartbeats 4000000 in
set_option maxRecDepth 100000 in
theorem c_L_firstTeller (l : Launch) (hl0 : l.stackTraces = false) (D : va_G) (K : Nat → ClassId) (sz : Nat) (ad : Nat → Nat → Nat) (n d : Nat) (S : Nat → Nat → Nat → Int32) (o : Nat) (f : Nat → Int64) (p0 : Int32)  (ho : ∀ k i, ad k i ≠ o) : LMet l yL_firstTeller wsL_firstTeller 7 122 D K [.ref (ad 0 0), .int p0, .ref o] sz ad o f (fun H => XP D K ad n d S H) ((sp_X2_firstTeller d S p0).1) (((sp_X2_firstTeller d S p0).2).toInt64) (fun H => XP D K ad n d S H) := by
  refine Met_ofWH (cc := cL_firstTeller) (maxL := 4) (ret := some .int) (hh := [(0, 9, 12, 19)]) (by decide) rfl ?_
  intro p e s m args below meth c s₁ B hml hv
  obtain ⟨rfl, ⟨hsz, hZ, hX, hXP, hK, hE⟩, hN, hPo, hK5⟩ := hv
  have hx := B.exec
  have hb := B.bytes
  have hr := B.returns
  have hts := atoms_spec (ws := wsL_firstTeller) B.pre
  have hown : s.vm.findClass RL = some m.cls := findClass_of_methodNamed B.named
  have hlocks := B.notSynchronized
  have htab := vx_table (x := yL_firstTeller) B (hts _ List.mem_cons_self)
  have hc : CallFix p m c cL_firstTeller 4 s ([.ref (ad 0 0), .int p0, .ref o] : List Value).toArray wsL_firstTeller RL := ⟨hx, hb, hml, hown, hts⟩
  subst hsz
  have hol : o < s.heap.size := (hPo 0 _ rfl).lt
  have hox : ¬ XA ad s.heap.size o := fun h => h.elim (fun ⟨k, i, e⟩ => ho k i e) (fun h => by omega)
  have hP := hXP.2.2.1
  have hS : va_S (LA ad o s.heap.size) s.heap s.heap [] := va_S.rf
  have hl := lv_entry ([.ref (ad 0 0), .int p0, .ref o]) (n := 4) (Nat.le_of_ble_eq_true rfl)
  rw [lg_entry_eq]
  generalize (lg_sl ([.ref (ad 0 0), .int p0, .ref o]) ++ List.replicate (4 - (lg_sl ([.ref (ad 0 0), .int p0, .ref o])).length) Slot.unset).toArray = ls at hl ⊢
  have hl : lv_has ls 4 [(0, .ref (ad 0 0)), (1, .int p0), (2, .ref o)] := hl
  refine lv_aload_n hx hb dL_firstTeller_0 rfl (lv_at hl 2 rfl) ?_
  refine lv_iconst (v := 0) hx hb dL_firstTeller_1 (by decide) ?_
  refine lv_aload_n hx hb dL_firstTeller_2 rfl (lv_at hl 0 rfl) ?_
  refine lv_iload_n hx hb dL_firstTeller_3 rfl (lv_at hl 1 rfl) ?_
  refine vx_calli (vx_runV (As := [.int p0]) (rest := [.int 0, .ref o]) hc (c_X2_firstTeller l hl0 D K s.heap.size ad n d S p0 ) (cwV 1 hts gL_firstTeller_X2_firstTeller rfl rfl rfl (by decide +kernel) ⟨(Nat.le_of_ble_eq_true rfl), (Nat.le_of_ble_eq_true rfl)⟩) ⟨XPre_blind, va_recv hK hP (ci := 2) (q0 := 0) rfl rfl, XPre_at hXP hK hE hX ⟨vx_Zq.narrow hZ.1 (fun q h => Or.inl h), vx_Zq.narrow hZ.2 (fun q h => Or.inl h)⟩⟩ rfl rfl hl.1 rfl (lv_room (Nat.le_of_ble_eq_true rfl)) dL_firstTeller_4 ⟨(Nat.le_of_ble_eq_true rfl), (Nat.le_of_ble_eq_true rfl)⟩) hS (fun q _ h => Or.inl h) (fun q h => Or.inl h) (fun q _ h => Or.inl h) (fun E ce q9 u t H1 locs ht hvm hp hB hz1 hk1 hS hce hcv hcl => ?_) (fun r u t H1 locs ht hvm hp hB hz1 hk1 hS => ?_)
  · have hPo1 : va_P D vwCl (oW K o f) H1 := hPo.kept (fun k q hq => by obtain ⟨x, hx1, ex⟩ : q.1 = o ∧ True ∧ True := by { rcases k with _ | k <;> simp at hq; exact ⟨by rw [← hq], trivial, trivial⟩ }; rw [x]; exact hk1 o hol hox)
    rw [ht] at hB
    obtain ⟨hen, hBx⟩ := hB
    rcases hen with ⟨hcode, rfl⟩ | ⟨hcode, rfl⟩ | ⟨hcode, rfl⟩
    · refine vx_catch (own := RL) (name := "java/lang/IndexOutOfBoundsException") (E := "java/lang/IndexOutOfBoundsException") hown (tableOf []) ⟨0, 9, 12, 19⟩ (tableOf []) (by rw [htab]; rfl) ?_ (by decide) (by decide) (hts (.classLink RL 19 "java/lang/IndexOutOfBoundsException") (by decide +kernel)) (va_Nw.use rfl (hX.2 (.castable "java/lang/IndexOutOfBoundsException" "java/lang/IndexOutOfBoundsException") (by decide +kernel))) hce hcv hcl ?_
      · intro z hz
        exact absurd hz List.not_mem_nil
      · refine W.eq (g2 := F0 m 12 ls [.ref q9]) rfl ?_
        refine lv_astore_n (lv' := [(3, .ref q9), (0, .ref (ad 0 0)), (1, .int p0), (2, .ref o)]) hx hb dL_firstTeller_12 rfl hl (by decide) rfl (fun ls hl => ?_)
        refine lv_iconst (v := 1) hx hb dL_firstTeller_13 (by decide) ?_
        refine W.widen (k := 4) (n := 60) (Nat.le_of_ble_eq_true rfl) (Nat.le_of_ble_eq_true rfl) ?_
        exact W.iret (v := 1) hx hb hr (fun t9 ht9 hW => ⟨⟨_, (), rfl, hcode.symm, by dsimp only; rw [ht9]; exact Or.inr ⟨by rw [hcode]; decide, hBx, hPo1⟩⟩, hS.F ht9⟩) hS.2.2 dL_firstTeller_14
    · exfalso; unfold sp_X2_firstTeller at hcode; repeat' split at hcode
      all_goals first | exact absurd (show (0 : Int32) = 2 from hcode) (by decide) | exact absurd (show (1 : Int32) = 2 from hcode) (by decide) | exact absurd (show (2 : Int32) = 2 from hcode) (by decide)
    · exfalso; unfold sp_X2_firstTeller at hcode; repeat' split at hcode
      all_goals first | exact absurd (show (0 : Int32) = 3 from hcode) (by decide) | exact absurd (show (1 : Int32) = 3 from hcode) (by decide) | exact absurd (show (2 : Int32) = 3 from hcode) (by decide)
  · obtain ⟨hcode, rfl⟩ := hp
    rw [ht] at hB
    have hPo1 : va_P D vwCl (oW K o f) H1 := hPo.kept (fun k q hq => by obtain ⟨x, hx1, ex⟩ : q.1 = o ∧ True ∧ True := by { rcases k with _ | k <;> simp at hq; exact ⟨by rw [← hq], trivial, trivial⟩ }; rw [x]; exact hk1 o hol hox)
    refine W.eq (g2 := F0 m 7 ls [.int ((sp_X2_firstTeller d S p0).2), .int 0, .ref o]) rfl ?_
    refine lv_i2l hx hb dL_firstTeller_7 rfl ?_
    refine vo_last (A := LA ad o s.heap.size) hx hb hK5 hPo1 (Or.inr rfl) hS dL_firstTeller_8 (fun H9 locs hP9 oq9 hS => ?_)
    refine lv_goto (tgt := 15) hx hb dL_firstTeller_9 (by decide) ?_
    refine lv_iconst (v := 0) hx hb dL_firstTeller_15 (by decide) ?_
    refine W.widen (k := 4) (n := 60) (Nat.le_of_ble_eq_true rfl) (Nat.le_of_ble_eq_true rfl) ?_
    exact W.iret (v := 0) hx hb hr (fun t9 ht9 hW => ⟨⟨_, (), rfl, hcode.symm, by dsimp only; rw [ht9]; exact Or.inl ⟨hcode, XP_off ho hB oq9, hP9⟩⟩, hS.F ht9⟩) hS.2.2 dL_firstTeller_16
