def sp_L_law_j298s0 (v : Int32) : Int32 := if (sp_L_low (v >>> (14 &&& 31)) 3) = 0 then 100000 else 90
def sp_L_law_j147s0 (a : Nat) : Int32 := if 0 ≤ ((nI a) - 1) then (if ((nI a) - 1) ≤ 8 then ((nI a) - 1) else 6) else 0
theorem mon_N (x : Int32) : ∃ N, 0 < N ∧ N ≤ 100000 ∧ (if x = 0 then (100000 : Int32) else 90) = nI N := by
  by_cases h : x = 0
  · exact ⟨100000, by decide, by decide, by rw [if_pos h]; rfl⟩
  · exact ⟨90, by decide, by decide, by rw [if_neg h]; rfl⟩
section LS
variable {n d c : Nat} {S S' : Nat → Nat → Nat → Int32} {M M' : Nat → Nat → Int32}
theorem law_n0 (R : Rel n d S M c) (h : M 0 0 = 0) : n < 8 := by
  have hn := R.1
  rw [R.n0] at h
  have := (nI_inj' (a := n) (b := 0) (by omega) (by decide)).mp h
  omega
theorem law_n8 (R : Rel n d S M c) (h : ¬ 8 ≤ M 0 0) : n < 8 := by
  have hn := R.1
  rw [R.n0] at h
  rcases Nat.lt_or_ge n 8 with q | q
  · exact q
  · exact absurd (nI_le (a := 8) (b := n) q (by omega)) h
theorem Rel.other (R : Rel n d S M c) (hS : ∀ a b, a ≤ 14 → S' a b = S a b) (hM : ∀ a, a ≠ 0 → M' a = M a) (h0 : M' 0 0 = M 0 0) (h2 : M' 0 2 = M 0 2) (h1 : M' 0 1 = S' 16 0 0) (h3 : ∀ b, b < 4 → M' 0 (3 + b) = S' 15 0 b) : Rel n d S' M' (c + 1) := by
  obtain ⟨g1, g2, g3, g4, g5, g6, g7, g8, g9, g10, g11⟩ := R.mono
  refine ⟨g1, g2, by rw [h0]; exact g3, h1, by rw [h2]; exact g5, h3, fun k hk => (g7 k hk).congr (fun a ha => hS a k (by omega)) (fun i _ => by rw [hM 1 (by decide)]) (fun i _ => by rw [hM 2 (by decide)]) (by rw [hM 3 (by decide)]), fun k hk hk2 => (g8 k hk hk2).congr (fun i _ => by rw [hM 1 (by decide)]) (fun i _ => by rw [hM 2 (by decide)]) (by rw [hM 3 (by decide)]), fun j hj => (g9 j hj).congr (fun a q1 q2 => hS a j q2) (fun i _ => by rw [hM 4 (by decide)]) (fun i _ => by rw [hM 5 (by decide)]), fun j hj hj2 => (g10 j hj hj2).congr (fun i _ => by rw [hM 4 (by decide)]) (fun i _ => by rw [hM 5 (by decide)]), fun i j q1 q2 => by rw [hM 4 (by decide)]; exact g11 i j q1 q2⟩
end LS

set_option maxHeartbeats 4000000 in
theorem st_open {n d cn : Nat} {S : Nat → Nat → Nat → Int32} {M : Nat → Nat → Int32} (R : Rel n d S M cn) (hn9 : n < 8) : (sp_X2_open n S).1 = 0 ∧ (sp_X2_open n S).2.1 = (upd (M 0) 0 ((M 0 0) + 1)) 0 - 1 ∧ Rel (n + 1) d ((sp_X2_open n S).2.2) (um (um M 0 (upd (M 0) 0 ((M 0 0) + 1))) 1 (upd (M 1) (((4 * (M 0 0)) + 2).toNatClampNeg) (-1))) (cn + 1) := by
  have hn := R.n0
  have hsp : sp_X2_open n S = (0, nI n, setT S n (fun _ => 0) (fun _ => 0) 0 (-1) (-1) 0) := by
    unfold sp_X2_open
    rw [if_pos (show nI n < 30 from nI_lt (a := n) (b := 30) (by omega) (by decide))]
  have hc : (4 * M 0 0 + 2 : Int32).toNatClampNeg = 4 * n + 2 := by rw [hn]; exact cl42 hn9
  rw [hsp, upd_at, hc, hn]
  obtain ⟨g1, g2, g3, g4, g5, g6, g7, g8, g9, g10, g11⟩ := R.mono
  obtain ⟨x1, x2, x3⟩ := g8 n (Nat.le_refl _) hn9
  obtain ⟨M', hM'⟩ : ∃ X, um (um M 0 (upd (M 0) 0 (nI n + 1))) 1 (upd (M 1) (4 * n + 2) (-1)) = X := ⟨_, rfl⟩
  obtain ⟨S', hS'⟩ : ∃ X, setT S n (fun _ => 0) (fun _ => 0) 0 (-1) (-1) 0 = X := ⟨_, rfl⟩
  dsimp only
  rw [hM', hS']
  have u0 : M' 0 = upd (M 0) 0 (nI n + 1) := by rw [← hM', um_off (by decide), um_at]
  have u1 : M' 1 = upd (M 1) (4 * n + 2) (-1) := by rw [← hM', um_at]
  have uo : ∀ a, a ≠ 0 → a ≠ 1 → M' a = M a := fun a h1 h2 => by rw [← hM', um_off h2, um_off h1]
  have so : ∀ a b, 7 ≤ a ∨ b ≠ n → S' a b = S a b := fun a b h => by rw [← hS']; exact setT_off a b h
  refine ⟨rfl, by rw [nI_1, ← nI_pred n], by omega, g2, by rw [u0, upd_at, nI_1], by rw [u0, upd_off (by decide), so 16 0 (by omega)]; exact g4, by rw [u0, upd_off (by decide)]; exact g5, fun b hb => by rw [u0, upd_off (by omega), so 15 0 (by omega)]; exact g6 b hb, fun k hk => ?_, fun k hk hk2 => (g8 k (by omega) hk2).congr (fun i hi => by rw [u1, upd_off (by omega)]) (fun i _ => by rw [uo 2 (by decide) (by decide)]) (by rw [uo 3 (by decide) (by decide)]), fun j hj => (g9 j hj).congr (fun a q1 q2 => so a j (by omega)) (fun i _ => by rw [uo 4 (by decide) (by decide)]) (fun i _ => by rw [uo 5 (by decide) (by decide)]), fun j hj hj2 => (g10 j hj hj2).congr (fun i _ => by rw [uo 4 (by decide) (by decide)]) (fun i _ => by rw [uo 5 (by decide) (by decide)]), fun i j q1 q2 => by rw [uo 4 (by decide) (by decide)]; exact g11 i j q1 q2⟩
  rcases Nat.lt_or_ge k n with q | q
  · exact (g7 k q).congr (fun a ha => so a k (by omega)) (fun i hi => by rw [u1, upd_off (by omega)]) (fun i _ => by rw [uo 2 (by decide) (by decide)]) (by rw [uo 3 (by decide) (by decide)])
  · have : k = n := by omega
    subst this
    have s1 : S' 1 k = fun _ => 0 := by rw [← hS']; simp [setT]
    have s2 : S' 2 k = fun _ => 0 := by rw [← hS']; simp [setT]
    have s3 : S' 3 k 0 = 0 := by rw [← hS']; simp [setT]
    have s4 : S' 4 k 0 = -1 := by rw [← hS']; simp [setT]
    have s5 : S' 5 k 0 = -1 := by rw [← hS']; simp [setT]
    have s6 : S' 6 k 0 = 0 := by rw [← hS']; simp [setT]
    unfold RT
    rw [s1, s2, s3, s4, s5, s6, uo 2 (by decide) (by decide), uo 3 (by decide) (by decide), u1]
    refine ⟨fun b hb => ⟨x1 b hb, show (0 : Int) ≤ (0 : Int32).toInt by decide, show (0 : Int32).toInt ≤ 100000 by decide⟩, fun b hb => ⟨fun _ => rfl, fun _ => rfl⟩, ⟨0, by decide, x2, fun b hb => by rw [Nat.zero_testBit]; rfl⟩, ?_, fun h => absurd rfl h, upd_at, ?_, fun _ => rfl, fun _ => rfl, fun _ => rfl, Or.inl rfl, Or.inl rfl⟩
    · rw [upd_off (by omega), if_pos rfl]; exact x3 0 (by decide)
    · rw [upd_off (by omega)]; exact x3 3 (by decide)


set_option maxHeartbeats 4000000 in
theorem st_comp {n d cn : Nat} {S : Nat → Nat → Nat → Int32} {M : Nat → Nat → Int32} (R : Rel n d S M cn) {bb r N9 : Nat} (hb4 : bb < 4) (hr : r < N9) (hN : N9 ≤ 100000) : (sp_X2_compensate S (nI bb) (1 + (nI r))).1 = 0 ∧ (sp_X2_compensate S (nI bb) (1 + (nI r))).2.1 = (upd (M 0) ((3 + (nI bb)).toNatClampNeg) ((M 0 ((3 + (nI bb)).toNatClampNeg)) + (1 + (nI r)))) ((3 + (nI bb)).toNatClampNeg) ∧ Rel n d ((sp_X2_compensate S (nI bb) (1 + (nI r))).2.2) (um M 0 (upd (M 0) ((3 + (nI bb)).toNatClampNeg) ((M 0 ((3 + (nI bb)).toNatClampNeg)) + (1 + (nI r))))) (cn + 1) := by
  have hp : (1 : Int32) + nI r = nI (1 + r) := by rw [show (1 : Int32) = nI 1 from rfl, nI_add]
  have hm : sp_X2_isMoney (1 + nI r) = true := isMon (by rw [hp, nI_toInt (by omega)]; omega)
  have hc : (3 + nI bb : Int32).toNatClampNeg = 3 + bb := by rw [show (3 : Int32) = nI 3 from rfl, nI_add, nI_clamp (by omega)]
  have e := R.2.2.2.2.2.1 bb hb4
  have hsp : sp_X2_compensate S (nI bb) (1 + nI r) = (0, S 15 0 bb + (1 + nI r), us S 15 0 (upd (S 15 0) bb (S 15 0 bb + (1 + nI r)))) := by
    unfold sp_X2_compensate
    rw [if_pos (isB_nI (by omega)), if_pos hm, nI_clamp (by omega), upd_at]
  rw [hsp, hc, upd_at, e]
  obtain ⟨S', hS'⟩ : ∃ X, us S 15 0 (upd (S 15 0) bb (S 15 0 bb + (1 + nI r))) = X := ⟨_, rfl⟩
  have s15 : S' 15 0 = upd (S 15 0) bb (S 15 0 bb + (1 + nI r)) := by rw [← hS']; unfold us; rw [if_pos ⟨rfl, rfl⟩]
  have so : ∀ a b, a ≠ 15 → S' a b = S a b := fun a b h => by rw [← hS']; unfold us; rw [if_neg (fun q => h q.1)]
  dsimp only
  rw [hS']
  refine ⟨rfl, rfl, R.other (fun a b h => so a b (by omega)) (fun a h => um_off h) ?_ ?_ ?_ (fun b hb => ?_)⟩
  · rw [um_at, upd_off (by omega)]
  · rw [um_at, upd_off (by omega)]
  · rw [um_at, upd_off (by omega), so 16 0 (by decide)]; exact R.2.2.2.1
  · rw [um_at, s15]
    by_cases q : b = bb
    · subst q; rw [upd_at, upd_at]
    · rw [upd_off (by omega), upd_off q]; exact R.2.2.2.2.2.1 b hb


set_option maxHeartbeats 4000000 in
theorem st_mark {n d cn : Nat} {S : Nat → Nat → Nat → Int32} {M : Nat → Nat → Int32} (R : Rel n d S M cn) {r : Nat} (hr : r < 12) : (sp_X2_setMark S (1 + (nI r))).1 = 0 ∧ (sp_X2_setMark S (1 + (nI r))).2.1 = M 0 1 ∧ Rel n d ((sp_X2_setMark S (1 + (nI r))).2.2) (um M 0 (upd (M 0) 1 (1 + (nI r)))) (cn + 1) := by
  have hp : (1 : Int32) + nI r = nI (1 + r) := by rw [show (1 : Int32) = nI 1 from rfl, nI_add]
  have h1 : ¬ (1 : Int32) + nI r < 1 := by rw [hp]; exact nI_nlt (a := 1 + r) (b := 1) (by omega) (by omega)
  have h2 : (1 : Int32) + nI r ≤ 1000 := by rw [hp]; exact nI_le (a := 1 + r) (b := 1000) (by omega) (by omega)
  have hsp : sp_X2_setMark S (1 + nI r) = (0, S 16 0 0, us S 16 0 (fun _ => 1 + nI r)) := by
    unfold sp_X2_setMark
    rw [if_neg h1, if_pos h2]
  rw [hsp]
  refine ⟨rfl, R.2.2.2.1.symm, R.other (fun a b h => ?_) (fun a h => um_off h) ?_ ?_ ?_ (fun b hb => ?_)⟩
  · show us S 16 0 (fun _ => 1 + nI r) a b = S a b
    unfold us; rw [if_neg (by omega)]
  · rw [um_at, upd_off (by decide)]
  · rw [um_at, upd_off (by decide)]
  · rw [um_at, upd_at]
    show _ = us S 16 0 (fun _ => 1 + nI r) 16 0 0
    unfold us; rw [if_pos ⟨rfl, rfl⟩]
  · rw [um_at, upd_off (by omega)]
    show _ = us S 16 0 (fun _ => 1 + nI r) 15 0 b
    unfold us; rw [if_neg (by decide)]; exact R.2.2.2.2.2.1 b hb

