set_option maxHeartbeats 4000000 in
theorem st_pass0 {n d cn : Nat} {S : Nat → Nat → Nat → Int32} {M : Nat → Nat → Int32} (R : Rel n d S M cn) {k : Nat} (hk : k < n) {b r : Nat} (hb4 : b < 4) (hc : (sp_L_tenders_j508s0 M k) = 0) : (if (sp_X2_passOn n S (nI k) (nI b) (1 + (nI r))).1 = 0 then (sp_X2_passOn n S (nI k) (nI b) (1 + (nI r))).2.1 else if (sp_X2_passOn n S (nI k) (nI b) (1 + (nI r))).1 = 2 then -3 else -2) = (-3) ∧ ((sp_X2_passOn n S (nI k) (nI b) (1 + (nI r))).1 = 0 → Rel n d ((sp_X2_passOn n S (nI k) (nI b) (1 + (nI r))).2.2) M (cn + 1)) ∧ (¬ (sp_X2_passOn n S (nI k) (nI b) (1 + (nI r))).1 = 0 → Rel n d S M (cn + 1)) := by
  have hn := R.1
  obtain ⟨a1, a2, a3⟩ := m_aw (R.rt hk)
  obtain ⟨-, -, -, -, -, q5, -, -, q8, -, -, q7⟩ := R.rt hk
  have hcode : (sp_X2_passOn n S (nI k) (nI b) (1 + nI r)).1 = 2 := by
    unfold sp_L_tenders_j508s0 at hc
    rw [cl40 (by omega), cl42 (by omega), q5] at hc
    unfold sp_X2_passOn
    rw [if_pos (tIn_of hk R.n31), nI_clamp (by omega)]
    by_cases h4 : S 4 k 0 = -1
    · rw [if_neg (fun q => m_awd.mp q h4)]
    · rw [if_pos (m_awd.mpr h4)]
      rw [if_pos (a1.mpr h4)] at hc
      have h5 : ¬ S 5 k 0 = -1 := fun q => by
        rw [q, if_neg (by decide)] at hc; exact absurd hc (by decide)
      rw [if_pos (isPas_iff.mpr h5)]
  rw [hcode]
  exact st_thr R (by decide) (by first | rw [if_neg (by decide), if_pos rfl] | rw [if_neg (by decide), if_neg (by decide)])


set_option maxHeartbeats 4000000 in
theorem st_passA {n d cn : Nat} {S : Nat → Nat → Nat → Int32} {M : Nat → Nat → Int32} (R : Rel n d S M cn) {k : Nat} (hk : k < n) {b r : Nat} (hb4 : b < 4) (hr : 1 + r ≤ 2000000) (hc : ¬ (sp_L_tenders_j508s0 M k) = 0) (h1 : (nI b) = (M 1 (((4 * (nI k)) + 1).toNatClampNeg))) : (if (sp_X2_passOn n S (nI k) (nI b) (1 + (nI r))).1 = 0 then (sp_X2_passOn n S (nI k) (nI b) (1 + (nI r))).2.1 else if (sp_X2_passOn n S (nI k) (nI b) (1 + (nI r))).1 = 2 then -3 else -2) = (-2) ∧ ((sp_X2_passOn n S (nI k) (nI b) (1 + (nI r))).1 = 0 → Rel n d ((sp_X2_passOn n S (nI k) (nI b) (1 + (nI r))).2.2) M (cn + 1)) ∧ (¬ (sp_X2_passOn n S (nI k) (nI b) (1 + (nI r))).1 = 0 → Rel n d S M (cn + 1)) := by
  have hn := R.1
  obtain ⟨w, hw, e4, e3, e5, e6, e7, e8⟩ := pw_ex R hk hc
  rw [cl41 (by omega), e3] at h1
  have hcode : (sp_X2_passOn n S (nI k) (nI b) (1 + nI r)).1 = 3 := by
    unfold sp_X2_passOn sp_X1_winner
    rw [if_pos (tIn_of hk R.n31), nI_clamp (show k < 2 ^ 31 by omega), e4, e5, if_pos (m_awd.mpr (nI_ne1 (by omega))), if_neg (fun q => isPas_iff.mp q rfl), if_pos (isB_nI (by omega)), if_pos h1]
  rw [hcode]
  exact st_thr R (by decide) (by first | rw [if_neg (by decide), if_pos rfl] | rw [if_neg (by decide), if_neg (by decide)])


set_option maxHeartbeats 4000000 in
theorem st_passC {n d cn : Nat} {S : Nat → Nat → Nat → Int32} {M : Nat → Nat → Int32} (R : Rel n d S M cn) {k : Nat} (hk : k < n) {b r : Nat} (hb4 : b < 4) (hr : 1 + r ≤ 2000000) (hc : ¬ (sp_L_tenders_j508s0 M k) = 0) (h1 : ¬ (nI b) = (M 1 (((4 * (nI k)) + 1).toNatClampNeg))) (h2 : (1 + (nI r)) ≤ (M 2 (((4 * (nI k)) + (M 1 (((4 * (nI k)) + 1).toNatClampNeg))).toNatClampNeg))) : (if (sp_X2_passOn n S (nI k) (nI b) (1 + (nI r))).1 = 0 then (sp_X2_passOn n S (nI k) (nI b) (1 + (nI r))).2.1 else if (sp_X2_passOn n S (nI k) (nI b) (1 + (nI r))).1 = 2 then -3 else -2) = M 1 (((4 * (nI k)) + 1).toNatClampNeg) ∧ ((sp_X2_passOn n S (nI k) (nI b) (1 + (nI r))).1 = 0 → Rel n d ((sp_X2_passOn n S (nI k) (nI b) (1 + (nI r))).2.2) (um M 1 (upd (upd (M 1) (((4 * (nI k)) + 2).toNatClampNeg) (nI b)) (((4 * (nI k)) + 3).toNatClampNeg) (1 + (nI r)))) (cn + 1)) ∧ (¬ (sp_X2_passOn n S (nI k) (nI b) (1 + (nI r))).1 = 0 → Rel n d S (um M 1 (upd (upd (M 1) (((4 * (nI k)) + 2).toNatClampNeg) (nI b)) (((4 * (nI k)) + 3).toNatClampNeg) (1 + (nI r)))) (cn + 1)) := by
  have hn := R.1
  obtain ⟨w, hw, e4, e3, e5, e6, e7, e8⟩ := pw_ex R hk hc
  rw [cl41 (by omega), e3] at h1 h2 ⊢
  rw [cl4 (by omega) hw, e8] at h2
  have hp : (1 : Int32) + nI r = nI (1 + r) := by rw [show (1 : Int32) = nI 1 from rfl, nI_add]
  have hp1 : ¬ (1 : Int32) + nI r < 1 := by rw [hp]; exact nI_nlt (a := 1 + r) (b := 1) (by omega) (by omega)
  have hsp : sp_X2_passOn n S (nI k) (nI b) (1 + nI r) = (0, nI w, setT S k (S 1 k) (S 2 k) (S 3 k 0) (S 4 k 0) (nI b) (1 + nI r)) := by
    unfold sp_X2_passOn sp_X1_winner
    rw [if_pos (tIn_of hk R.n31), nI_clamp (show k < 2 ^ 31 by omega)]
    rw [if_pos (show sp_X1_isAwarded (S 4 k 0) = true from by rw [e4]; exact m_awd.mpr (nI_ne1 (by omega))), if_neg (show ¬ sp_X1_isPassedOn (S 5 k 0) = true from by rw [e5]; exact fun q => isPas_iff.mp q rfl), if_pos (isB_nI (by omega)), if_neg (show ¬ nI b = S 4 k 0 from by rw [e4]; exact h1), if_neg hp1, if_pos (show 1 + nI r ≤ sp_X1_sumOf (S 1 k) (S 4 k 0) from by rw [e4, m_sum (by omega)]; exact h2), e4]
  rw [hsp]
  dsimp only
  obtain ⟨r1, r2, r3, r4, r5, r6, r7, r8, r9, r10, r11, r12⟩ := R.rt hk
  have h41 : ¬ S 4 k 0 = -1 := by rw [e4]; exact nI_ne1 (by omega)
  refine st_ret rfl (by first | exact if_pos rfl | rfl) (R.tender hk (fun a b h => setT_off a b h) (fun a h => um_off (by omega)) (fun a j i h1 h2 h3 => ?_) (fun j h => by rw [um_off (by decide)]) ?_)
  · rcases h1 with rfl | rfl
    · rw [um_at, cl42 (by omega), cl43 (by omega), upd_off (by omega), upd_off (by omega)]
    · rw [um_off (by decide)]
  · have u2 : (um M 1 (upd (upd (M 1) (4 * nI k + 2 : Int32).toNatClampNeg (nI b)) (4 * nI k + 3 : Int32).toNatClampNeg (1 + nI r))) 2 = M 2 := um_off (by decide)
    have u3 : (um M 1 (upd (upd (M 1) (4 * nI k + 2 : Int32).toNatClampNeg (nI b)) (4 * nI k + 3 : Int32).toNatClampNeg (1 + nI r))) 3 = M 3 := um_off (by decide)
    have u1 : (um M 1 (upd (upd (M 1) (4 * nI k + 2 : Int32).toNatClampNeg (nI b)) (4 * nI k + 3 : Int32).toNatClampNeg (1 + nI r))) 1 = upd (upd (M 1) (4 * k + 2) (nI b)) (4 * k + 3) (1 + nI r) := by rw [um_at, cl42 (by omega), cl43 (by omega)]
    unfold RT
    rw [u1, u2, u3]
    have s : ∀ a, setT S k (S 1 k) (S 2 k) (S 3 k 0) (S 4 k 0) (nI b) (1 + nI r) a k = (if a = 1 then S 1 k else if a = 2 then S 2 k else if a = 3 then (fun _ => S 3 k 0) else if a = 4 then (fun _ => S 4 k 0) else if a = 5 then (fun _ => nI b) else if a = 6 then (fun _ => 1 + nI r) else S a k) := fun a => by unfold setT; rw [if_pos rfl]
    rw [s 1, s 2, s 3, s 4, s 5, s 6]
    simp only [if_true, if_false, show ¬ (2 : Nat) = 1 by decide, show ¬ (3 : Nat) = 1 by decide, show ¬ (3 : Nat) = 2 by decide, show ¬ (4 : Nat) = 1 by decide, show ¬ (4 : Nat) = 2 by decide, show ¬ (4 : Nat) = 3 by decide, show ¬ (5 : Nat) = 1 by decide, show ¬ (5 : Nat) = 2 by decide, show ¬ (5 : Nat) = 3 by decide, show ¬ (5 : Nat) = 4 by decide, show ¬ (6 : Nat) = 1 by decide, show ¬ (6 : Nat) = 2 by decide, show ¬ (6 : Nat) = 3 by decide, show ¬ (6 : Nat) = 4 by decide, show ¬ (6 : Nat) = 5 by decide]
    refine ⟨r1, r2, r3, ?_, fun h => ?_, ?_, upd_at, r8, fun h => absurd h h41, fun h => absurd h (nI_ne1 (by omega)), r11, Or.inr ⟨b, hb4, rfl, fun q => h1 (by rw [← q, e4])⟩⟩
    · rw [upd_off (by omega), upd_off (by omega)]; exact r4
    · rw [upd_off (by omega), upd_off (by omega)]; exact r5 h
    · rw [upd_off (by omega), upd_at]


set_option maxHeartbeats 4000000 in
theorem st_passB {n d cn : Nat} {S : Nat → Nat → Nat → Int32} {M : Nat → Nat → Int32} (R : Rel n d S M cn) {k : Nat} (hk : k < n) {b r : Nat} (hb4 : b < 4) (hr : 1 + r ≤ 2000000) (hc : ¬ (sp_L_tenders_j508s0 M k) = 0) (h1 : ¬ (nI b) = (M 1 (((4 * (nI k)) + 1).toNatClampNeg))) (h2 : ¬ (1 + (nI r)) ≤ (M 2 (((4 * (nI k)) + (M 1 (((4 * (nI k)) + 1).toNatClampNeg))).toNatClampNeg))) : (if (sp_X2_passOn n S (nI k) (nI b) (1 + (nI r))).1 = 0 then (sp_X2_passOn n S (nI k) (nI b) (1 + (nI r))).2.1 else if (sp_X2_passOn n S (nI k) (nI b) (1 + (nI r))).1 = 2 then -3 else -2) = (-2) ∧ ((sp_X2_passOn n S (nI k) (nI b) (1 + (nI r))).1 = 0 → Rel n d ((sp_X2_passOn n S (nI k) (nI b) (1 + (nI r))).2.2) M (cn + 1)) ∧ (¬ (sp_X2_passOn n S (nI k) (nI b) (1 + (nI r))).1 = 0 → Rel n d S M (cn + 1)) := by
  have hn := R.1
  obtain ⟨w, hw, e4, e3, e5, e6, e7, e8⟩ := pw_ex R hk hc
  rw [cl41 (by omega), e3] at h1 h2
  rw [cl4 (by omega) hw, e8] at h2
  have hcode : (sp_X2_passOn n S (nI k) (nI b) (1 + nI r)).1 = 3 := by
    unfold sp_X2_passOn sp_X1_winner
    rw [if_pos (tIn_of hk R.n31), nI_clamp (show k < 2 ^ 31 by omega), e4, e5, if_pos (m_awd.mpr (nI_ne1 (by omega))), if_neg (fun q => isPas_iff.mp q rfl), if_pos (isB_nI (by omega)), if_neg h1, m_sum (by omega), if_neg h2, ite_self]
  rw [hcode]
  exact st_thr R (by decide) (by first | rw [if_neg (by decide), if_pos rfl] | rw [if_neg (by decide), if_neg (by decide)])


set_option maxHeartbeats 4000000 in
theorem st_award0 {n d cn : Nat} {S : Nat → Nat → Nat → Int32} {M : Nat → Nat → Int32} (R : Rel n d S M cn) {k : Nat} (hk : k < n) (hc : (sp_L_tenders_j73s0 M k) = 0) : (if (sp_X2_award n S (nI k)).1 = 0 then (sp_X2_award n S (nI k)).2.1 else if (sp_X2_award n S (nI k)).1 = 2 then -3 else -3) = (-3) ∧ ((sp_X2_award n S (nI k)).1 = 0 → Rel n d ((sp_X2_award n S (nI k)).2.2) M (cn + 1)) ∧ (¬ (sp_X2_award n S (nI k)).1 = 0 → Rel n d S M (cn + 1)) := by
  have hcode : (sp_X2_award n S (nI k)).1 = 2 := by
    have hn := R.1
    unfold sp_X2_award
    rw [if_pos (tIn_of hk R.n31), nI_clamp (by omega), if_neg (fun q => (j73_iff R hk).mp hc (isOpen_iff.mp q))]
  rw [hcode]
  exact st_thr R (by decide) (by first | rw [if_neg (by decide), if_pos rfl] | rw [if_neg (by decide), if_neg (by decide)])


set_option maxHeartbeats 4000000 in
theorem st_award1 {n d cn : Nat} {S : Nat → Nat → Nat → Int32} {M : Nat → Nat → Int32} (R : Rel n d S M cn) {k : Nat} (hk : k < n) (hc : ¬ (sp_L_tenders_j73s0 M k) = 0) : (if (sp_X2_award n S (nI k)).1 = 0 then (sp_X2_award n S (nI k)).2.1 else if (sp_X2_award n S (nI k)).1 = 2 then -3 else -3) = (sp_L_tenders_A M k 4 (-1)) ∧ ((sp_X2_award n S (nI k)).1 = 0 → Rel n d ((sp_X2_award n S (nI k)).2.2) (um M 1 (upd (upd (M 1) ((4 * (nI k)).toNatClampNeg) (sp_L_tenders_j439s0 M k)) (((4 * (nI k)) + 1).toNatClampNeg) (sp_L_tenders_A M k 4 (-1)))) (cn + 1)) ∧ (¬ (sp_X2_award n S (nI k)).1 = 0 → Rel n d S (um M 1 (upd (upd (M 1) ((4 * (nI k)).toNatClampNeg) (sp_L_tenders_j439s0 M k)) (((4 * (nI k)) + 1).toNatClampNeg) (sp_L_tenders_A M k 4 (-1)))) (cn + 1)) := by
  have hn := R.1
  obtain ⟨r1, r2, r3, r4, r5, r6, r7, r8, r9, r10, r11, r12⟩ := R.rt hk
  have ho : S 3 k 0 = 0 := by
    by_cases h3 : S 3 k 0 = 0
    · exact h3
    · exact absurd ((j73_iff R hk).mpr h3) hc
  have hbest := best_eq R hk
  obtain ⟨x, hx, hB⟩ : ∃ x, sp_L_tenders_A M k 4 (-1) = x ∧ (x = -1 ∨ ∃ w, w < 4 ∧ x = nI w ∧ 1 ≤ (S 1 k w).toInt) := ⟨_, rfl, best_st R hk⟩
  have hsp : sp_X2_award n S (nI k) = (0, x, setT S k (S 1 k) (S 2 k) 1 x (S 5 k 0) (S 6 k 0)) := by
    unfold sp_X2_award
    rw [if_pos (tIn_of hk R.n31), nI_clamp (show k < 2 ^ 31 by omega), if_pos (isOpen_iff.mpr ho), hbest, hx]
    rw [show setT S k (S 1 k) (S 2 k) 1 x (S 5 k 0) (S 6 k 0) 4 k = (fun _ => x) from by simp [setT]]
    rfl
  have h5 : S 5 k 0 = -1 := r9 (r8 ho)
  have h6 : S 6 k 0 = 0 := r10 h5
  unfold sp_L_tenders_j439s0
  rw [hsp, hx, cl40 (by omega), cl41 (by omega)]
  dsimp only
  refine st_ret rfl (by first | exact if_pos rfl | rfl) (R.tender hk (fun a b h => setT_off a b h) (fun a h => um_off (by omega)) (fun a j i h1 h2 h3 => ?_) (fun j h => by rw [um_off (by decide)]) ?_)
  · rcases h1 with rfl | rfl
    · rw [um_at, upd_off (by omega), upd_off (by omega)]
    · rw [um_off (by decide)]
  · have s : ∀ a, setT S k (S 1 k) (S 2 k) 1 x (S 5 k 0) (S 6 k 0) a k = (if a = 1 then S 1 k else if a = 2 then S 2 k else if a = 3 then (fun _ => 1) else if a = 4 then (fun _ => x) else if a = 5 then (fun _ => S 5 k 0) else if a = 6 then (fun _ => S 6 k 0) else S a k) := fun a => by unfold setT; rw [if_pos rfl]
    have u2 : (um M 1 (upd (upd (M 1) (4 * k) (if 0 ≤ x then 1 else 2)) (4 * k + 1) x)) 2 = M 2 := um_off (by decide)
    have u3 : (um M 1 (upd (upd (M 1) (4 * k) (if 0 ≤ x then 1 else 2)) (4 * k + 1) x)) 3 = M 3 := um_off (by decide)
    have u1 : (um M 1 (upd (upd (M 1) (4 * k) (if 0 ≤ x then 1 else 2)) (4 * k + 1) x)) 1 = upd (upd (M 1) (4 * k) (if 0 ≤ x then 1 else 2)) (4 * k + 1) x := um_at
    unfold RT
    rw [u1, u2, u3, s 1, s 2, s 3, s 4, s 5, s 6]
    simp only [if_true, if_false, show ¬ (2 : Nat) = 1 by decide, show ¬ (3 : Nat) = 1 by decide, show ¬ (3 : Nat) = 2 by decide, show ¬ (4 : Nat) = 1 by decide, show ¬ (4 : Nat) = 2 by decide, show ¬ (4 : Nat) = 3 by decide, show ¬ (5 : Nat) = 1 by decide, show ¬ (5 : Nat) = 2 by decide, show ¬ (5 : Nat) = 3 by decide, show ¬ (5 : Nat) = 4 by decide, show ¬ (6 : Nat) = 1 by decide, show ¬ (6 : Nat) = 2 by decide, show ¬ (6 : Nat) = 3 by decide, show ¬ (6 : Nat) = 4 by decide, show ¬ (6 : Nat) = 5 by decide]
    refine ⟨r1, r2, r3, ?_, fun _ => upd_at, ?_, ?_, fun q => absurd q (by decide), fun _ => h5, r10, hB, Or.inl h5⟩
    · rw [upd_off (by omega), upd_at, if_neg (show ¬ (1 : Int32) = 0 by decide)]
      rcases hB with q | ⟨w, hw, q, -⟩
      · rw [q]; decide
      · rw [q, if_pos (nI_pos' (by omega)), if_neg (nI_ne1 (by omega))]
    · rw [upd_off (by omega), upd_off (by omega)]; exact r6
    · rw [upd_off (by omega), upd_off (by omega)]; exact r7


set_option maxHeartbeats 4000000 in
theorem st_withdraw {n d cn : Nat} {S : Nat → Nat → Nat → Int32} {M : Nat → Nat → Int32} (R : Rel n d S M cn) {k : Nat} (hk : k < n) {b : Nat} (hb4 : b < 4) : (if (sp_X2_withdraw n S (nI k) (nI b)).1 = 0 then (sp_X2_withdraw n S (nI k) (nI b)).2.1 else if (sp_X2_withdraw n S (nI k) (nI b)).1 = 2 then -2 else -3) = sp_L_tenders_j276s0 M k b ∧ ((sp_X2_withdraw n S (nI k) (nI b)).1 = 0 → Rel n d ((sp_X2_withdraw n S (nI k) (nI b)).2.2) (um M 3 (upd (M 3) ((nI k).toNatClampNeg) ((M 3 ((nI k).toNatClampNeg)) ||| (sp_L_tenders_j318s0 M k b)))) (cn + 1)) ∧ (¬ (sp_X2_withdraw n S (nI k) (nI b)).1 = 0 → Rel n d S (um M 3 (upd (M 3) ((nI k).toNatClampNeg) ((M 3 ((nI k).toNatClampNeg)) ||| (sp_L_tenders_j318s0 M k b)))) (cn + 1)) := by
  have hn := R.1
  obtain ⟨r1, r2, ⟨gg, hg, eg, e2⟩, r4, r5, r6, r7, r8, r9, r10, r11, r12⟩ := R.rt hk
  by_cases hc : S 3 k 0 = 0 ∧ sp_X1_isStanding (S 1 k) (S 2 k) (nI b) = true
  · obtain ⟨ho, hs⟩ := hc
    have hs1 := ((m_stand (by omega)).mp hs).1
    have hpos : 1 ≤ (S 1 k b).toInt := by have := (r1 b hb4).2.1; have h9 : ¬ (S 1 k b).toInt ≤ 0 := fun q => hs1 (le0.mpr q); omega
    have hj : sp_L_tenders_j276s0 M k b = S 1 k b := by
      unfold sp_L_tenders_j276s0
      rw [if_neg (fun q => (j73_iff R hk).mp q ho), m_in (R.rt hk) (by omega) hb4, if_pos hs, cl4 (by omega) hb4, (r1 b hb4).1]
    have hj2 : sp_L_tenders_j318s0 M k b = 1 <<< (nI b &&& 31) := by
      unfold sp_L_tenders_j318s0
      rw [hj, if_neg hs1]
    have hsp : sp_X2_withdraw n S (nI k) (nI b) = (0, S 1 k b, setT S k (S 1 k) (upd (S 2 k) b 1) (S 3 k 0) (S 4 k 0) (S 5 k 0) (S 6 k 0)) := by
      unfold sp_X2_withdraw
      rw [if_pos (tIn_of hk R.n31), nI_clamp (show k < 2 ^ 31 by omega), nI_clamp (show b < 2 ^ 31 by omega), if_pos (isB_nI (by omega)), if_pos (isOpen_iff.mpr ho), if_pos hs]
      rw [show setT S k (S 1 k) (upd (S 2 k) b 1) (S 3 k 0) (S 4 k 0) (S 5 k 0) (S 6 k 0) 1 k = S 1 k from by simp [setT], m_sum (by omega)]
    rw [hsp, hj, hj2, nI_clamp (show k < 2 ^ 31 by omega), eg]
    obtain ⟨g2, hg2, eg2, eb2⟩ := bit_or hg hb4
    rw [eg2]
    dsimp only
    refine st_ret rfl (by first | exact if_pos rfl | rfl) (R.tender hk (fun a b h => setT_off a b h) (fun a h => um_off (by omega)) (fun a j i h1 h2 h3 => by rcases h1 with rfl | rfl <;> rw [um_off (by decide)]) (fun j h => by rw [um_at, upd_off h]) ?_)
    have s : ∀ a, setT S k (S 1 k) (upd (S 2 k) b 1) (S 3 k 0) (S 4 k 0) (S 5 k 0) (S 6 k 0) a k = (if a = 1 then S 1 k else if a = 2 then upd (S 2 k) b 1 else if a = 3 then (fun _ => S 3 k 0) else if a = 4 then (fun _ => S 4 k 0) else if a = 5 then (fun _ => S 5 k 0) else if a = 6 then (fun _ => S 6 k 0) else S a k) := fun a => by unfold setT; rw [if_pos rfl]
    have u1 : (um M 3 (upd (M 3) k (nI g2))) 1 = M 1 := um_off (by decide)
    have u2 : (um M 3 (upd (M 3) k (nI g2))) 2 = M 2 := um_off (by decide)
    have u3 : (um M 3 (upd (M 3) k (nI g2))) 3 = upd (M 3) k (nI g2) := um_at
    unfold RT
    rw [u1, u2, u3, s 1, s 2, s 3, s 4, s 5, s 6]
    simp only [if_true, if_false, show ¬ (2 : Nat) = 1 by decide, show ¬ (3 : Nat) = 1 by decide, show ¬ (3 : Nat) = 2 by decide, show ¬ (4 : Nat) = 1 by decide, show ¬ (4 : Nat) = 2 by decide, show ¬ (4 : Nat) = 3 by decide, show ¬ (5 : Nat) = 1 by decide, show ¬ (5 : Nat) = 2 by decide, show ¬ (5 : Nat) = 3 by decide, show ¬ (5 : Nat) = 4 by decide, show ¬ (6 : Nat) = 1 by decide, show ¬ (6 : Nat) = 2 by decide, show ¬ (6 : Nat) = 3 by decide, show ¬ (6 : Nat) = 4 by decide, show ¬ (6 : Nat) = 5 by decide]
    refine ⟨r1, fun x hx => ⟨(r2 x hx).1, fun h => ?_⟩, ⟨g2, hg2, upd_at, fun x hx => ?_⟩, r4, r5, r6, r7, r8, r9, r10, r11, r12⟩
    · by_cases e : x = b
      · subst e; rw [h] at hpos; exact absurd hpos (by decide)
      · rw [upd_off e]; exact (r2 x hx).2 h
    · rw [eb2 x hx]
      by_cases e : x = b
      · subst e; rw [upd_at]; simp
      · rw [upd_off e, e2 x hx]; simp [e]
  · have hj : sp_L_tenders_j276s0 M k b = -3 := by
      unfold sp_L_tenders_j276s0
      rw [m_in (R.rt hk) (by omega) hb4]
      by_cases h3 : sp_L_tenders_j73s0 M k = 0
      · rw [if_pos h3]
      · rw [if_neg h3, if_neg (fun q => hc ⟨?_, q⟩)]
        by_cases ho : S 3 k 0 = 0
        · exact ho
        · exact absurd ((j73_iff R hk).mpr ho) h3
    have hj2 : sp_L_tenders_j318s0 M k b = 0 := by
      unfold sp_L_tenders_j318s0
      rw [hj, if_pos (by decide)]
    have hcode : (sp_X2_withdraw n S (nI k) (nI b)).1 = 3 := by
      unfold sp_X2_withdraw
      rw [if_pos (tIn_of hk R.n31), nI_clamp (show k < 2 ^ 31 by omega), if_pos (isB_nI (by omega))]
      by_cases ho : S 3 k 0 = 0
      · rw [if_pos (isOpen_iff.mpr ho), if_neg (fun q => hc ⟨ho, q⟩)]
      · rw [if_neg (fun q => ho (isOpen_iff.mp q))]
    rw [hj, hj2, Int32.or_zero, um_self, hcode]
    exact st_thr R (by decide) (by first | rw [if_neg (by decide), if_pos rfl] | rw [if_neg (by decide), if_neg (by decide)])


set_option maxHeartbeats 4000000 in
theorem st_bid0 {n d cn : Nat} {S : Nat → Nat → Nat → Int32} {M : Nat → Nat → Int32} (R : Rel n d S M cn) {k : Nat} (hk : k < n) {b : Nat} {v96_0 : Int32} (hb4 : b < 4) (hsv : 1 ≤ v96_0.toInt ∧ v96_0.toInt ≤ 100000) (hc : (sp_L_tenders_j130s0 M k b) = 0) : (if (sp_X2_bid n S (nI k) (nI b) v96_0).1 = 0 then (sp_X2_bid n S (nI k) (nI b) v96_0).2.1 else if (sp_X2_bid n S (nI k) (nI b) v96_0).1 = 2 then -2 else -3) = (-3) ∧ ((sp_X2_bid n S (nI k) (nI b) v96_0).1 = 0 → Rel n d ((sp_X2_bid n S (nI k) (nI b) v96_0).2.2) (um M 2 (upd (M 2) (((4 * (nI k)) + (nI b)).toNatClampNeg) (M 2 (((4 * (nI k)) + (nI b)).toNatClampNeg)))) (cn + 1)) ∧ (¬ (sp_X2_bid n S (nI k) (nI b) v96_0).1 = 0 → Rel n d S (um M 2 (upd (M 2) (((4 * (nI k)) + (nI b)).toNatClampNeg) (M 2 (((4 * (nI k)) + (nI b)).toNatClampNeg)))) (cn + 1)) := by
  have hn := R.1
  rw [um_self]
  have hcode : (sp_X2_bid n S (nI k) (nI b) v96_0).1 = 3 := by
    unfold sp_L_tenders_j130s0 at hc
    rw [cl4 (by omega) hb4, ((R.rt hk).1 b hb4).1] at hc
    unfold sp_X2_bid
    rw [if_pos (tIn_of hk R.n31), nI_clamp (by omega), if_pos (isB_nI (by omega)), if_pos (isMon hsv)]
    by_cases ho : S 3 k 0 = 0
    · rw [if_pos (isOpen_iff.mpr ho)]
      rw [if_neg (fun q => (j73_iff R hk).mp q ho)] at hc
      have hb0 : ¬ S 1 k b = 0 := fun q => by rw [if_pos q] at hc; exact absurd hc (by decide)
      rw [if_pos ((m_hasBid (by omega)).mpr (nle0 (pos_of ((R.rt hk).1 b hb4).2.1 hb0)))]
    · rw [if_neg (fun q => ho (isOpen_iff.mp q))]
  rw [hcode]
  exact st_thr R (by decide) (by first | rw [if_neg (by decide), if_pos rfl] | rw [if_neg (by decide), if_neg (by decide)])


set_option maxHeartbeats 4000000 in
theorem st_bid1 {n d cn : Nat} {S : Nat → Nat → Nat → Int32} {M : Nat → Nat → Int32} (R : Rel n d S M cn) {k : Nat} (hk : k < n) {b : Nat} {v96_0 : Int32} (hb4 : b < 4) (hsv : 1 ≤ v96_0.toInt ∧ v96_0.toInt ≤ 100000) (hc : ¬ (sp_L_tenders_j130s0 M k b) = 0) : (if (sp_X2_bid n S (nI k) (nI b) v96_0).1 = 0 then (sp_X2_bid n S (nI k) (nI b) v96_0).2.1 else if (sp_X2_bid n S (nI k) (nI b) v96_0).1 = 2 then -2 else -3) = sp_L_tenders_L199 M k b v96_0 4 ∧ ((sp_X2_bid n S (nI k) (nI b) v96_0).1 = 0 → Rel n d ((sp_X2_bid n S (nI k) (nI b) v96_0).2.2) (um M 2 (upd (M 2) (((4 * (nI k)) + (nI b)).toNatClampNeg) v96_0)) (cn + 1)) ∧ (¬ (sp_X2_bid n S (nI k) (nI b) v96_0).1 = 0 → Rel n d S (um M 2 (upd (M 2) (((4 * (nI k)) + (nI b)).toNatClampNeg) v96_0)) (cn + 1)) := by
  have hn := R.1
  have hcan : S 3 k 0 = 0 ∧ S 1 k b = 0 := by
    unfold sp_L_tenders_j130s0 at hc
    rw [cl4 (by omega) hb4, ((R.rt hk).1 b hb4).1] at hc
    by_cases ho : sp_L_tenders_j73s0 M k = 0
    · rw [if_pos ho] at hc; exact absurd rfl hc
    · rw [if_neg ho] at hc
      by_cases hb0 : S 1 k b = 0
      · refine ⟨?_, hb0⟩
        by_cases h3 : S 3 k 0 = 0
        · exact h3
        · exact absurd ((j73_iff R hk).mpr h3) ho
      · rw [if_neg hb0] at hc; exact absurd rfl hc
  obtain ⟨ho, hb0⟩ := hcan
  have hsp : sp_X2_bid n S (nI k) (nI b) v96_0 = (0, sp_X1_countStanding (upd (S 1 k) b v96_0) (S 2 k), setT S k (upd (S 1 k) b v96_0) (S 2 k) (S 3 k 0) (S 4 k 0) (S 5 k 0) (S 6 k 0)) := by
    unfold sp_X2_bid
    rw [if_pos (tIn_of hk R.n31), nI_clamp (show k < 2 ^ 31 by omega), nI_clamp (show b < 2 ^ 31 by omega), if_pos (isB_nI (by omega)), if_pos (isMon hsv), if_pos (isOpen_iff.mpr ho), if_neg (fun q => (m_hasBid (by omega)).mp q (by rw [hb0]; decide))]
    rw [show setT S k (upd (S 1 k) b v96_0) (S 2 k) (S 3 k 0) (S 4 k 0) (S 5 k 0) (S 6 k 0) 1 k = upd (S 1 k) b v96_0 from by simp [setT], show setT S k (upd (S 1 k) b v96_0) (S 2 k) (S 3 k 0) (S 4 k 0) (S 5 k 0) (S 6 k 0) 2 k = S 2 k from by simp [setT]]
  obtain ⟨r1, r2, r3, r4, r5, r6, r7, r8, r9, r10, r11, r12⟩ := R.rt hk
  have hg : S 2 k b = 0 := (r2 b (by omega)).2 hb0
  have h4 : S 4 k 0 = -1 := r8 ho
  have s : ∀ a, setT S k (upd (S 1 k) b v96_0) (S 2 k) (S 3 k 0) (S 4 k 0) (S 5 k 0) (S 6 k 0) a k = (if a = 1 then upd (S 1 k) b v96_0 else if a = 2 then S 2 k else if a = 3 then (fun _ => S 3 k 0) else if a = 4 then (fun _ => S 4 k 0) else if a = 5 then (fun _ => S 5 k 0) else if a = 6 then (fun _ => S 6 k 0) else S a k) := fun a => by unfold setT; rw [if_pos rfl]
  have hr : RT (setT S k (upd (S 1 k) b v96_0) (S 2 k) (S 3 k 0) (S 4 k 0) (S 5 k 0) (S 6 k 0)) (um M 2 (upd (M 2) (4 * nI k + nI b : Int32).toNatClampNeg v96_0)) k := by
    have u1 : (um M 2 (upd (M 2) (4 * nI k + nI b : Int32).toNatClampNeg v96_0)) 1 = M 1 := um_off (by decide)
    have u3 : (um M 2 (upd (M 2) (4 * nI k + nI b : Int32).toNatClampNeg v96_0)) 3 = M 3 := um_off (by decide)
    have u2 : (um M 2 (upd (M 2) (4 * nI k + nI b : Int32).toNatClampNeg v96_0)) 2 = upd (M 2) (4 * k + b) v96_0 := by rw [um_at, cl4 (by omega) hb4]
    unfold RT
    rw [u1, u2, u3, s 1, s 2, s 3, s 4, s 5, s 6]
    simp only [if_true, if_false, show ¬ (2 : Nat) = 1 by decide, show ¬ (3 : Nat) = 1 by decide, show ¬ (3 : Nat) = 2 by decide, show ¬ (4 : Nat) = 1 by decide, show ¬ (4 : Nat) = 2 by decide, show ¬ (4 : Nat) = 3 by decide, show ¬ (5 : Nat) = 1 by decide, show ¬ (5 : Nat) = 2 by decide, show ¬ (5 : Nat) = 3 by decide, show ¬ (5 : Nat) = 4 by decide, show ¬ (6 : Nat) = 1 by decide, show ¬ (6 : Nat) = 2 by decide, show ¬ (6 : Nat) = 3 by decide, show ¬ (6 : Nat) = 4 by decide, show ¬ (6 : Nat) = 5 by decide]
    refine ⟨fun x hx => ?_, fun x hx => ⟨fun h => ?_, fun h => ?_⟩, r3, r4, r5, r6, r7, r8, r9, r10, Or.inl h4, r12⟩
    · by_cases e : x = b
      · subst e; rw [upd_at, upd_at]; exact ⟨rfl, by omega, hsv.2⟩
      · rw [upd_off (by omega), upd_off e]; exact r1 x hx
    · rw [upd_off (by omega)]; exact (r2 x hx).1 h
    · by_cases e : x = b
      · rw [e]; exact hg
      · rw [upd_off e] at h; exact (r2 x hx).2 h
  rw [hsp]
  refine st_ret rfl ?_ (R.tender hk (fun a b h => setT_off a b h) (fun a h => um_off (by omega)) (fun a j i h1 h2 h3 => ?_) (fun j h => by rw [um_off (by decide)]) hr)
  · rw [if_pos rfl]
    show sp_X1_countStanding (upd (S 1 k) b v96_0) (S 2 k) = _
    rw [m_cnt4 (fun x h1 h2 q => ((m_stand h2).mp q).1 (by rw [upd_off (by omega), (r2 x h2).1 h1]; decide))]
    refine m_cntB hb4 ((m_stand (by omega)).mpr ⟨by rw [upd_at]; exact nle0 hsv.1, hg⟩) (fun j hj => ?_)
    have := m_in hr (by omega) hj
    rw [s 1, s 2] at this
    simpa using this
  · rcases h1 with rfl | rfl
    · rw [um_off (by decide)]
    · rw [um_at, cl4 (by omega) hb4, upd_off (by omega)]

