set_option maxHeartbeats 4000000 in
theorem st_file1 {n d cn : Nat} {S : Nat → Nat → Nat → Int32} {M : Nat → Nat → Int32} (R : Rel n d S M cn) {a b : Nat} (ha4 : a < 4) (hb4 : b < 4) (h0 : ¬ (nI a) = (nI b)) (h1 : (sp_L_files_j115s0 n M d a b) = 0) : (if (sp_X2_file n d S (nI a) (nI b)).1 = 0 then (sp_X2_file n d S (nI a) (nI b)).2.1 else if (sp_X2_file n d S (nI a) (nI b)).1 = 1 then -2 else -3) = (-3) ∧ ((sp_X2_file n d S (nI a) (nI b)).1 = 0 → Rel n (d + 1) ((sp_X2_file n d S (nI a) (nI b)).2.2) M (cn + 1)) ∧ (¬ (sp_X2_file n d S (nI a) (nI b)).1 = 0 → Rel n d S M (cn + 1)) := by
  have hn := R.1
  have hd := R.2.1
  have hab : a ≠ b := fun q => h0 (by rw [q])
  have hcode : (sp_X2_file n d S (nI a) (nI b)).1 = 2 := by
    unfold sp_X2_file
    rw [if_pos (pairX (by omega) (by omega) (fun q => hab q.symm)), if_neg (show ¬ (20 : Int32) ≤ nI d from nI_ge (a := d) (b := 20) (by omega) (by decide))]
    by_cases c1 : sp_X2_hasDossier d S (nI a) (nI b) = true
    · rw [if_pos c1]
    · rw [if_neg c1]
      have c2 : sp_L_files_L32 M a b d = 0 := by
        by_cases q : sp_L_files_L32 M a b d = 0
        · exact q
        · exact absurd ((hasD_iff R ha4 hb4 hab).mpr ((had_t R ha4 hb4 hab d (Nat.le_refl _)).mp q)) c1
      unfold sp_L_files_j115s0 at h1
      rw [if_neg h0, if_pos c2] at h1
      have c3 : sp_L_suspicion M n (nI a) (nI b) < M 0 1 := by
        by_cases q : sp_L_suspicion M n (nI a) (nI b) < M 0 1
        · exact q
        · rw [if_neg q] at h1; exact absurd h1 (by decide)
      rw [if_neg (fun q => by
        rw [m_susp R ha4 hb4] at q
        rw [R.2.2.2.1] at c3
        have q1 := Int32.lt_iff_toInt_lt.mp c3
        have q2 := Int32.le_iff_toInt_le.mp q
        omega)]
  rw [hcode]
  exact st_thr R (by decide) (by first | rw [if_neg (by decide), if_pos rfl] | rw [if_neg (by decide), if_neg (by decide)])


set_option maxHeartbeats 4000000 in
theorem st_file2 {n d cn : Nat} {S : Nat → Nat → Nat → Int32} {M : Nat → Nat → Int32} (R : Rel n d S M cn) {a b : Nat} (ha4 : a < 4) (hb4 : b < 4) (h0 : ¬ (nI a) = (nI b)) (h1 : ¬ (sp_L_files_j115s0 n M d a b) = 0) : (if (sp_X2_file n d S (nI a) (nI b)).1 = 0 then (sp_X2_file n d S (nI a) (nI b)).2.1 else if (sp_X2_file n d S (nI a) (nI b)).1 = 1 then -2 else -3) = M 0 2 ∧ ((sp_X2_file n d S (nI a) (nI b)).1 = 0 → Rel n (d + 1) ((sp_X2_file n d S (nI a) (nI b)).2.2) (um (um M 0 (upd (M 0) 2 ((M 0 2) + 1))) 4 (upd (upd (upd (upd (M 4) ((8 * (nI d)).toNatClampNeg) (sp_L_files_j198s0 a b)) (((8 * (nI d)) + 1).toNatClampNeg) (sp_L_files_j219s0 a b)) (((8 * (nI d)) + 2).toNatClampNeg) (sp_L_files_G M d a b n)) (((8 * (nI d)) + 4).toNatClampNeg) (-1))) (cn + 1)) ∧ (¬ (sp_X2_file n d S (nI a) (nI b)).1 = 0 → Rel n d S (um (um M 0 (upd (M 0) 2 ((M 0 2) + 1))) 4 (upd (upd (upd (upd (M 4) ((8 * (nI d)).toNatClampNeg) (sp_L_files_j198s0 a b)) (((8 * (nI d)) + 1).toNatClampNeg) (sp_L_files_j219s0 a b)) (((8 * (nI d)) + 2).toNatClampNeg) (sp_L_files_G M d a b n)) (((8 * (nI d)) + 4).toNatClampNeg) (-1))) (cn + 1)) := by
  have hn := R.1
  have hd6 := file_d6 R ha4 hb4 h1
  obtain ⟨hab, hno, hmk⟩ := file_can R ha4 hb4 h1
  have hnx : ¬ ∃ i, i < d ∧ M 4 (8 * i) = nI (min a b) ∧ M 4 (8 * i + 1) = nI (max a b) := fun q => ((had_t R ha4 hb4 hab d (Nat.le_refl _)).mpr q) hno
  have hsp : sp_X2_file n d S (nI a) (nI b) = (0, nI d, setD S d (nI a) (nI b) (sp_X2_file_U n S (nI a) (nI b) 30) (fun _ => 0) (fun _ => 0) (sp_X2_file_C n S (nI a) (nI b) 30) (-1) 0) := by
    unfold sp_X2_file
    rw [if_pos (pairX (by omega) (by omega) (fun q => hab q.symm)), if_neg (show ¬ (20 : Int32) ≤ nI d from nI_ge (a := d) (b := 20) (by omega) (by decide)), if_neg (fun q => hnx ((hasD_iff R ha4 hb4 hab).mp q)), if_pos (by
      rw [m_susp R ha4 hb4]
      rw [R.2.2.2.1] at hmk
      have q1 : ¬ (sp_L_suspicion M n (nI a) (nI b)).toInt < (S 16 0 0).toInt := fun q => hmk (Int32.lt_iff_toInt_lt.mpr q)
      exact Int32.le_iff_toInt_le.mpr (by omega))]
  obtain ⟨mm, m1, m2, m3⟩ := G_ex R hd6 ha4 hb4 n (Nat.le_refl _)
  have j1 : sp_L_files_j198s0 a b = nI (min a b) := by
    unfold sp_L_files_j198s0
    rcases Nat.lt_or_ge a b with q | q
    · rw [if_neg (nI_ge q (by omega)), Nat.min_eq_left (by omega)]
    · rw [if_pos (nI_le q (by omega)), Nat.min_eq_right q]
  have j2 : sp_L_files_j219s0 a b = nI (max a b) := by
    unfold sp_L_files_j219s0
    rcases Nat.lt_or_ge a b with q | q
    · rw [if_neg (nI_ge q (by omega)), Nat.max_eq_right (by omega)]
    · rw [if_pos (nI_le q (by omega)), Nat.max_eq_left q]
  rw [hsp, j1, j2, m2, cl80 hd6, show (8 * nI d + 1 : Int32).toNatClampNeg = 8 * d + 1 from c8 (i := 1) hd6 (by decide), show (8 * nI d + 2 : Int32).toNatClampNeg = 8 * d + 2 from c8 (i := 2) hd6 (by decide), show (8 * nI d + 4 : Int32).toNatClampNeg = 8 * d + 4 from c8 (i := 4) hd6 (by decide)]
  obtain ⟨g1, g2, g3, g4, g5, g6, g7, g8, g9, g10, g11⟩ := R.mono
  obtain ⟨rg1, rg2, rg3⟩ := g10 d (Nat.le_refl _) hd6
  obtain ⟨M', hM'⟩ : ∃ X, um (um M 0 (upd (M 0) 2 (M 0 2 + 1))) 4 (upd (upd (upd (upd (M 4) (8 * d) (nI (min a b))) (8 * d + 1) (nI (max a b))) (8 * d + 2) (nI mm)) (8 * d + 4) (-1)) = X := ⟨_, rfl⟩
  obtain ⟨S', hS'⟩ : ∃ X, setD S d (nI a) (nI b) (sp_X2_file_U n S (nI a) (nI b) 30) (fun _ => 0) (fun _ => 0) (sp_X2_file_C n S (nI a) (nI b) 30) (-1) 0 = X := ⟨_, rfl⟩
  have u0 : M' 0 = upd (M 0) 2 (M 0 2 + 1) := by rw [← hM', um_off (by decide), um_at]
  have u4 : M' 4 = upd (upd (upd (upd (M 4) (8 * d) (nI (min a b))) (8 * d + 1) (nI (max a b))) (8 * d + 2) (nI mm)) (8 * d + 4) (-1) := by rw [← hM', um_at]
  have uo : ∀ x, x ≠ 0 → x ≠ 4 → M' x = M x := fun x h1 h2 => by rw [← hM', um_off h2, um_off h1]
  have so : ∀ x y, x ≤ 6 ∨ 15 ≤ x ∨ y ≠ d → S' x y = S x y := fun x y h => by rw [← hS']; exact setD_off x y h
  have f4 : ∀ i, i ≠ 8 * d → i ≠ 8 * d + 1 → i ≠ 8 * d + 2 → i ≠ 8 * d + 4 → M' 4 i = M 4 i := fun i q1 q2 q3 q4 => by rw [u4, upd_off q4, upd_off q3, upd_off q2, upd_off q1]
  dsimp only
  rw [hM', hS']
  refine st_ret rfl (by first | exact (if_pos rfl).trans R.d2.symm | exact R.d2.symm) ⟨g1, by omega, by rw [u0, upd_off (by decide)]; exact g3, by rw [u0, upd_off (by decide), so 16 0 (by omega)]; exact g4, by rw [u0, upd_at, R.d2, nI_1], fun x hx => by rw [u0, upd_off (by omega), so 15 0 (by omega)]; exact g6 x hx, fun k hk => (g7 k hk).congr (fun x hx => so x k (by omega)) (fun i _ => by rw [uo 1 (by decide) (by decide)]) (fun i _ => by rw [uo 2 (by decide) (by decide)]) (by rw [uo 3 (by decide) (by decide)]), fun k hk hk2 => (g8 k hk hk2).congr (fun i _ => by rw [uo 1 (by decide) (by decide)]) (fun i _ => by rw [uo 2 (by decide) (by decide)]) (by rw [uo 3 (by decide) (by decide)]), fun k hk => ?_, fun k hk hk2 => ?_, fun i k hi hk => ?_⟩
  · rcases Nat.lt_or_ge k d with q | q
    · exact (g9 k q).congr (fun x h8 h9 => so x k (by omega)) (fun i hi => f4 _ (by omega) (by omega) (by omega) (by omega)) (fun i _ => by rw [uo 5 (by decide) (by decide)])
    · have : k = d := by omega
      subst this
      have s7 : S' 7 k 0 = nI a := by rw [← hS']; simp [setD]
      have s8 : S' 8 k 0 = nI b := by rw [← hS']; simp [setD]
      have s9 : S' 9 k = sp_X2_file_U n S (nI a) (nI b) 30 := by rw [← hS']; simp [setD]
      have s10 : S' 10 k = fun _ => 0 := by rw [← hS']; simp [setD]
      have s11 : S' 11 k = fun _ => 0 := by rw [← hS']; simp [setD]
      have s12 : S' 12 k 0 = sp_X2_file_C n S (nI a) (nI b) 30 := by rw [← hS']; simp [setD]
      have s13 : S' 13 k 0 = -1 := by rw [← hS']; simp [setD]
      have s14 : S' 14 k 0 = 0 := by rw [← hS']; simp [setD]
      refine ⟨min a b, max a b, mm, 0, by omega, by omega, ?_, ?_, ?_, m1, by decide, ?_, ?_, fun t ht => ?_, ?_, ?_, ?_, ?_, ?_, Or.inl s14, ?_, ?_, fun x hx => ⟨0, Nat.zero_le _, by rw [s10]; rfl, fun q => ?_⟩, Or.inl s13⟩
      · rw [s7, s8]
        rcases Nat.lt_or_ge a b with q9 | q9
        · exact Or.inl ⟨by rw [Nat.min_eq_left (by omega)], by rw [Nat.max_eq_right (by omega)]⟩
        · exact Or.inr ⟨by rw [Nat.max_eq_left q9], by rw [Nat.min_eq_right q9]⟩
      · rw [u4, upd_off (by omega), upd_off (by omega), upd_off (by omega), upd_at]
      · rw [u4, upd_off (by omega), upd_off (by omega), upd_at]
      · rw [u4, upd_off (by omega), upd_at]
      · rw [f4 _ (by omega) (by omega) (by omega) (by omega)]; exact rg1 3 (by decide)
      · rw [s9, U_at 30 (Nat.le_refl _) t ht, Nat.zero_testBit]
        by_cases c : mm.testBit t = true
        · rw [if_pos ⟨ht, ((m3 t ht).mp c).2⟩, c]; rfl
        · have c' : ¬ (t < 30 ∧ ¬ sp_X2_countOf n S (nI t) (nI a) (nI b) ≤ 0) := fun q => c ((m3 t ht).mpr ⟨by
            rcases Nat.lt_or_ge t n with z | z
            · exact z
            · exact absurd (show sp_X2_countOf n S (nI t) (nI a) (nI b) ≤ 0 from by rw [m_countF S _ _ (by omega) (by omega)]; decide) q.2, q.2⟩)
          rw [if_neg c', Bool.eq_false_iff.mpr c]; rfl
      · rw [s12]; exact C_bits m1 m3 hn
      · rw [u4, upd_at, s13]
      · rw [f4 _ (by omega) (by omega) (by omega) (by omega), s10]; exact rg1 5 (by decide)
      · rw [f4 _ (by omega) (by omega) (by omega) (by omega), s10]; exact rg1 6 (by decide)
      · rw [f4 _ (by omega) (by omega) (by omega) (by omega), s14]; exact rg1 7 (by decide)
      · rw [uo 5 (by decide) (by decide), s11]; exact rg2
      · rw [uo 5 (by decide) (by decide), s11]; exact rg3
      · rw [s13] at q; exact absurd q.symm (nI_ne1 (by omega))
  · exact (g10 k (by omega) hk2).congr (fun i hi => f4 _ (by omega) (by omega) (by omega) (by omega)) (fun i _ => by rw [uo 5 (by decide) (by decide)])
  · rw [f4 (8 * i) (by omega) (by omega) (by omega) (by omega), f4 (8 * i + 1) (by omega) (by omega) (by omega) (by omega)]
    rcases Nat.lt_or_ge k d with q | q
    · rw [f4 (8 * k) (by omega) (by omega) (by omega) (by omega), f4 (8 * k + 1) (by omega) (by omega) (by omega) (by omega)]
      exact g11 i k hi q
    · have : k = d := by omega
      subst this
      have e0 : M' 4 (8 * k) = nI (min a b) := by rw [u4, upd_off (by omega), upd_off (by omega), upd_off (by omega), upd_at]
      have e1 : M' 4 (8 * k + 1) = nI (max a b) := by rw [u4, upd_off (by omega), upd_off (by omega), upd_at]
      rw [e0, e1]
      exact fun q => hnx ⟨i, hi, q⟩


set_option maxHeartbeats 4000000 in
theorem st_file0 {n d cn : Nat} {S : Nat → Nat → Nat → Int32} {M : Nat → Nat → Int32} (R : Rel n d S M cn) {a b : Nat} (ha4 : a < 4) (hb4 : b < 4) (h0 : (nI a) = (nI b)) : (if (sp_X2_file n d S (nI a) (nI b)).1 = 0 then (sp_X2_file n d S (nI a) (nI b)).2.1 else if (sp_X2_file n d S (nI a) (nI b)).1 = 1 then -2 else -3) = (-2) ∧ ((sp_X2_file n d S (nI a) (nI b)).1 = 0 → Rel n (d + 1) ((sp_X2_file n d S (nI a) (nI b)).2.2) M (cn + 1)) ∧ (¬ (sp_X2_file n d S (nI a) (nI b)).1 = 0 → Rel n d S M (cn + 1)) := by
  have hcode : (sp_X2_file n d S (nI a) (nI b)).1 = 1 := by
    unfold sp_X2_file
    rw [if_neg (fun q => by
      unfold sp_X2_isPair at q
      rw [if_pos (isB_nI (by omega)), if_pos (isB_nI (by omega)), if_pos h0] at q
      exact absurd q (by decide))]
  rw [hcode]
  exact st_thr R (by decide) (by first | rw [if_neg (by decide), if_pos rfl] | rw [if_neg (by decide), if_neg (by decide)])


set_option maxHeartbeats 4000000 in
theorem st_close0 {n d cn : Nat} {S : Nat → Nat → Nat → Int32} {M : Nat → Nat → Int32} (R : Rel n d S M cn) {j : Nat} (hj : j < d) (hc : ¬ (sp_L_files_j340s0 M j) = 0) : (if (sp_X2_close n d S (nI j)).1 = 0 then (sp_X2_close n d S (nI j)).2.1 else if (sp_X2_close n d S (nI j)).1 = 2 then -3 else -3) = (-3) ∧ ((sp_X2_close n d S (nI j)).1 = 0 → Rel n d ((sp_X2_close n d S (nI j)).2.2) M (cn + 1)) ∧ (¬ (sp_X2_close n d S (nI j)).1 = 0 → Rel n d S M (cn + 1)) := by
  have hd := R.2.1
  have hcl : ¬ S 14 j 0 = 0 := fun q => hc ((j340_iff R hj).mpr q)
  have hcode : (sp_X2_close n d S (nI j)).1 = 2 := by
    unfold sp_X2_close
    rw [if_pos (tIn_of hj R.d31), nI_clamp (show j < 2 ^ 31 by omega), if_neg (show ¬ sp_X0_isClosed (S 14 j 0) = 0 from hcl)]
  rw [hcode]
  exact st_thr R (by decide) (by first | rw [if_neg (by decide), if_pos rfl] | rw [if_neg (by decide), if_neg (by decide)])


set_option maxHeartbeats 4000000 in
theorem st_close1 {n d cn : Nat} {S : Nat → Nat → Nat → Int32} {M : Nat → Nat → Int32} (R : Rel n d S M cn) (hcn : cn < 1000) {j : Nat} (hj : j < d) (hc : (sp_L_files_j340s0 M j) = 0) {Mf1 Mg1 Mf2 Mg2 : Nat → Nat → Int32} {rf1 rf2 : Int32} (hMf1 : um M 4 (upd (M 4) (((8 * (nI j)) + 7).toNatClampNeg) 1) = Mf1) (hMg1 : (sp_L_fine Mf1 n (nI j) 0).2 = Mg1) (hrf1 : (sp_L_fine Mf1 n (nI j) 0).1 = rf1) (hMf2 : um Mg1 5 (upd (Mg1 5) ((2 * (nI j)).toNatClampNeg) rf1) = Mf2) (hMg2 : (sp_L_fine Mf2 n (nI j) 1).2 = Mg2) (hrf2 : (sp_L_fine Mf2 n (nI j) 1).1 = rf2) : (if (sp_X2_close n d S (nI j)).1 = 0 then (sp_X2_close n d S (nI j)).2.1 else if (sp_X2_close n d S (nI j)).1 = 2 then -3 else -3) = ((upd (Mg2 5) (((2 * (nI j)) + 1).toNatClampNeg) rf2) ((2 * (nI j)).toNatClampNeg)) + ((upd (Mg2 5) (((2 * (nI j)) + 1).toNatClampNeg) rf2) (((2 * (nI j)) + 1).toNatClampNeg)) ∧ ((sp_X2_close n d S (nI j)).1 = 0 → Rel n d ((sp_X2_close n d S (nI j)).2.2) (um Mg2 5 (upd (Mg2 5) (((2 * (nI j)) + 1).toNatClampNeg) rf2)) (cn + 1)) ∧ (¬ (sp_X2_close n d S (nI j)).1 = 0 → Rel n d S (um Mg2 5 (upd (Mg2 5) (((2 * (nI j)) + 1).toNatClampNeg) rf2)) (cn + 1)) := by
  have hn := R.1
  have hd := R.2.1
  have hcl := (j340_iff R hj).mp hc
  obtain ⟨a, b, mm, tt, h1, h2, h3, h4, h5, h6, h7, h8, h9, h10, h11, h12, h13, h14, h15, h16, h17, h18, h19, h20⟩ := R.rf hj
  obtain ⟨S1, hS1⟩ : ∃ X, setD S j (S 7 j 0) (S 8 j 0) (S 9 j) (S 10 j) (S 11 j) (S 12 j 0) (S 13 j 0) 1 = X := ⟨_, rfl⟩
  have so : ∀ x y, x ≤ 6 ∨ 15 ≤ x ∨ y ≠ j → S1 x y = S x y := fun x y h => by rw [← hS1]; exact setD_off x y h
  have s7 : S1 7 j 0 = S 7 j 0 := by rw [← hS1]; simp [setD]
  have s8 : S1 8 j 0 = S 8 j 0 := by rw [← hS1]; simp [setD]
  have s9 : S1 9 j = S 9 j := by rw [← hS1]; simp [setD]
  have s10 : S1 10 j = S 10 j := by rw [← hS1]; simp [setD]
  have s11 : S1 11 j = S 11 j := by rw [← hS1]; simp [setD]
  have s12 : S1 12 j 0 = S 12 j 0 := by rw [← hS1]; simp [setD]
  have s13 : S1 13 j 0 = S 13 j 0 := by rw [← hS1]; simp [setD]
  have s14 : S1 14 j 0 = 1 := by rw [← hS1]; simp [setD]
  have hsp : sp_X2_close n d S (nI j) = (0, (sp_X2_settle n S1 j (S 7 j 0)).1 + (sp_X2_settle n (sp_X2_settle n S1 j (S 7 j 0)).2 j ((sp_X2_settle n S1 j (S 7 j 0)).2 8 j 0)).1, (sp_X2_settle n (sp_X2_settle n S1 j (S 7 j 0)).2 j ((sp_X2_settle n S1 j (S 7 j 0)).2 8 j 0)).2) := by
    unfold sp_X2_close
    rw [if_pos (tIn_of hj R.d31), nI_clamp (show j < 2 ^ 31 by omega), if_pos (show sp_X0_isClosed (S 14 j 0) = 0 from hcl), hS1]
    unfold sp_X0_one sp_X0_other
    rw [s7]
  -- the law's two fines
  have m4 : ∀ i, i < 7 → Mf1 4 (8 * j + i) = M 4 (8 * j + i) := fun i hi => by rw [← hMf1, um_at, show (8 * nI j + 7 : Int32).toNatClampNeg = 8 * j + 7 from c8 (i := 7) (by omega) (by decide), upd_off (by omega)]
  have mo : ∀ x, x ≠ 4 → Mf1 x = M x := fun x h => by rw [← hMf1, um_off h]
  have L1 : FL n Mf1 j a 0 a rf1 Mg1 := fl_of (show j < 6 by omega) (by omega) (show (0 : Nat) < 2 by decide) (by rw [show 8 * j + 0 = 8 * j from rfl, show 8 * j = 8 * j + 0 from rfl, m4 0 (by decide)]; exact h4) hMg1 hrf1
  have g0 : ∀ x, x ≠ 3 + a → Mg1 0 x = M 0 x := fun x h => by rw [L1.2.1, upd_off h, mo 0 (by decide)]
  have go : ∀ x, x ≠ 0 → Mg1 x = Mf1 x := L1.2.2
  have k5 : Mf2 5 = upd (M 5) (2 * j) rf1 := by rw [← hMf2, um_at, go 5 (by decide), mo 5 (by decide), cl20 (by omega)]
  have ko : ∀ x, x ≠ 5 → Mf2 x = Mg1 x := fun x h => by rw [← hMf2, um_off h]
  have k4 : ∀ i, i < 7 → Mf2 4 (8 * j + i) = M 4 (8 * j + i) := fun i hi => by rw [ko 4 (by decide), go 4 (by decide), m4 i hi]
  have L2 : FL n Mf2 j b 1 b rf2 Mg2 := fl_of (show j < 6 by omega) (by omega) (show (1 : Nat) < 2 by decide) (by rw [k4 1 (by decide)]; exact h5) hMg2 hrf2
  -- both are what the class takes
  have D : ∀ (T : Nat → Nat → Nat → Int32) (N : Nat → Nat → Int32) (w sd : Nat), w < 4 → sd < 2 → N 4 (8 * j + sd) = nI w → M 4 (8 * j + 5 + sd) = S 10 j w → (∀ x y, x ≤ 6 → T x y = S x y) → T 10 j = S 10 j → T 12 j 0 = S 12 j 0 → T 13 j 0 = S 13 j 0 → (∀ i, i < 7 → N 4 (8 * j + i) = M 4 (8 * j + i)) → N 1 = M 1 → N 2 = M 2 → sdue n T j w = ldue n N j sd := fun T N w sd hw hsd e1 e2 e3 e4 e5 e6 e7 e8 e9 => m_due R hcn hj hw hsd e1 e2 e3 e4 e5 e6 e7 e8 e9
  have hMM : ∀ y, (upd (Mg2 5) (2 * j + 1) rf2) y = upd (upd (M 5) (2 * j) rf1) (2 * j + 1) rf2 y := fun y => by rw [L2.2.2 5 (by decide), k5]
  rw [hsp, cl20 (show j < 6 by omega), show (2 * nI j + 1 : Int32).toNatClampNeg = 2 * j + 1 from cl2 (b := 1) (by omega) (by decide)]
  obtain ⟨MM, hMe⟩ : ∃ X, um Mg2 5 (upd (Mg2 5) (2 * j + 1) rf2) = X := ⟨_, rfl⟩
  have z5 : MM 5 = upd (upd (M 5) (2 * j) rf1) (2 * j + 1) rf2 := by rw [← hMe, um_at, L2.2.2 5 (by decide), k5]
  have zo : ∀ x, x ≠ 5 → MM x = Mg2 x := fun x h => by rw [← hMe, um_off h]
  have z4 : ∀ i, i ≠ 8 * j + 7 → MM 4 i = M 4 i := fun i h => by rw [zo 4 (by decide), L2.2.2 4 (by decide), ko 4 (by decide), go 4 (by decide), ← hMf1, um_at, show (8 * nI j + 7 : Int32).toNatClampNeg = 8 * j + 7 from c8 (i := 7) (by omega) (by decide), upd_off h]
  have z47 : MM 4 (8 * j + 7) = 1 := by rw [zo 4 (by decide), L2.2.2 4 (by decide), ko 4 (by decide), go 4 (by decide), ← hMf1, um_at, show (8 * nI j + 7 : Int32).toNatClampNeg = 8 * j + 7 from c8 (i := 7) (by omega) (by decide), upd_at]
  have z1 : ∀ x, x = 1 ∨ x = 2 ∨ x = 3 → MM x = M x := fun x h => by rw [zo x (by omega), L2.2.2 x (by omega), ko x (by omega), go x (by omega), mo x (by omega)]
  have z0 : MM 0 = upd (Mf2 0) (3 + b) (Mf2 0 (3 + b) - ltk n Mf2 j 1 b) := by rw [zo 0 (by decide)]; exact L2.2.1
  rw [hMM, hMM, hMe, upd_off (show 2 * j ≠ 2 * j + 1 by omega), upd_at, upd_at]
  -- the watch's two settlings
  obtain ⟨p, q, hp, hq, hpq, e7, e8⟩ : ∃ p q, p < 4 ∧ q < 4 ∧ ((p = a ∧ q = b) ∨ (p = b ∧ q = a)) ∧ S 7 j 0 = nI p ∧ S 8 j 0 = nI q := by
    rcases h3 with ⟨x1, x2⟩ | ⟨x1, x2⟩
    · exact ⟨a, b, by omega, h2, Or.inl ⟨rfl, rfl⟩, x1, x2⟩
    · exact ⟨b, a, h2, by omega, Or.inr ⟨rfl, rfl⟩, x1, x2⟩
  rw [e7]
  obtain ⟨T1, hT1⟩ : ∃ X, (sp_X2_settle n S1 j (nI p)).2 = X := ⟨_, rfl⟩
  rw [hT1]
  have A1 := ss_of (n := n) (S := S1) (j := j) (w := p) (by omega) hT1
  have t8 : T1 8 j 0 = nI q := by rw [A1.f8, s8, e8]
  rw [t8]
  obtain ⟨T2, hT2⟩ : ∃ X, (sp_X2_settle n T1 j (nI q)).2 = X := ⟨_, rfl⟩
  rw [hT2]
  have A2 := ss_of (n := n) (S := T1) (j := j) (w := q) (by omega) hT2
  have hqp : q ≠ p := by omega
  have t15 : T1 15 0 q = S 15 0 q := by rw [A1.f15, upd_off hqp, so 15 0 (by omega)]
  have p15 : S1 15 0 p = S 15 0 p := by rw [so 15 0 (by omega)]
  have m0 : ∀ x, x < 4 → M 0 (3 + x) = S 15 0 x := R.2.2.2.2.2.1
  have T1o : ∀ x y, x ≤ 6 → T1 x y = S x y := fun x y h => by rw [A1.off x y (Or.inl h)]; exact so x y (Or.inl h)
  -- the four amounts
  have da : ∀ (T : Nat → Nat → Nat → Int32), (∀ x y, x ≤ 6 → T x y = S x y) → T 10 j = S 10 j → T 12 j 0 = S 12 j 0 → T 13 j 0 = S 13 j 0 → T 15 0 a = S 15 0 a → sdue n T j a = ldue n Mf1 j 0 ∧ stk n T j a = ltk n Mf1 j 0 a := fun T y1 y2 y3 y4 y5 => by
    have e := D T Mf1 a 0 (by omega) (by decide) (by rw [m4 0 (by decide)]; exact h4) h13 y1 y2 y3 y4 m4 (mo 1 (by decide)) (mo 2 (by decide))
    exact ⟨e, by unfold stk ltk; rw [e, y5, mo 0 (by decide), m0 a (by omega)]; exact min_eq _ _⟩
  have db : ∀ (T : Nat → Nat → Nat → Int32), (∀ x y, x ≤ 6 → T x y = S x y) → T 10 j = S 10 j → T 12 j 0 = S 12 j 0 → T 13 j 0 = S 13 j 0 → T 15 0 b = S 15 0 b → sdue n T j b = ldue n Mf2 j 1 ∧ stk n T j b = ltk n Mf2 j 1 b := fun T y1 y2 y3 y4 y5 => by
    have e := D T Mf2 b 1 h2 (by decide) (by rw [k4 1 (by decide)]; exact h5) h14 y1 y2 y3 y4 k4 (by rw [ko 1 (by decide), go 1 (by decide), mo 1 (by decide)]) (by rw [ko 2 (by decide), go 2 (by decide), mo 2 (by decide)])
    exact ⟨e, by unfold stk ltk; rw [e, y5, ko 0 (by decide), g0 _ (by omega), m0 b h2]; exact min_eq _ _⟩
  have r1 : rf1 = ldue n Mf1 j 0 - ltk n Mf1 j 0 a := L1.1
  have r2 : rf2 = ldue n Mf2 j 1 - ltk n Mf2 j 1 b := L2.1
  have c1 : S1 15 0 = S 15 0 := so 15 0 (by omega)
  have hfin : (sp_X2_settle n S1 j (nI p)).1 + (sp_X2_settle n T1 j (nI q)).1 = rf1 + rf2 ∧ (∀ x, T2 11 j x = if x = a then rf1 else if x = b then rf2 else S 11 j x) ∧ (∀ x, T2 15 0 x = if x = a then S 15 0 a - ltk n Mf1 j 0 a else if x = b then S 15 0 b - ltk n Mf2 j 1 b else S 15 0 x) := by
    rcases hpq with ⟨rfl, rfl⟩ | ⟨rfl, rfl⟩
    · obtain ⟨d1, k1⟩ := da S1 (fun x y h => so x y (Or.inl h)) s10 s12 s13 p15
      obtain ⟨d2, k2⟩ := db T1 T1o (by rw [A1.f10, s10]) (by rw [A1.f12, s12]) (by rw [A1.f13, s13]) t15
      refine ⟨by rw [A1.val, A2.val, d1, k1, d2, k2, r1, r2], fun x => ?_, fun x => ?_⟩
      · rw [A2.f11, A1.f11, d2, k2, d1, k1, ← r1, ← r2, s11]
        by_cases x1 : x = p
        · rw [if_pos x1, x1, upd_off (by omega), upd_at]
        · rw [if_neg x1]
          by_cases x2 : x = q
          · rw [if_pos x2, x2, upd_at]
          · rw [if_neg x2, upd_off x2, upd_off x1]
      · rw [A2.f15, A1.f15, k2, k1, c1]
        by_cases x1 : x = p
        · rw [if_pos x1, x1, upd_off (by omega), upd_at]
        · rw [if_neg x1]
          by_cases x2 : x = q
          · rw [if_pos x2, x2, upd_at, upd_off (by omega)]
          · rw [if_neg x2, upd_off x2, upd_off x1]
    · obtain ⟨d1, k1⟩ := db S1 (fun x y h => so x y (Or.inl h)) s10 s12 s13 p15
      obtain ⟨d2, k2⟩ := da T1 T1o (by rw [A1.f10, s10]) (by rw [A1.f12, s12]) (by rw [A1.f13, s13]) t15
      refine ⟨by rw [A1.val, A2.val, d1, k1, d2, k2, r1, r2, Int32.add_comm], fun x => ?_, fun x => ?_⟩
      · rw [A2.f11, A1.f11, d2, k2, d1, k1, ← r1, ← r2, s11]
        by_cases x1 : x = q
        · rw [if_pos x1, x1, upd_at]
        · rw [if_neg x1]
          by_cases x2 : x = p
          · rw [if_pos x2, x2, upd_off (by omega), upd_at]
          · rw [if_neg x2, upd_off x1, upd_off x2]
      · rw [A2.f15, A1.f15, k2, k1, c1]
        by_cases x1 : x = q
        · rw [if_pos x1, x1, upd_at, upd_off (by omega)]
        · rw [if_neg x1]
          by_cases x2 : x = p
          · rw [if_pos x2, x2, upd_off (by omega), upd_at]
          · rw [if_neg x2, upd_off x1, upd_off x2]
  obtain ⟨w1, w2, w3⟩ := hfin
  have T2o : ∀ x y, x ≤ 6 ∨ x = 16 ∨ (x ≤ 14 ∧ y ≠ j) → T2 x y = S x y := fun x y h => by rw [A2.off x y h, A1.off x y h]; exact so x y (by omega)
  dsimp only
  refine st_ret rfl (by first | exact (if_pos rfl).trans w1 | exact w1) (R.file1 hj T2o ?_ ?_ ?_ (fun x hx => ?_) (z1 1 (by decide)) (z1 2 (by decide)) (z1 3 (by decide)) (fun k i y1 y2 => z4 _ (by omega)) (fun k i y1 y2 => by rw [z5, upd_off (by omega), upd_off (by omega)]) (z4 _ (by omega)) (z4 _ (by omega)) ?_)
  · rw [z0, upd_off (by omega), ko 0 (by decide), g0 _ (by omega)]
  · rw [z0, upd_off (by omega), ko 0 (by decide), g0 _ (by omega)]
  · rw [z0, upd_off (by omega), ko 0 (by decide), g0 _ (by omega)]
  · rw [w3 x, z0, ko 0 (by decide)]
    by_cases x1 : x = a
    · subst x1
      rw [if_pos rfl, upd_off (by omega), L1.2.1, upd_at, mo 0 (by decide), m0 x (by omega)]
    · rw [if_neg x1]
      by_cases x2 : x = b
      · subst x2
        rw [if_pos rfl, upd_at, g0 _ (by omega), m0 x (by omega)]
      · rw [if_neg x2, upd_off (by omega), g0 _ (by omega), m0 x hx]
  · refine ⟨a, b, mm, tt, h1, h2, ?_, ?_, ?_, h6, h7, ?_, ?_, ?_, ?_, ?_, ?_, ?_, ?_, Or.inr ?_, ?_, ?_, ?_, ?_⟩
    · rw [A2.f7, A2.f8, A1.f7, A1.f8, s7, s8]; exact h3
    · rw [z4 _ (by omega)]; exact h4
    · rw [z4 _ (by omega)]; exact h5
    · rw [z4 _ (by omega)]; exact h8
    · rw [z4 _ (by omega)]; exact h9
    · rw [A2.f9, A1.f9, s9]; exact h10
    · rw [A2.f12, A1.f12, s12]; exact h11
    · rw [z4 _ (by omega), A2.f13, A1.f13, s13]; exact h12
    · rw [z4 _ (by omega), A2.f10, A1.f10, s10]; exact h13
    · rw [z4 _ (by omega), A2.f10, A1.f10, s10]; exact h14
    · rw [z47, A2.f14, A1.f14, s14]
    · rw [A2.f14, A1.f14, s14]
    · rw [z5, upd_off (by omega), upd_at, w2 a, if_pos rfl]
    · rw [z5, upd_at, w2 b, if_neg (by omega), if_pos rfl]
    · rw [A2.f10, A1.f10, s10, A2.f13, A1.f13, s13]
      intro x hx
      obtain ⟨v, v1, v2, v3⟩ := h19 x hx
      exact ⟨v, Nat.le_succ_of_le v1, v2, v3⟩
    · rw [A2.f13, A1.f13, s13]; exact h20


set_option maxHeartbeats 4000000 in
theorem st_tell0 {n d cn : Nat} {S : Nat → Nat → Nat → Int32} {M : Nat → Nat → Int32} (R : Rel n d S M cn) {j sd t : Nat} (hj : j < d) (hsd : sd < 2) (ht : t < n) (hc : (sp_L_files_j378s0 M j t) = 0) : (if (sp_X2_tell n d S (nI j) (M 4 (((8 * (nI j)) + (nI sd)).toNatClampNeg)) (nI t)).1 = 0 then (if (sp_X2_tell n d S (nI j) (M 4 (((8 * (nI j)) + (nI sd)).toNatClampNeg)) (nI t)).2.1 = 0 then (0 : Int32) else 1) else if (sp_X2_tell n d S (nI j) (M 4 (((8 * (nI j)) + (nI sd)).toNatClampNeg)) (nI t)).1 = 2 then -2 else -3) = (if sp_L_files_j340s0 M j = 0 then 0 else -3) ∧ ((sp_X2_tell n d S (nI j) (M 4 (((8 * (nI j)) + (nI sd)).toNatClampNeg)) (nI t)).1 = 0 → Rel n d ((sp_X2_tell n d S (nI j) (M 4 (((8 * (nI j)) + (nI sd)).toNatClampNeg)) (nI t)).2.2) M (cn + 1)) ∧ (¬ (sp_X2_tell n d S (nI j) (M 4 (((8 * (nI j)) + (nI sd)).toNatClampNeg)) (nI t)).1 = 0 → Rel n d S M (cn + 1)) := by
  have hn := R.1
  have hd := R.2.1
  obtain ⟨w, hw, ew, hof⟩ := tell_w R hj hsd
  rw [ew]
  obtain ⟨a, b, mm, tt, h1, h2, h3, h4, h5, h6, h7, h8, h9, h10, h11, h12, h13, h14, h15, h16, h17, h18, h19, h20⟩ := R.rf hj
  by_cases hcl : S 14 j 0 = 0
  · have hcl' := (j340_iff R hj).mpr hcl
    have hun : S 9 j t = 0 := by
      have h10 := h10 t (by omega)
      unfold sp_L_files_j378s0 at hc
      rw [if_pos hcl', show (8 * nI j + 2 : Int32).toNatClampNeg = 8 * j + 2 from c8 (i := 2) (by omega) (by decide), show (8 * nI j + 3 : Int32).toNatClampNeg = 8 * j + 3 from c8 (i := 3) (by omega) (by decide), h8, h9, bit8 h6 (by omega), bit8 h7 (by omega)] at hc
      rw [h10]
      revert hc
      cases mm.testBit t <;> cases tt.testBit t <;> intro hc <;> first | rfl | exact absurd hc (by decide)
    have hsp : sp_X2_tell n d S (nI j) (nI w) (nI t) = (0, 0, setD S j (S 7 j 0) (S 8 j 0) (S 9 j) (S 10 j) (S 11 j) (S 12 j 0) (S 13 j 0) (S 14 j 0)) := by
      have hh : sp_X0_hear (S 9 j) (S 10 j) (S 13 j 0) (nI w) (nI t) = (false, S 9 j, S 10 j, S 13 j 0) := by
        unfold sp_X0_hear
        rw [nI_clamp (show t < 2 ^ 31 by omega), if_pos hun]
      unfold sp_X2_tell
      rw [if_pos (tIn_of hj R.d31), if_pos (tIn_of ht R.n31), nI_clamp (show j < 2 ^ 31 by omega), if_pos hof, if_pos (show sp_X0_isClosed (S 14 j 0) = 0 from hcl), hh]
      rfl
    rw [hsp, if_pos hcl']
    dsimp only
    refine st_ret rfl (by first | rfl | (rw [if_pos rfl, if_pos rfl])) (R.file1 hj (fun x y h => setD_off' x y h) rfl rfl rfl (fun x hx => by rw [setD_off 15 0 (by omega)]; exact R.2.2.2.2.2.1 x hx) rfl rfl rfl (fun _ _ _ _ => rfl) (fun _ _ _ _ => rfl) rfl rfl ?_)
    have s7 : setD S j (S 7 j 0) (S 8 j 0) (S 9 j) (S 10 j) (S 11 j) (S 12 j 0) (S 13 j 0) (S 14 j 0) 7 j 0 = S 7 j 0 := by simp [setD]
    have s8 : setD S j (S 7 j 0) (S 8 j 0) (S 9 j) (S 10 j) (S 11 j) (S 12 j 0) (S 13 j 0) (S 14 j 0) 8 j 0 = S 8 j 0 := by simp [setD]
    have s9 : setD S j (S 7 j 0) (S 8 j 0) (S 9 j) (S 10 j) (S 11 j) (S 12 j 0) (S 13 j 0) (S 14 j 0) 9 j = S 9 j := by simp [setD]
    have s10 : setD S j (S 7 j 0) (S 8 j 0) (S 9 j) (S 10 j) (S 11 j) (S 12 j 0) (S 13 j 0) (S 14 j 0) 10 j = S 10 j := by simp [setD]
    have s11 : setD S j (S 7 j 0) (S 8 j 0) (S 9 j) (S 10 j) (S 11 j) (S 12 j 0) (S 13 j 0) (S 14 j 0) 11 j = S 11 j := by simp [setD]
    have s12 : setD S j (S 7 j 0) (S 8 j 0) (S 9 j) (S 10 j) (S 11 j) (S 12 j 0) (S 13 j 0) (S 14 j 0) 12 j 0 = S 12 j 0 := by simp [setD]
    have s13 : setD S j (S 7 j 0) (S 8 j 0) (S 9 j) (S 10 j) (S 11 j) (S 12 j 0) (S 13 j 0) (S 14 j 0) 13 j 0 = S 13 j 0 := by simp [setD]
    have s14 : setD S j (S 7 j 0) (S 8 j 0) (S 9 j) (S 10 j) (S 11 j) (S 12 j 0) (S 13 j 0) (S 14 j 0) 14 j 0 = S 14 j 0 := by simp [setD]
    have rm := R.mono.rf hj
    unfold RF at rm ⊢
    rw [s7, s8, s9, s10, s11, s12, s13, s14]
    exact rm
  · have hcl' : ¬ sp_L_files_j340s0 M j = 0 := fun q => hcl ((j340_iff R hj).mp q)
    have hcode : (sp_X2_tell n d S (nI j) (nI w) (nI t)).1 = 3 := by
      unfold sp_X2_tell
      rw [if_pos (tIn_of hj R.d31), if_pos (tIn_of ht R.n31), nI_clamp (show j < 2 ^ 31 by omega), if_pos hof, if_neg (show ¬ sp_X0_isClosed (S 14 j 0) = 0 from hcl)]
    rw [hcode, if_neg hcl']
    exact st_thr R (by decide) (by first | rw [if_neg (by decide), if_pos rfl] | rw [if_neg (by decide), if_neg (by decide)])


set_option maxHeartbeats 4000000 in
theorem st_tell1 {n d cn : Nat} {S : Nat → Nat → Nat → Int32} {M : Nat → Nat → Int32} (R : Rel n d S M cn) {j sd t : Nat} (hj : j < d) (hsd : sd < 2) (ht : t < n) (hc : ¬ (sp_L_files_j378s0 M j t) = 0) : (if (sp_X2_tell n d S (nI j) (M 4 (((8 * (nI j)) + (nI sd)).toNatClampNeg)) (nI t)).1 = 0 then (if (sp_X2_tell n d S (nI j) (M 4 (((8 * (nI j)) + (nI sd)).toNatClampNeg)) (nI t)).2.1 = 0 then (0 : Int32) else 1) else if (sp_X2_tell n d S (nI j) (M 4 (((8 * (nI j)) + (nI sd)).toNatClampNeg)) (nI t)).1 = 2 then -2 else -3) = 1 ∧ ((sp_X2_tell n d S (nI j) (M 4 (((8 * (nI j)) + (nI sd)).toNatClampNeg)) (nI t)).1 = 0 → Rel n d ((sp_X2_tell n d S (nI j) (M 4 (((8 * (nI j)) + (nI sd)).toNatClampNeg)) (nI t)).2.2) (um M 4 (upd (upd (upd (M 4) (((8 * (nI j)) + 3).toNatClampNeg) ((M 4 (((8 * (nI j)) + 3).toNatClampNeg)) ||| (1 <<< ((nI t) &&& 31)))) (((8 * (nI j)) + 4).toNatClampNeg) (sp_L_files_j466s0 M j sd t)) ((((8 * (nI j)) + 5) + (nI sd)).toNatClampNeg) (((upd (upd (M 4) (((8 * (nI j)) + 3).toNatClampNeg) ((M 4 (((8 * (nI j)) + 3).toNatClampNeg)) ||| (1 <<< ((nI t) &&& 31)))) (((8 * (nI j)) + 4).toNatClampNeg) (sp_L_files_j466s0 M j sd t)) ((((8 * (nI j)) + 5) + (nI sd)).toNatClampNeg)) + 1))) (cn + 1)) ∧ (¬ (sp_X2_tell n d S (nI j) (M 4 (((8 * (nI j)) + (nI sd)).toNatClampNeg)) (nI t)).1 = 0 → Rel n d S (um M 4 (upd (upd (upd (M 4) (((8 * (nI j)) + 3).toNatClampNeg) ((M 4 (((8 * (nI j)) + 3).toNatClampNeg)) ||| (1 <<< ((nI t) &&& 31)))) (((8 * (nI j)) + 4).toNatClampNeg) (sp_L_files_j466s0 M j sd t)) ((((8 * (nI j)) + 5) + (nI sd)).toNatClampNeg) (((upd (upd (M 4) (((8 * (nI j)) + 3).toNatClampNeg) ((M 4 (((8 * (nI j)) + 3).toNatClampNeg)) ||| (1 <<< ((nI t) &&& 31)))) (((8 * (nI j)) + 4).toNatClampNeg) (sp_L_files_j466s0 M j sd t)) ((((8 * (nI j)) + 5) + (nI sd)).toNatClampNeg)) + 1))) (cn + 1)) := by
  have hn := R.1
  have hd := R.2.1
  obtain ⟨w, hw, ew, hof, hwab⟩ := tell_w2 R hj hsd
  rw [ew]
  obtain ⟨a, b, mm, tt, h1, h2, h3, h4, h5, h6, h7, h8, h9, h10, h11, h12, h13, h14, h15, h16, h17, h18, h19, h20⟩ := R.rf hj
  have hcl' := fr_open hc
  have hcl := (j340_iff R hj).mp hcl'
  have hbits : mm.testBit t = true ∧ tt.testBit t = false := by
    unfold sp_L_files_j378s0 at hc
    rw [if_pos hcl', show (8 * nI j + 2 : Int32).toNatClampNeg = 8 * j + 2 from c8 (i := 2) (by omega) (by decide), show (8 * nI j + 3 : Int32).toNatClampNeg = 8 * j + 3 from c8 (i := 3) (by omega) (by decide), h8, h9, bit8 h6 (by omega), bit8 h7 (by omega)] at hc
    revert hc
    cases mm.testBit t <;> cases tt.testBit t <;> intro hc <;> first | exact ⟨rfl, rfl⟩ | exact absurd (by decide) hc
  have hun : ¬ S 9 j t = 0 := by
    rw [h10 t (by omega), hbits.1, hbits.2]; decide
  obtain ⟨fst', hfst'⟩ : ∃ X, (if S 13 j 0 = -1 then nI w else S 13 j 0) = X := ⟨_, rfl⟩
  have hsp : sp_X2_tell n d S (nI j) (nI w) (nI t) = (0, 1, setD S j (S 7 j 0) (S 8 j 0) (upd (S 9 j) t 0) (upd (S 10 j) w (S 10 j w + 1)) (S 11 j) (S 12 j 0) fst' (S 14 j 0)) := by
    have hh : sp_X0_hear (S 9 j) (S 10 j) (S 13 j 0) (nI w) (nI t) = (true, upd (S 9 j) t 0, upd (S 10 j) w (S 10 j w + 1), fst') := by
      unfold sp_X0_hear
      rw [nI_clamp (show t < 2 ^ 31 by omega), nI_clamp (show w < 2 ^ 31 by omega), if_neg hun, ← hfst']
      by_cases q : S 13 j 0 = -1
      · rw [if_pos q, if_pos q]
      · rw [if_neg q, if_neg q]
    unfold sp_X2_tell
    rw [if_pos (tIn_of hj R.d31), if_pos (tIn_of ht R.n31), nI_clamp (show j < 2 ^ 31 by omega), if_pos hof, if_pos (show sp_X0_isClosed (S 14 j 0) = 0 from hcl), hh]
    rfl
  have hj4 : sp_L_files_j466s0 M j sd t = fst' := by
    unfold sp_L_files_j466s0
    rw [show (8 * nI j + 3 : Int32).toNatClampNeg = 8 * j + 3 from c8 (i := 3) (by omega) (by decide), show (8 * nI j + 4 : Int32).toNatClampNeg = 8 * j + 4 from c8 (i := 4) (by omega) (by decide), upd_off (by omega), h12, ← hfst']
    have e9 : (8 * nI j + nI sd : Int32).toNatClampNeg = 8 * j + sd := c8 (by omega) (by omega)
    rw [e9] at ew ⊢
    rw [upd_off (by omega), ew]
    by_cases q : S 13 j 0 = -1
    · rw [if_pos q, q, if_neg (by decide)]
    · rw [if_neg q, if_pos]
      rcases h20 with z | z | z
      · exact absurd z q
      · rw [z]; exact nI_pos' (by omega)
      · rw [z]; exact nI_pos' (by omega)
  obtain ⟨tt2, t1, t2, t3⟩ : ∃ t2 : Nat, t2 < 256 ∧ (nI tt ||| (1 <<< (nI t &&& 31))) = nI t2 ∧ ∀ x, t2.testBit x = (tt.testBit x || decide (t = x)) := ⟨tt ||| 2 ^ t, (bit_or8 h7 (by omega)).1, (bit_or8 h7 (by omega)).2, tb_or tt t⟩
  rw [hsp, hj4, show (8 * nI j + 3 : Int32).toNatClampNeg = 8 * j + 3 from c8 (i := 3) (by omega) (by decide), show (8 * nI j + 4 : Int32).toNatClampNeg = 8 * j + 4 from c8 (i := 4) (by omega) (by decide), c85 (show j < 6 by omega) hsd, h9, t2, upd_off (show 8 * j + 5 + sd ≠ 8 * j + 4 by omega), upd_off (show 8 * j + 5 + sd ≠ 8 * j + 3 by omega)]
  obtain ⟨M', hM'⟩ : ∃ X, um M 4 (upd (upd (upd (M 4) (8 * j + 3) (nI tt2)) (8 * j + 4) fst') (8 * j + 5 + sd) (M 4 (8 * j + 5 + sd) + 1)) = X := ⟨_, rfl⟩
  obtain ⟨S', hS'⟩ : ∃ X, setD S j (S 7 j 0) (S 8 j 0) (upd (S 9 j) t 0) (upd (S 10 j) w (S 10 j w + 1)) (S 11 j) (S 12 j 0) fst' (S 14 j 0) = X := ⟨_, rfl⟩
  dsimp only
  rw [hM', hS']
  have u4 : M' 4 = upd (upd (upd (M 4) (8 * j + 3) (nI tt2)) (8 * j + 4) fst') (8 * j + 5 + sd) (M 4 (8 * j + 5 + sd) + 1) := by rw [← hM', um_at]
  have uo : ∀ x, x ≠ 4 → M' x = M x := fun x h => by rw [← hM', um_off h]
  have so : ∀ x y, x ≤ 6 ∨ 15 ≤ x ∨ y ≠ j → S' x y = S x y := fun x y h => by rw [← hS']; exact setD_off x y h
  have f4 : ∀ i, i ≠ 8 * j + 3 → i ≠ 8 * j + 4 → i ≠ 8 * j + 5 + sd → M' 4 i = M 4 i := fun i q1 q2 q3 => by rw [u4, upd_off q3, upd_off q2, upd_off q1]
  refine st_ret rfl (by first | rfl | (rw [if_pos rfl, if_neg (by decide)])) (R.file1 hj (fun x y h => so x y (by omega)) (by rw [uo 0 (by decide)]) (by rw [uo 0 (by decide)]) (by rw [uo 0 (by decide)]) (fun x hx => by rw [uo 0 (by decide), so 15 0 (by omega)]; exact R.2.2.2.2.2.1 x hx) (uo 1 (by decide)) (uo 2 (by decide)) (uo 3 (by decide)) (fun k i h8 h9 => f4 _ (by omega) (by omega) (by omega)) (fun k i h8 h9 => by rw [uo 5 (by decide)]) (f4 _ (by omega) (by omega) (by omega)) (f4 _ (by omega) (by omega) (by omega)) ?_)
  have s7 : S' 7 j 0 = S 7 j 0 := by rw [← hS']; simp [setD]
  have s8 : S' 8 j 0 = S 8 j 0 := by rw [← hS']; simp [setD]
  have s9 : S' 9 j = upd (S 9 j) t 0 := by rw [← hS']; simp [setD]
  have s10 : S' 10 j = upd (S 10 j) w (S 10 j w + 1) := by rw [← hS']; simp [setD]
  have s11 : S' 11 j = S 11 j := by rw [← hS']; simp [setD]
  have s12 : S' 12 j 0 = S 12 j 0 := by rw [← hS']; simp [setD]
  have s13 : S' 13 j 0 = fst' := by rw [← hS']; simp [setD]
  have s14 : S' 14 j 0 = S 14 j 0 := by rw [← hS']; simp [setD]
  have hf' : fst' = nI a ∨ fst' = nI b := by
    rw [← hfst']
    by_cases q : S 13 j 0 = -1
    · rw [if_pos q]
      rcases hwab a b h4 h5 with ⟨-, z⟩ | ⟨-, z⟩ <;> rw [z]
      · exact Or.inl rfl
      · exact Or.inr rfl
    · rw [if_neg q]; exact h20.resolve_left q
  refine ⟨a, b, mm, tt2, h1, h2, by rw [s7, s8]; exact h3, ?_, ?_, h6, t1, ?_, ?_, fun x hx => ?_, by rw [s12]; exact h11, ?_, ?_, ?_, ?_, by rw [s14]; exact h16, by rw [uo 5 (by decide), s11]; exact h17, by rw [uo 5 (by decide), s11]; exact h18, fun x hx => ?_, Or.inr (by rw [s13]; exact hf')⟩
  · rw [f4 _ (by omega) (by omega) (by omega)]; exact h4
  · rw [f4 _ (by omega) (by omega) (by omega)]; exact h5
  · rw [f4 _ (by omega) (by omega) (by omega)]; exact h8
  · rw [u4, upd_off (by omega), upd_off (by omega), upd_at]
  · rw [s9, t3 x]
    by_cases q : x = t
    · subst q; rw [upd_at]; simp
    · rw [upd_off q, h10 x hx]
      have q' : ¬ t = x := fun z => q z.symm
      simp [q']
  · rw [u4, upd_off (by omega), upd_at, s13]
  · rw [s10]
    rcases hwab a b h4 h5 with ⟨z1, z2⟩ | ⟨z1, z2⟩
    · subst z1; have z2 := (nI_inj' (by omega) (by omega)).mp z2; subst z2
      rw [u4, show 8 * j + 5 = 8 * j + 5 + 0 from rfl, upd_at, upd_at, show 8 * j + 5 + 0 = 8 * j + 5 from rfl, h13]
    · subst z1; have z2 := (nI_inj' (by omega) (by omega)).mp z2; subst z2
      rw [f4 _ (by omega) (by omega) (by omega), upd_off (by omega)]; exact h13
  · rw [s10]
    rcases hwab a b h4 h5 with ⟨z1, z2⟩ | ⟨z1, z2⟩
    · subst z1; have z2 := (nI_inj' (by omega) (by omega)).mp z2; subst z2
      rw [f4 _ (by omega) (by omega) (by omega), upd_off (by omega)]; exact h14
    · subst z1; have z2 := (nI_inj' (by omega) (by omega)).mp z2; subst z2
      rw [u4, show 8 * j + 6 = 8 * j + 5 + 1 from rfl, upd_at, upd_at, show 8 * j + 5 + 1 = 8 * j + 6 from rfl, h14]
  · rw [f4 _ (by omega) (by omega) (by omega), s14]; exact h15
  · rw [s10, s13]
    obtain ⟨v, v1, v2, v3⟩ := h19 x hx
    by_cases q : x = w
    · subst q
      exact ⟨v + 1, by omega, by rw [upd_at, v2, nI_1], fun _ => by omega⟩
    · refine ⟨v, by omega, by rw [upd_off q]; exact v2, fun z => v3 ?_⟩
      rw [← hfst'] at z
      by_cases q2 : S 13 j 0 = -1
      · rw [if_pos q2] at z
        exact absurd ((nI_inj' (by omega) (by omega)).mp z).symm q
      · rw [if_neg q2] at z; exact z

