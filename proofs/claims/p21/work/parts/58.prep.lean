/-! what the law reads out of the script; that no call of the law is out of its range -/
theorem tn_N {n : Nat} (h0 : ¬ n = 0) (hn : n ≤ 8) (x : Int32) : ∃ N, 0 < N ∧ N ≤ n ∧ (if x ≤ 0 then nI n else (if nI n ≤ 2 then nI n else 3)) = nI N := by
  by_cases h : x ≤ 0
  · exact ⟨n, by omega, Nat.le_refl _, if_pos h⟩
  · rw [if_neg h]
    by_cases h2 : nI n ≤ 2
    · exact ⟨n, by omega, Nat.le_refl _, if_pos h2⟩
    · refine ⟨3, by decide, ?_, if_neg h2⟩
      rcases Nat.lt_or_ge n 3 with h3 | h3
      · exact absurd (nI_le (show n ≤ 2 by omega) (by decide)) h2
      · exact h3
theorem nI_subI {a b : Nat} (h : b ≤ a) : nI a - nI b = nI (a - b) := by
  have e : nI a = nI (a - b) + nI b := by rw [nI_add]; congr 1; omega
  rw [e, Int32.add_sub_cancel]
theorem tn_k {n N r : Nat} (hN : N ≤ n) (hr : r < N) (x : Int32) : ∃ k, k < n ∧ (if x ≤ 0 then nI r else ((nI n - 1) - nI r)) = nI k := by
  by_cases h : x ≤ 0
  · exact ⟨r, by omega, if_pos h⟩
  · rw [if_neg h]
    refine ⟨n - 1 - r, by omega, ?_⟩
    rw [show (1 : Int32) = nI 1 from rfl, nI_subI (by omega), nI_subI (by omega)]
theorem tn_sv (x y z : Int32) : 1 ≤ (if x = 0 then 1 + sp_L_low y 100000 else 1000 + sp_L_low z 80).toInt ∧ (if x = 0 then 1 + sp_L_low y 100000 else 1000 + sp_L_low z 80).toInt ≤ 100000 := by
  obtain ⟨a, ha, ea⟩ := low_ex y 100000 (by decide) (by decide)
  obtain ⟨b, hb, eb⟩ := low_ex z 80 (by decide) (by decide)
  have ea : sp_L_low y 100000 = nI a := ea
  have eb : sp_L_low z 80 = nI b := eb
  rw [ea, eb, show (1 : Int32) = nI 1 from rfl, show (1000 : Int32) = nI 1000 from rfl, nI_add, nI_add]
  by_cases h : x = 0
  · rw [if_pos h, nI_toInt (by omega)]; omega
  · rw [if_neg h, nI_toInt (by omega)]; omega
section IO
variable {n d : Nat} {S : Nat → Nat → Nat → Int32} {p0 p1 p2 : Int32}
theorem io_bid (ht : tIn n p0 = true) : ¬ (sp_X2_bid n S p0 p1 p2).1 = 1 := by
  unfold sp_X2_bid
  rw [if_pos ht]
  repeat' split
  all_goals first | exact (by decide : ¬ (0 : Int32) = 1) | exact (by decide : ¬ (2 : Int32) = 1) | exact (by decide : ¬ (3 : Int32) = 1)
theorem io_withdraw (ht : tIn n p0 = true) : ¬ (sp_X2_withdraw n S p0 p1).1 = 1 := by
  unfold sp_X2_withdraw
  rw [if_pos ht]
  repeat' split
  all_goals first | exact (by decide : ¬ (0 : Int32) = 1) | exact (by decide : ¬ (2 : Int32) = 1) | exact (by decide : ¬ (3 : Int32) = 1)
theorem io_award (ht : tIn n p0 = true) : ¬ (sp_X2_award n S p0).1 = 1 := by
  unfold sp_X2_award
  rw [if_pos ht]
  repeat' split
  all_goals first | exact (by decide : ¬ (0 : Int32) = 1) | exact (by decide : ¬ (2 : Int32) = 1) | exact (by decide : ¬ (3 : Int32) = 1)
theorem io_passOn (ht : tIn n p0 = true) : ¬ (sp_X2_passOn n S p0 p1 p2).1 = 1 := by
  unfold sp_X2_passOn
  rw [if_pos ht]
  repeat' split
  all_goals first | exact (by decide : ¬ (0 : Int32) = 1) | exact (by decide : ¬ (2 : Int32) = 1) | exact (by decide : ¬ (3 : Int32) = 1)
theorem io_close (ht : tIn d p0 = true) : ¬ (sp_X2_close n d S p0).1 = 1 := by
  unfold sp_X2_close
  rw [if_pos ht]
  repeat' split
  all_goals first | exact (by decide : ¬ (0 : Int32) = 1) | exact (by decide : ¬ (2 : Int32) = 1) | exact (by decide : ¬ (3 : Int32) = 1)
theorem io_tell (ht : tIn d p0 = true) (ht2 : tIn n p2 = true) : ¬ (sp_X2_tell n d S p0 p1 p2).1 = 1 := by
  unfold sp_X2_tell
  rw [if_pos ht, if_pos ht2]
  repeat' split
  all_goals first | exact (by decide : ¬ (0 : Int32) = 1) | exact (by decide : ¬ (2 : Int32) = 1) | exact (by decide : ¬ (3 : Int32) = 1)
end IO
theorem gb_t {ad : Nat → Nat → Nat} {oa : Nat → Nat} {sz n d c1 : Nat} {D : va_G} {K : Nat → ClassId} {S S2 : Nat → Nat → Nat → Int32} {M : Nat → Nat → Int32} {CD : Int32} {X : Prop} {H1 : Heap} (hDJ : DJ ad n d) (h : X ∧ (CD = 0 → Rel n d S2 M c1) ∧ (¬ CD = 0 → Rel n d S M c1))
    (hB : CB CD (fun H => XP D K ad n d S H) (fun H => XP D K ad n d S2 H) H1) (hPa : va_P D vwCl (aW K oa M) H1) : GB ad oa sz D K c1 H1 := by
  rcases hB with ⟨h0, hX⟩ | ⟨h0, hX⟩
  · exact ⟨ad, n, d, S2, M, h.2.1 h0, hDJ, fun _ _ => Or.inl rfl, hX, hPa⟩
  · exact ⟨ad, n, d, S, M, h.2.2 h0, hDJ, fun _ _ => Or.inl rfl, hX, hPa⟩
theorem gb_f {ad : Nat → Nat → Nat} {oa : Nat → Nat} {sz n d c1 : Nat} {D : va_G} {K : Nat → ClassId} {S S2 : Nat → Nat → Nat → Int32} {M : Nat → Nat → Int32} {CD : Int32} {X : Prop} {H0 H1 : Heap} (hs : sz ≤ H0.size) (hDJ : DJ ad n d) (h : X ∧ (CD = 0 → Rel n (d + 1) S2 M c1) ∧ (¬ CD = 0 → Rel n d S M c1))
    (hB : CB CD (fun H => XP D K ad n d S H) (fun H => ∃ ad2, XP D K ad2 n (d + 1) S2 H ∧ DJ ad2 n (d + 1) ∧ ∀ k i, ad2 k i = ad k i ∨ 4 ≤ k ∧ H0.size ≤ ad2 k i) H1) (hPa : va_P D vwCl (aW K oa M) H1) : GB ad oa sz D K c1 H1 := by
  rcases hB with ⟨h0, ad2, hX, hD2, h9⟩ | ⟨h0, hX⟩
  · exact ⟨ad2, n, d + 1, S2, M, h.2.1 h0, hD2, fun k i => (h9 k i).imp id (fun q => ⟨q.1, Nat.le_trans hs q.2⟩), hX, hPa⟩
  · exact ⟨ad, n, d, S, M, h.2.2 h0, hDJ, fun _ _ => Or.inl rfl, hX, hPa⟩
section RELH
variable {n d c : Nat} {S : Nat → Nat → Nat → Int32} {M : Nat → Nat → Int32}
theorem Rel.hz (R : Rel n d S M c) : ∀ j, j < d → narrow .boolean (.int (S 14 j 0)) = .int (S 14 j 0) := fun j hj => by
  obtain ⟨a, b, mm, tt, -, -, -, -, -, -, -, -, -, -, -, -, -, -, -, h, -⟩ := R.rf hj
  rcases h with h | h <;> rw [h] <;> rfl
theorem Rel.hO (R : Rel n d S M c) : ∀ j, j < d → sp_X2_isBidder (S 7 j 0) = true ∧ sp_X2_isBidder (S 8 j 0) = true := fun j hj => by
  obtain ⟨a, b, mm, tt, ha, hb, h, -⟩ := R.rf hj
  rcases h with ⟨e1, e2⟩ | ⟨e1, e2⟩ <;> rw [e1, e2]
  · exact ⟨isB_nI (by omega), isB_nI (by omega)⟩
  · exact ⟨isB_nI (by omega), isB_nI (by omega)⟩
end RELH
