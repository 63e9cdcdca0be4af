/-! a new tender, a new file: the address table grows -/
theorem va_D_new {ws w2 wn : va_W} {sz : Nat} (hD : va_D (va_A ws sz) (w2 ++ wn)) (he : w2.map Prod.fst = ws.map Prod.fst) {i : Nat} {p : Nat × va_E} (hi : wn[i]? = some p) : sz ≤ p.1 := by
  have hi2 : (w2 ++ wn)[w2.length + i]? = some p := by rw [List.getElem?_append_right (by omega)]; simpa using hi
  rcases hD.2 _ _ hi2 with ⟨k, e, hk⟩ | h
  · exfalso
    have h1 : (ws.map Prod.fst)[k]? = some p.1 := by rw [List.getElem?_map, hk]; rfl
    rw [← he, List.getElem?_map] at h1
    cases hx : w2[k]? with
    | none => rw [hx] at h1; cases h1
    | some x =>
      rw [hx] at h1
      have hl := (List.getElem?_eq_some_iff.mp hx).1
      have h2 : (w2 ++ wn)[k]? = some x := by rw [List.getElem?_append_left hl]; exact hx
      have := hD.1 _ _ _ _ h2 hi2 (Option.some.inj h1)
      omega
  · exact h
/-- all that is in use lies in the heap -/
theorem XP_lt {D : va_G} {K : Nat → ClassId} {ad : Nat → Nat → Nat} {n d : Nat} {S : Nat → Nat → Nat → Int32} {H : Heap} (h : XP D K ad n d S H) : ∀ k i, XL n d k i → ad k i < H.size := by
  intro k i hl
  rcases hl with ⟨h1, rfl⟩ | ⟨h1, h2, h3⟩ | ⟨h1, h2, h3⟩
  · rcases (show k = 0 ∨ k = 1 ∨ k = 2 ∨ k = 3 by omega) with rfl | rfl | rfl | rfl
    · exact (h.2.2.1 0 _ rfl).lt
    · exact (h.2.2.1 1 _ rfl).lt
    · exact (h.2.2.1 2 _ rfl).lt
    · exact (h.2.2.1 3 _ rfl).lt
  · rcases (show k = 4 ∨ k = 5 ∨ k = 6 by omega) with rfl | rfl | rfl
    · exact (h.2.2.2.1 i h3 0 _ rfl).lt
    · exact (h.2.2.2.1 i h3 1 _ rfl).lt
    · exact (h.2.2.2.1 i h3 2 _ rfl).lt
  · rcases (show k = 7 ∨ k = 8 ∨ k = 9 ∨ k = 10 by omega) with rfl | rfl | rfl | rfl
    · exact (h.2.2.2.2 i h3 0 _ rfl).lt
    · exact (h.2.2.2.2 i h3 1 _ rfl).lt
    · exact (h.2.2.2.2 i h3 2 _ rfl).lt
    · exact (h.2.2.2.2 i h3 3 _ rfl).lt
def adT (ad : Nat → Nat → Nat) (n q sa wa : Nat) : Nat → Nat → Nat := fun k i => if k = 4 ∧ i = n then q else if k = 5 ∧ i = n then sa else if k = 6 ∧ i = n then wa else ad k i
def adD (ad : Nat → Nat → Nat) (d q ua na fa : Nat) : Nat → Nat → Nat := fun k i => if k = 7 ∧ i = d then q else if k = 8 ∧ i = d then ua else if k = 9 ∧ i = d then na else if k = 10 ∧ i = d then fa else ad k i
theorem XP_pushT {D : va_G} {K : Nat → ClassId} {ad : Nat → Nat → Nat} {n d : Nat} {S : Nat → Nat → Nat → Int32} {H0 H : Heap} {q sa wa : Nat} (hn : n < 30) (hDJ : DJ ad n d) (h : XP D K ad n d S H0)
    (hfr : ∀ a, a < H0.size → ¬ va_A (xW K ad n d S) H0.size a → H[a]? = H0[a]?)
    (hP : va_P D vwCl ([(ad 0 0, .inr (2, [.ref (ad 1 0), .int ((nI n) + 1), .ref (ad 2 0), .int (nI d), .ref (ad 3 0), .int (S 16 0 0)])), (ad 1 0, .inl (K 3, 30, .inr (.inr (.inr (.inr (va_up (tArr ad n) (nI n).toNatClampNeg (some q))))))), (ad 2 0, .inl (K 2, 20, .inr (.inr (.inr (.inr (dArr ad d)))))), (ad 3 0, .inl (K 0, 7, .inl (S 15 0)))] ++ tW K q sa wa (fun _ => 0) (fun _ => 0) 0 (-1) (-1) 0) H)
    (hD : va_D (va_A (xW K ad n d S) H0.size) ([(ad 0 0, .inr (2, [.ref (ad 1 0), .int ((nI n) + 1), .ref (ad 2 0), .int (nI d), .ref (ad 3 0), .int (S 16 0 0)])), (ad 1 0, .inl (K 3, 30, .inr (.inr (.inr (.inr (va_up (tArr ad n) (nI n).toNatClampNeg (some q))))))), (ad 2 0, .inl (K 2, 20, .inr (.inr (.inr (.inr (dArr ad d)))))), (ad 3 0, .inl (K 0, 7, .inl (S 15 0)))] ++ tW K q sa wa (fun _ => 0) (fun _ => 0) 0 (-1) (-1) 0)) :
    XP D K (adT ad n q sa wa) (n + 1) d (setT S n (fun _ => 0) (fun _ => 0) 0 (-1) (-1) 0) H ∧ DJ (adT ad n q sa wa) (n + 1) d ∧ ∀ k i, adT ad n q sa wa k i = ad k i ∨ 4 ≤ k ∧ H0.size ≤ adT ad n q sa wa k i := by
  have n0 : H0.size ≤ q := va_D_new hD rfl (i := 0) rfl
  have n1 : H0.size ≤ sa := va_D_new hD rfl (i := 1) rfl
  have n2 : H0.size ≤ wa := va_D_new hD rfl (i := 2) rfl
  have d01 : q ≠ sa := fun e => by have := hD.1 4 5 _ _ rfl rfl e; omega
  have d02 : q ≠ wa := fun e => by have := hD.1 4 6 _ _ rfl rfl e; omega
  have d12 : sa ≠ wa := fun e => by have := hD.1 5 6 _ _ rfl rfl e; omega
  have hlt := XP_lt h
  refine ⟨⟨by omega, h.2.1, ?_, fun k hk => ?_, fun k hk => ?_⟩, ?_, ?_⟩
  · have e1 : tArr (adT ad n q sa wa) (n + 1) = va_up (tArr ad n) (nI n).toNatClampNeg (some q) := by
      funext j
      rw [nI_clamp (by omega)]
      unfold tArr va_up adT
      by_cases hj : j = n
      · subst hj; simp
      · have : (j < n + 1) = (j < n) := by simp; omega
        simp [hj, this]
    have e2 : dArr (adT ad n q sa wa) d = dArr ad d := by funext j; simp [dArr, adT]
    have e3 : xW K (adT ad n q sa wa) (n + 1) d (setT S n (fun _ => 0) (fun _ => 0) 0 (-1) (-1) 0) = [(ad 0 0, .inr (2, [.ref (ad 1 0), .int ((nI n) + 1), .ref (ad 2 0), .int (nI d), .ref (ad 3 0), .int (S 16 0 0)])), (ad 1 0, .inl (K 3, 30, .inr (.inr (.inr (.inr (va_up (tArr ad n) (nI n).toNatClampNeg (some q))))))), (ad 2 0, .inl (K 2, 20, .inr (.inr (.inr (.inr (dArr ad d)))))), (ad 3 0, .inl (K 0, 7, .inl (S 15 0)))] := by
      simp only [xW, e1, e2, nI_1]
      simp [adT, setT]
    rw [e3]
    exact hP.sub [0, 1, 2, 3] rfl
  · by_cases e : k = n
    · subst e
      have e4 : xT K (adT ad k q sa wa) (setT S k (fun _ => 0) (fun _ => 0) 0 (-1) (-1) 0) k = tW K q sa wa (fun _ => 0) (fun _ => 0) 0 (-1) (-1) 0 := by simp [xT, setT, adT]
      rw [e4]
      exact hP.sub [4, 5, 6] rfl
    · have e4 : xT K (adT ad n q sa wa) (setT S n (fun _ => 0) (fun _ => 0) 0 (-1) (-1) 0) k = xT K ad S k := by simp [xT, setT, adT, e]
      rw [e4]
      exact X_kept hDJ (ids := xTi k) (idc := xWi) rfl rfl (xTl (by omega)) xWl (xne (by simp)) (h.2.2.2.1 k (by omega)) hfr
  · have e4 : xD K (adT ad n q sa wa) (setT S n (fun _ => 0) (fun _ => 0) 0 (-1) (-1) 0) k = xD K ad S k := by simp [xD, setT, adT]
    rw [e4]
    exact X_kept hDJ (ids := xDi k) (idc := xWi) rfl rfl (xDl hk) xWl (xne (by simp)) (h.2.2.2.2 k hk) hfr
  · have key : ∀ k i, XL (n + 1) d k i → (XL n d k i ∧ adT ad n q sa wa k i = ad k i ∧ ad k i < H0.size) ∨ (i = n ∧ ((k = 4 ∧ adT ad n q sa wa k i = q) ∨ (k = 5 ∧ adT ad n q sa wa k i = sa) ∨ (k = 6 ∧ adT ad n q sa wa k i = wa))) := by
      intro k i hl
      by_cases hk : (k = 4 ∨ k = 5 ∨ k = 6) ∧ i = n
      · obtain ⟨hk1, rfl⟩ := hk
        rcases hk1 with rfl | rfl | rfl <;> simp [adT]
      · have hl2 : XL n d k i := by
          unfold XL at hl ⊢
          omega
        refine Or.inl ⟨hl2, ?_, hlt k i hl2⟩
        unfold adT
        rw [if_neg (by omega), if_neg (by omega), if_neg (by omega)]
    intro k i k2 i2 h1 h2 e
    rcases key k i h1 with ⟨a1, a2, a3⟩ | ⟨a0, a1⟩ <;> rcases key k2 i2 h2 with ⟨b1, b2, b3⟩ | ⟨b0, b1⟩
    · exact hDJ _ _ _ _ a1 b1 (by rw [← a2, ← b2]; exact e)
    · rcases b1 with ⟨-, b1⟩ | ⟨-, b1⟩ | ⟨-, b1⟩ <;> omega
    · rcases a1 with ⟨-, a1⟩ | ⟨-, a1⟩ | ⟨-, a1⟩ <;> omega
    · rcases a1 with ⟨c1, a1⟩ | ⟨c1, a1⟩ | ⟨c1, a1⟩ <;> rcases b1 with ⟨c2, b1⟩ | ⟨c2, b1⟩ | ⟨c2, b1⟩ <;> omega
  · intro k i
    unfold adT
    repeat' split
    all_goals omega
theorem XP_pushD {D : va_G} {K : Nat → ClassId} {ad : Nat → Nat → Nat} {n d : Nat} {S : Nat → Nat → Nat → Int32} {H0 H : Heap} {q ua na fa : Nat} {one oth mc : Int32} {un : Nat → Int32} (hd : d < 20) (hDJ : DJ ad n d) (h : XP D K ad n d S H0)
    (hfr : ∀ a, a < H0.size → ¬ va_A (xW K ad n d S) H0.size a → H[a]? = H0[a]?)
    (hP : va_P D vwCl ([(ad 0 0, .inr (2, [.ref (ad 1 0), .int (nI n), .ref (ad 2 0), .int ((nI d) + 1), .ref (ad 3 0), .int (S 16 0 0)])), (ad 1 0, .inl (K 3, 30, .inr (.inr (.inr (.inr (tArr ad n)))))), (ad 2 0, .inl (K 2, 20, .inr (.inr (.inr (.inr (va_up (dArr ad d) (nI d).toNatClampNeg (some q))))))), (ad 3 0, .inl (K 0, 7, .inl (S 15 0)))] ++ dW K q ua na fa one oth un (fun _ => 0) (fun _ => 0) mc (-1) 0) H)
    (hD : va_D (va_A (xW K ad n d S) H0.size) ([(ad 0 0, .inr (2, [.ref (ad 1 0), .int (nI n), .ref (ad 2 0), .int ((nI d) + 1), .ref (ad 3 0), .int (S 16 0 0)])), (ad 1 0, .inl (K 3, 30, .inr (.inr (.inr (.inr (tArr ad n)))))), (ad 2 0, .inl (K 2, 20, .inr (.inr (.inr (.inr (va_up (dArr ad d) (nI d).toNatClampNeg (some q))))))), (ad 3 0, .inl (K 0, 7, .inl (S 15 0)))] ++ dW K q ua na fa one oth un (fun _ => 0) (fun _ => 0) mc (-1) 0)) :
    XP D K (adD ad d q ua na fa) n (d + 1) (setD S d one oth un (fun _ => 0) (fun _ => 0) mc (-1) 0) H ∧ DJ (adD ad d q ua na fa) n (d + 1) ∧ ∀ k i, adD ad d q ua na fa k i = ad k i ∨ 4 ≤ k ∧ H0.size ≤ adD ad d q ua na fa k i := by
  have n0 : H0.size ≤ q := va_D_new hD rfl (i := 0) rfl
  have n1 : H0.size ≤ ua := va_D_new hD rfl (i := 1) rfl
  have n2 : H0.size ≤ na := va_D_new hD rfl (i := 2) rfl
  have n3 : H0.size ≤ fa := va_D_new hD rfl (i := 3) rfl
  have d01 : q ≠ ua := fun e => by have := hD.1 4 5 _ _ rfl rfl e; omega
  have d02 : q ≠ na := fun e => by have := hD.1 4 6 _ _ rfl rfl e; omega
  have d03 : q ≠ fa := fun e => by have := hD.1 4 7 _ _ rfl rfl e; omega
  have d12 : ua ≠ na := fun e => by have := hD.1 5 6 _ _ rfl rfl e; omega
  have d13 : ua ≠ fa := fun e => by have := hD.1 5 7 _ _ rfl rfl e; omega
  have d23 : na ≠ fa := fun e => by have := hD.1 6 7 _ _ rfl rfl e; omega
  have hlt := XP_lt h
  refine ⟨⟨h.1, by omega, ?_, fun k hk => ?_, fun k hk => ?_⟩, ?_, ?_⟩
  · have e1 : dArr (adD ad d q ua na fa) (d + 1) = va_up (dArr ad d) (nI d).toNatClampNeg (some q) := by
      funext j
      rw [nI_clamp (by omega)]
      unfold dArr va_up adD
      by_cases hj : j = d
      · subst hj; simp
      · have : (j < d + 1) = (j < d) := by simp; omega
        simp [hj, this]
    have e2 : tArr (adD ad d q ua na fa) n = tArr ad n := by funext j; simp [tArr, adD]
    have e3 : xW K (adD ad d q ua na fa) n (d + 1) (setD S d one oth un (fun _ => 0) (fun _ => 0) mc (-1) 0) = [(ad 0 0, .inr (2, [.ref (ad 1 0), .int (nI n), .ref (ad 2 0), .int ((nI d) + 1), .ref (ad 3 0), .int (S 16 0 0)])), (ad 1 0, .inl (K 3, 30, .inr (.inr (.inr (.inr (tArr ad n)))))), (ad 2 0, .inl (K 2, 20, .inr (.inr (.inr (.inr (va_up (dArr ad d) (nI d).toNatClampNeg (some q))))))), (ad 3 0, .inl (K 0, 7, .inl (S 15 0)))] := by
      simp only [xW, e1, e2, nI_1]
      simp [adD, setD]
    rw [e3]
    exact hP.sub [0, 1, 2, 3] rfl
  · have e4 : xT K (adD ad d q ua na fa) (setD S d one oth un (fun _ => 0) (fun _ => 0) mc (-1) 0) k = xT K ad S k := by simp [xT, setD, adD]
    rw [e4]
    exact X_kept hDJ (ids := xTi k) (idc := xWi) rfl rfl (xTl hk) xWl (xne (by simp)) (h.2.2.2.1 k hk) hfr
  · by_cases e : k = d
    · subst e
      have e4 : xD K (adD ad k q ua na fa) (setD S k one oth un (fun _ => 0) (fun _ => 0) mc (-1) 0) k = dW K q ua na fa one oth un (fun _ => 0) (fun _ => 0) mc (-1) 0 := by simp [xD, setD, adD]
      rw [e4]
      exact hP.sub [4, 5, 6, 7] rfl
    · have e4 : xD K (adD ad d q ua na fa) (setD S d one oth un (fun _ => 0) (fun _ => 0) mc (-1) 0) k = xD K ad S k := by simp [xD, setD, adD, e]
      rw [e4]
      exact X_kept hDJ (ids := xDi k) (idc := xWi) rfl rfl (xDl (by omega)) xWl (xne (by simp)) (h.2.2.2.2 k (by omega)) hfr
  · have key : ∀ k i, XL n (d + 1) k i → (XL n d k i ∧ adD ad d q ua na fa k i = ad k i ∧ ad k i < H0.size) ∨ (i = d ∧ ((k = 7 ∧ adD ad d q ua na fa k i = q) ∨ (k = 8 ∧ adD ad d q ua na fa k i = ua) ∨ (k = 9 ∧ adD ad d q ua na fa k i = na) ∨ (k = 10 ∧ adD ad d q ua na fa k i = fa))) := by
      intro k i hl
      by_cases hk : (k = 7 ∨ k = 8 ∨ k = 9 ∨ k = 10) ∧ i = d
      · obtain ⟨hk1, rfl⟩ := hk
        rcases hk1 with rfl | rfl | rfl | rfl <;> simp [adD]
      · have hl2 : XL n d k i := by
          unfold XL at hl ⊢
          omega
        refine Or.inl ⟨hl2, ?_, hlt k i hl2⟩
        unfold adD
        rw [if_neg (by omega), if_neg (by omega), if_neg (by omega), if_neg (by omega)]
    intro k i k2 i2 h1 h2 e
    rcases key k i h1 with ⟨a1, a2, a3⟩ | ⟨a0, a1⟩ <;> rcases key k2 i2 h2 with ⟨b1, b2, b3⟩ | ⟨b0, b1⟩
    · exact hDJ _ _ _ _ a1 b1 (by rw [← a2, ← b2]; exact e)
    · rcases b1 with ⟨-, b1⟩ | ⟨-, b1⟩ | ⟨-, b1⟩ | ⟨-, b1⟩ <;> omega
    · rcases a1 with ⟨-, a1⟩ | ⟨-, a1⟩ | ⟨-, a1⟩ | ⟨-, a1⟩ <;> omega
    · rcases a1 with ⟨c1, a1⟩ | ⟨c1, a1⟩ | ⟨c1, a1⟩ | ⟨c1, a1⟩ <;> rcases b1 with ⟨c2, b1⟩ | ⟨c2, b1⟩ | ⟨c2, b1⟩ | ⟨c2, b1⟩ <;> omega
  · intro k i
    unfold adD
    repeat' split
    all_goals omega
