/-! the watch's state behind a write: one tender, one file, or its own four cells -/
def us (S : Nat → Nat → Nat → Int32) (a b : Nat) (f : Nat → Int32) : Nat → Nat → Nat → Int32 := fun x y => if x = a ∧ y = b then f else S x y
def setT (S : Nat → Nat → Nat → Int32) (k : Nat) (su go : Nat → Int32) (dec win par prt : Int32) : Nat → Nat → Nat → Int32 := fun a b => if b = k then (if a = 1 then su else if a = 2 then go else if a = 3 then (fun _ => dec) else if a = 4 then (fun _ => win) else if a = 5 then (fun _ => par) else if a = 6 then (fun _ => prt) else S a b) else S a b
def setD (S : Nat → Nat → Nat → Int32) (k : Nat) (one oth : Int32) (un nw fi : Nat → Int32) (mc fst cl : Int32) : Nat → Nat → Nat → Int32 := fun a b => if b = k then (if a = 7 then (fun _ => one) else if a = 8 then (fun _ => oth) else if a = 9 then un else if a = 10 then nw else if a = 11 then fi else if a = 12 then (fun _ => mc) else if a = 13 then (fun _ => fst) else if a = 14 then (fun _ => cl) else S a b) else S a b
abbrev adf (ad : Nat → Nat → Nat) : Nat × Nat → Nat := fun x => ad x.1 x.2
abbrev xWi : List (Nat × Nat) := [(0, 0), (1, 0), (2, 0), (3, 0)]
abbrev xTi (k : Nat) : List (Nat × Nat) := [(4, k), (5, k), (6, k)]
abbrev xDi (k : Nat) : List (Nat × Nat) := [(7, k), (8, k), (9, k), (10, k)]
theorem xWl {n d : Nat} : ∀ x ∈ xWi, XL n d x.1 x.2 := by
  intro x hx
  simp only [List.mem_cons, List.not_mem_nil, or_false] at hx
  rcases hx with rfl | rfl | rfl | rfl <;> (unfold XL; omega)
theorem xTl {n d k : Nat} (hk : k < n) : ∀ x ∈ xTi k, XL n d x.1 x.2 := by
  intro x hx
  simp only [List.mem_cons, List.not_mem_nil, or_false] at hx
  rcases hx with rfl | rfl | rfl <;> (unfold XL; omega)
theorem xDl {n d k : Nat} (hk : k < d) : ∀ x ∈ xDi k, XL n d x.1 x.2 := by
  intro x hx
  simp only [List.mem_cons, List.not_mem_nil, or_false] at hx
  rcases hx with rfl | rfl | rfl | rfl <;> (unfold XL; omega)
theorem xne {l1 l2 : List (Nat × Nat)} (h : ∀ x ∈ l1, ∀ y ∈ l2, x.1 ≠ y.1 ∨ x.2 ≠ y.2) : ∀ x ∈ l1, ∀ y ∈ l2, x ≠ y := fun x hx y hy e => by
  subst e
  exact (h x hx x hy).elim (fun q => q rfl) (fun q => q rfl)
theorem xids {ws : va_W} {ids : List (Nat × Nat)} {ad : Nat → Nat → Nat} (hws : ws.map Prod.fst = ids.map (adf ad)) {i : Nat} {p : Nat × va_E} (hi : ws[i]? = some p) : ∃ x, ids[i]? = some x ∧ p.1 = adf ad x := by
  have h1 : (ws.map Prod.fst)[i]? = some p.1 := by rw [List.getElem?_map, hi]; rfl
  rw [hws, List.getElem?_map] at h1
  cases hx : ids[i]? with
  | none => rw [hx] at h1; cases h1
  | some x => rw [hx] at h1; exact ⟨x, rfl, (Option.some.inj h1).symm⟩
theorem X_kept {D : va_G} {ad : Nat → Nat → Nat} {n d : Nat} {ws wc : va_W} {ids idc : List (Nat × Nat)} {H H1 : Heap} (hDJ : DJ ad n d) (hws : ws.map Prod.fst = ids.map (adf ad)) (hwc : wc.map Prod.fst = idc.map (adf ad)) (l1 : ∀ x ∈ ids, XL n d x.1 x.2) (l2 : ∀ x ∈ idc, XL n d x.1 x.2) (hne : ∀ x ∈ ids, ∀ y ∈ idc, x ≠ y)
    (hP : va_P D vwCl ws H) (hk : ∀ q : Nat, q < H.size → ¬ va_A wc H.size q → H1[q]? = H[q]?) : va_P D vwCl ws H1 := by
  refine hP.kept (fun i p hi => hk p.1 (hP i p hi).lt (fun h => ?_))
  rcases h with ⟨j, e, hj⟩ | h
  · obtain ⟨x, hx, ex⟩ := xids hws hi
    obtain ⟨y, hy, ey⟩ := xids hwc hj
    have hx2 := List.mem_of_getElem? hx
    have hy2 := List.mem_of_getElem? hy
    obtain ⟨e1, e2⟩ := hDJ _ _ _ _ (l1 x hx2) (l2 y hy2) (ex.symm.trans ey)
    exact hne x hx2 y hy2 (Prod.ext e1 e2)
  · exact absurd (hP i p hi).lt (by omega)
theorem X_apart {ad : Nat → Nat → Nat} {n d : Nat} {ws : va_W} {ids : List (Nat × Nat)} (hDJ : DJ ad n d) (hws : ws.map Prod.fst = ids.map (adf ad)) (l1 : ∀ x ∈ ids, XL n d x.1 x.2) (hn : ∀ (i j : Nat) (x : Nat × Nat), ids[i]? = some x → ids[j]? = some x → i = j) : va_D (fun _ => True) ws := by
  refine ⟨fun i j p q hi hj e => ?_, fun _ _ _ => trivial⟩
  obtain ⟨x, hx, ex⟩ := xids hws hi
  obtain ⟨y, hy, ey⟩ := xids hws hj
  obtain ⟨e1, e2⟩ := hDJ _ _ _ _ (l1 x (List.mem_of_getElem? hx)) (l1 y (List.mem_of_getElem? hy)) (ex.symm.trans (e.trans ey))
  obtain rfl : x = y := Prod.ext e1 e2
  exact hn i j x hx hy
theorem xWn : ∀ (i j : Nat) (x : Nat × Nat), xWi[i]? = some x → xWi[j]? = some x → i = j := by
  intro i j x hi hj
  rcases i with _ | _ | _ | _ | i <;> rcases j with _ | _ | _ | _ | j <;> first | rfl | (simp at hi hj; done) | (simp at hi hj; rw [← hi] at hj; simp at hj)
theorem xTn {k : Nat} : ∀ (i j : Nat) (x : Nat × Nat), (xTi k)[i]? = some x → (xTi k)[j]? = some x → i = j := by
  intro i j x hi hj
  rcases i with _ | _ | _ | i <;> rcases j with _ | _ | _ | j <;> first | rfl | (simp at hi hj; done) | (simp at hi hj; rw [← hi] at hj; simp at hj)
theorem xDn {k : Nat} : ∀ (i j : Nat) (x : Nat × Nat), (xDi k)[i]? = some x → (xDi k)[j]? = some x → i = j := by
  intro i j x hi hj
  rcases i with _ | _ | _ | _ | i <;> rcases j with _ | _ | _ | _ | j <;> first | rfl | (simp at hi hj; done) | (simp at hi hj; rw [← hi] at hj; simp at hj)
theorem va_A_XA {ad : Nat → Nat → Nat} {ws : va_W} {ids : List (Nat × Nat)} {sz hz : Nat} (hws : ws.map Prod.fst = ids.map (adf ad)) (h : sz ≤ hz) : ∀ q, va_A ws hz q → XA ad sz q := by
  intro q hq
  rcases hq with ⟨i, e, hi⟩ | hq
  · obtain ⟨x, hx, ex⟩ := xids hws hi
    exact Or.inl ⟨x.1, x.2, ex.symm⟩
  · exact Or.inr (Nat.le_trans h hq)
theorem setT_own {K : Nat → ClassId} {ad : Nat → Nat → Nat} {S : Nat → Nat → Nat → Int32} {k : Nat} {su go : Nat → Int32} {dec win par prt : Int32} : xT K ad (setT S k su go dec win par prt) k = tW K (ad 4 k) (ad 5 k) (ad 6 k) su go dec win par prt := by simp [xT, setT]
theorem setD_own {K : Nat → ClassId} {ad : Nat → Nat → Nat} {S : Nat → Nat → Nat → Int32} {k : Nat} {one oth mc fst cl : Int32} {un nw fi : Nat → Int32} : xD K ad (setD S k one oth un nw fi mc fst cl) k = dW K (ad 7 k) (ad 8 k) (ad 9 k) (ad 10 k) one oth un nw fi mc fst cl := by simp [xD, setD]
theorem XP_upT {D : va_G} {K : Nat → ClassId} {ad : Nat → Nat → Nat} {n d k : Nat} {S : Nat → Nat → Nat → Int32} {H H1 : Heap} {su go : Nat → Int32} {dec win par prt : Int32} (hk : k < n) (hDJ : DJ ad n d) (h : XP D K ad n d S H) (hk1 : ∀ q : Nat, q < H.size → ¬ va_A (xT K ad S k) H.size q → H1[q]? = H[q]?)
    (hP1 : va_P D vwCl (tW K (ad 4 k) (ad 5 k) (ad 6 k) su go dec win par prt) H1) : XP D K ad n d (setT S k su go dec win par prt) H1 := by
  refine ⟨h.1, h.2.1, ?_, fun j hj => ?_, fun j hj => ?_⟩
  · have e : xW K ad n d (setT S k su go dec win par prt) = xW K ad n d S := by simp [xW, setT]
    rw [e]
    exact X_kept hDJ (ids := xWi) (idc := xTi k) rfl rfl xWl (xTl hk) (xne (by simp <;> omega)) h.2.2.1 hk1
  · by_cases e : j = k
    · subst e; rw [setT_own]; exact hP1
    · have e2 : xT K ad (setT S k su go dec win par prt) j = xT K ad S j := by simp [xT, setT, e]
      rw [e2]
      exact X_kept hDJ (ids := xTi j) (idc := xTi k) rfl rfl (xTl hj) (xTl hk) (xne (by simp <;> omega)) (h.2.2.2.1 j hj) hk1
  · have e2 : xD K ad (setT S k su go dec win par prt) j = xD K ad S j := by simp [xD, setT]
    rw [e2]
    exact X_kept hDJ (ids := xDi j) (idc := xTi k) rfl rfl (xDl hj) (xTl hk) (xne (by simp <;> omega)) (h.2.2.2.2 j hj) hk1
theorem XP_upD {D : va_G} {K : Nat → ClassId} {ad : Nat → Nat → Nat} {n d k : Nat} {S : Nat → Nat → Nat → Int32} {H H1 : Heap} {one oth mc fst cl : Int32} {un nw fi : Nat → Int32} (hk : k < d) (hDJ : DJ ad n d) (h : XP D K ad n d S H) (hk1 : ∀ q : Nat, q < H.size → ¬ va_A (xD K ad S k) H.size q → H1[q]? = H[q]?)
    (hP1 : va_P D vwCl (dW K (ad 7 k) (ad 8 k) (ad 9 k) (ad 10 k) one oth un nw fi mc fst cl) H1) : XP D K ad n d (setD S k one oth un nw fi mc fst cl) H1 := by
  refine ⟨h.1, h.2.1, ?_, fun j hj => ?_, fun j hj => ?_⟩
  · have e : xW K ad n d (setD S k one oth un nw fi mc fst cl) = xW K ad n d S := by simp [xW, setD]
    rw [e]
    exact X_kept hDJ (ids := xWi) (idc := xDi k) rfl rfl xWl (xDl hk) (xne (by simp <;> omega)) h.2.2.1 hk1
  · have e2 : xT K ad (setD S k one oth un nw fi mc fst cl) j = xT K ad S j := by simp [xT, setD]
    rw [e2]
    exact X_kept hDJ (ids := xTi j) (idc := xDi k) rfl rfl (xTl hj) (xDl hk) (xne (by simp <;> omega)) (h.2.2.2.1 j hj) hk1
  · by_cases e : j = k
    · subst e; rw [setD_own]; exact hP1
    · have e2 : xD K ad (setD S k one oth un nw fi mc fst cl) j = xD K ad S j := by simp [xD, setD, e]
      rw [e2]
      exact X_kept hDJ (ids := xDi j) (idc := xDi k) rfl rfl (xDl hj) (xDl hk) (xne (by simp <;> omega)) (h.2.2.2.2 j hj) hk1
theorem XP_upX {D : va_G} {K : Nat → ClassId} {ad : Nat → Nat → Nat} {n d a : Nat} {S : Nat → Nat → Nat → Int32} {H H1 : Heap} {f : Nat → Int32} (ha : a = 15 ∨ a = 16) (hDJ : DJ ad n d) (h : XP D K ad n d S H) (hk1 : ∀ q : Nat, q < H.size → ¬ va_A (xW K ad n d S) H.size q → H1[q]? = H[q]?)
    (hP1 : va_P D vwCl (xW K ad n d (us S a 0 f)) H1) : XP D K ad n d (us S a 0 f) H1 := by
  refine ⟨h.1, h.2.1, hP1, fun j hj => ?_, fun j hj => ?_⟩
  · have e2 : xT K ad (us S a 0 f) j = xT K ad S j := by rcases ha with rfl | rfl <;> simp [xT, us]
    rw [e2]
    exact X_kept hDJ (ids := xTi j) (idc := xWi) rfl rfl (xTl hj) xWl (xne (by simp)) (h.2.2.2.1 j hj) hk1
  · have e2 : xD K ad (us S a 0 f) j = xD K ad S j := by rcases ha with rfl | rfl <;> simp [xD, us]
    rw [e2]
    exact X_kept hDJ (ids := xDi j) (idc := xWi) rfl rfl (xDl hj) xWl (xne (by simp)) (h.2.2.2.2 j hj) hk1
