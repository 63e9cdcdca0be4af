/-! files: what the walk needs -/
section FP
variable {n d c : Nat} {S : Nat → Nat → Nat → Int32} {M : Nat → Nat → Int32}
theorem sign_congr {M M' : Nat → Nat → Int32} (h1 : M' 1 = M 1) (h2 : M' 2 = M 2) (h3 : M' 3 = M 3) (p q r : Int32) : sp_L_sign M' p q r = sp_L_sign M p q r := by
  have hin : ∀ x y, sp_L_in M' x y = sp_L_in M x y := fun x y => by unfold sp_L_in; rw [h2, h3]
  have hA : ∀ vo j sm, sp_L_sign_A M' q r vo j sm = sp_L_sign_A M q r vo j sm := by
    intro vo j
    induction j with
    | zero => intro sm; rfl
    | succ j ih =>
      intro sm
      have e : ∀ M : Nat → Nat → Int32, sp_L_sign_A M q r vo (j + 1) sm = if (M 1 ((4 * (nI j)).toNatClampNeg)) = 1 then (if sp_L_in M (nI j) q = true then (if sp_L_in M (nI j) r = true then (if (M 1 (((4 * (nI j)) + 1).toNatClampNeg)) = (vo) then (if ((nI j) - 1) < 0 then (sm + 4) else (sm + 4)) else (if ((nI j) - 1) < 0 then (sm + 0) else (sm + 0))) else (sp_L_sign_A M q r vo j (sm + 0))) else (sp_L_sign_A M q r vo j (sm + 0))) else (sp_L_sign_A M q r vo j (sm + 0)) := fun _ => rfl
      rw [e M', e M, h1, hin, hin, ih]
  unfold sp_L_sign sp_L_sign_j72s0 sp_L_sign_j93s0 sp_L_sign_j128s0
  rw [h1, h2, h3]
  simp only [hA, hin]
theorem sign_um4 {f : Nat → Int32} {p q r : Int32} : sp_L_sign (um M 4 f) p q r = sp_L_sign M p q r := sign_congr (um_off (by decide)) (um_off (by decide)) (um_off (by decide)) p q r
/-- six pairs of four bidders -/
theorem php : ∀ (m : Nat) (f : Nat → Nat), (∀ i, i < m + 1 → f i < m) → ∃ i j, i < j ∧ j < m + 1 ∧ f i = f j := by
  intro m
  induction m with
  | zero => intro f h; exact absurd (h 0 (by decide)) (Nat.not_lt_zero _)
  | succ m ih =>
    intro f h
    by_cases hv : ∃ i, i < m + 1 ∧ f i = f (m + 1)
    · obtain ⟨i, hi, e⟩ := hv
      exact ⟨i, m + 1, hi, by omega, e⟩
    · have hv' : ∀ i, i < m + 1 → f i ≠ f (m + 1) := fun i hi e => hv ⟨i, hi, e⟩
      have hl := h (m + 1) (by omega)
      obtain ⟨i, j, h1, h2, e⟩ := ih (fun i => if f i = m then f (m + 1) else f i) (fun i hi => by
        have q1 := h i (by omega)
        have q2 := hv' i hi
        show (if f i = m then f (m + 1) else f i) < m
        by_cases q : f i = m
        · rw [if_pos q]; omega
        · rw [if_neg q]; omega)
      refine ⟨i, j, h1, by omega, ?_⟩
      have e : (if f i = m then f (m + 1) else f i) = (if f j = m then f (m + 1) else f j) := e
      have q1 := hv' i (by omega)
      have q2 := hv' j h2
      by_cases c1 : f i = m
      · by_cases c2 : f j = m
        · omega
        · rw [if_pos c1, if_neg c2] at e; exact absurd e.symm q2
      · by_cases c2 : f j = m
        · rw [if_neg c1, if_pos c2] at e; exact absurd e q1
        · rw [if_neg c1, if_neg c2] at e; exact e
def pcode (x y : Nat) : Nat := if x = 0 then y - 1 else if x = 1 then y + 1 else 5
theorem pcode_lt {x y : Nat} (h : x < y) (hy : y < 4) : pcode x y < 6 := by unfold pcode; (repeat' split) <;> omega
theorem pcode_inj {x y u v : Nat} (h : x < y) (hy : y < 4) (h2 : u < v) (hv : v < 4) (e : pcode x y = pcode u v) : x = u ∧ y = v := by
  unfold pcode at e
  repeat' split at e
  all_goals omega
theorem Rel.pr (R : Rel n d S M c) {k : Nat} (hk : k < d) : ∃ x y, x < y ∧ y < 4 ∧ M 4 (8 * k) = nI x ∧ M 4 (8 * k + 1) = nI y ∧ ((S 7 k 0 = nI x ∧ S 8 k 0 = nI y) ∨ (S 7 k 0 = nI y ∧ S 8 k 0 = nI x)) := by
  obtain ⟨a, b, mm, tt, h1, h2, h3, h4, h5, -⟩ := R.rf hk
  exact ⟨a, b, h1, h2, h4, h5, h3⟩
/-- the law's 'had' -/
theorem had_t (R : Rel n d S M c) {a b : Nat} (ha : a < 4) (hb : b < 4) (hab : a ≠ b) : ∀ k, k ≤ d → (¬ sp_L_files_L32 M a b k = 0 ↔ ∃ i, i < k ∧ M 4 (8 * i) = nI (min a b) ∧ M 4 (8 * i + 1) = nI (max a b)) := by
  have hd := R.2.1
  intro k
  induction k with
  | zero => intro _; exact ⟨fun h => absurd rfl h, fun ⟨i, hi, _⟩ => absurd hi (Nat.not_lt_zero _)⟩
  | succ k ih =>
    intro hk
    have ih := ih (by omega)
    obtain ⟨x, y, hxy, hy, ex, ey, -⟩ := R.pr (show k < d by omega)
    rw [show sp_L_files_L32 M a b (k + 1) = if (sp_L_files_L32 M a b k) = 0 then (if ((M 4 ((8 * (nI k)).toNatClampNeg)) + (M 4 (((8 * (nI k)) + 1).toNatClampNeg))) = ((nI a) + (nI b)) then (if (M 4 ((8 * (nI k)).toNatClampNeg)) = (nI a) then 1 else (if (M 4 ((8 * (nI k)).toNatClampNeg)) = (nI b) then 1 else 0)) else 0) else 1 from rfl]
    rw [cl80 (by omega), show (8 * nI k + 1 : Int32).toNatClampNeg = 8 * k + 1 from cl8 (b := 1) (by omega) (by decide), ex, ey, nI_add, nI_add]
    have key : (M 4 (8 * k) = nI (min a b) ∧ M 4 (8 * k + 1) = nI (max a b)) ↔ (x + y = a + b ∧ (x = a ∨ x = b)) := by
      rw [ex, ey, nI_inj' (by omega) (by omega), nI_inj' (by omega) (by omega)]
      omega
    by_cases h0 : sp_L_files_L32 M a b k = 0
    · rw [if_pos h0]
      have hno : ¬ ∃ i, i < k ∧ M 4 (8 * i) = nI (min a b) ∧ M 4 (8 * i + 1) = nI (max a b) := fun q => ih.mpr q h0
      have step : (∃ i, i < k + 1 ∧ M 4 (8 * i) = nI (min a b) ∧ M 4 (8 * i + 1) = nI (max a b)) ↔ (x + y = a + b ∧ (x = a ∨ x = b)) := by
        refine ⟨fun ⟨i, hi, q⟩ => ?_, fun q => ⟨k, by omega, key.mpr q⟩⟩
        rcases Nat.lt_or_ge i k with z | z
        · exact absurd ⟨i, z, q⟩ hno
        · have : i = k := by omega
          subst this; exact key.mp q
      rw [step]
      by_cases c1 : nI (x + y) = nI (a + b)
      · have c1' := (nI_inj' (by omega) (by omega)).mp c1
        rw [if_pos c1]
        by_cases c2 : nI x = nI a
        · have c2' := (nI_inj' (by omega) (by omega)).mp c2
          rw [if_pos c2]; exact ⟨fun _ => ⟨c1', Or.inl c2'⟩, fun _ => by decide⟩
        · rw [if_neg c2]
          have c2' : ¬ x = a := fun q => c2 (by rw [q])
          by_cases c3 : nI x = nI b
          · have c3' := (nI_inj' (by omega) (by omega)).mp c3
            rw [if_pos c3]; exact ⟨fun _ => ⟨c1', Or.inr c3'⟩, fun _ => by decide⟩
          · have c3' : ¬ x = b := fun q => c3 (by rw [q])
            rw [if_neg c3]; exact ⟨fun q => absurd rfl q, fun q => by omega⟩
      · have c1' : ¬ x + y = a + b := fun q => c1 (by rw [q])
        rw [if_neg c1]; exact ⟨fun q => absurd rfl q, fun q => absurd q.1 c1'⟩
    · rw [if_neg h0]
      obtain ⟨i, hi, q⟩ := ih.mp h0
      exact ⟨fun _ => ⟨i, by omega, q⟩, fun _ => by decide⟩
theorem file_can (R : Rel n d S M c) {a b : Nat} (ha : a < 4) (hb : b < 4) (h : ¬ sp_L_files_j115s0 n M d a b = 0) : a ≠ b ∧ sp_L_files_L32 M a b d = 0 ∧ ¬ sp_L_suspicion M n (nI a) (nI b) < M 0 1 := by
  unfold sp_L_files_j115s0 at h
  by_cases c1 : nI a = nI b
  · rw [if_pos c1] at h; exact absurd rfl h
  · rw [if_neg c1] at h
    by_cases c2 : sp_L_files_L32 M a b d = 0
    · rw [if_pos c2] at h
      by_cases c3 : sp_L_suspicion M n (nI a) (nI b) < M 0 1
      · rw [if_pos c3] at h; exact absurd rfl h
      · exact ⟨fun q => c1 (by rw [q]), c2, c3⟩
    · rw [if_neg c2] at h; exact absurd rfl h
theorem file_d6 (R : Rel n d S M c) {a b : Nat} (ha : a < 4) (hb : b < 4) (h : ¬ sp_L_files_j115s0 n M d a b = 0) : d < 6 := by
  obtain ⟨hab, hno, -⟩ := file_can R ha hb h
  rcases Nat.lt_or_ge d 6 with q | q
  · exact q
  · exfalso
    have hd6 : d = 6 := by have := R.2.1; omega
    have hn : ∀ i, i < d → ¬ (M 4 (8 * i) = nI (min a b) ∧ M 4 (8 * i + 1) = nI (max a b)) := fun i hi z => ((had_t R ha hb hab d (Nat.le_refl _)).mpr ⟨i, hi, z⟩) hno
    have c0 := pcode_lt (x := min a b) (y := max a b) (by omega) (by omega)
    have hx : ∀ i, ∃ v, v < 6 ∧ (i < d → v ≠ pcode (min a b) (max a b) ∧ ∃ x y, x < y ∧ y < 4 ∧ M 4 (8 * i) = nI x ∧ M 4 (8 * i + 1) = nI y ∧ v = pcode x y) := fun i => by
      by_cases hi : i < d
      · obtain ⟨x, y, hxy, hy, ex, ey, -⟩ := R.pr hi
        refine ⟨pcode x y, pcode_lt hxy hy, fun _ => ⟨fun e => ?_, x, y, hxy, hy, ex, ey, rfl⟩⟩
        obtain ⟨e1, e2⟩ := pcode_inj hxy hy (show min a b < max a b by omega) (by omega) e
        exact hn i hi ⟨by rw [ex, e1], by rw [ey, e2]⟩
      · exact ⟨0, by decide, fun z => absurd z hi⟩
    obtain ⟨g, hg⟩ := Classical.axiomOfChoice hx
    obtain ⟨i, j, h1, h2, e⟩ := php 5 (fun i => if g i = 5 then pcode (min a b) (max a b) else g i) (fun i hi => by
      show (if g i = 5 then pcode (min a b) (max a b) else g i) < 5
      have q1 := (hg i).1
      have q2 := ((hg i).2 (by omega)).1
      by_cases c : g i = 5
      · rw [if_pos c]; omega
      · rw [if_neg c]; omega)
    have e : (if g i = 5 then pcode (min a b) (max a b) else g i) = (if g j = 5 then pcode (min a b) (max a b) else g j) := e
    obtain ⟨p1, x, y, hxy, hy, ex, ey, gi⟩ := (hg i).2 (by omega)
    obtain ⟨p2, u, v, huv, hv, eu, ev, gj⟩ := (hg j).2 (by omega)
    have e9 : g i = g j := by
      by_cases c1 : g i = 5
      · by_cases c2 : g j = 5
        · rw [c1, c2]
        · rw [if_pos c1, if_neg c2] at e; exact absurd e.symm p2
      · by_cases c2 : g j = 5
        · rw [if_neg c1, if_pos c2] at e; exact absurd e p1
        · rw [if_neg c1, if_neg c2] at e; exact e
    obtain ⟨e1, e2⟩ := pcode_inj hxy hy huv hv (by rw [← gi, ← gj]; exact e9)
    exact R.2.2.2.2.2.2.2.2.2.2 i j h1 (by omega) ⟨by rw [ex, eu, e1], by rw [ey, ev, e2]⟩
theorem c8 {d i : Nat} (hd : d < 6) (hi : i < 8) : (8 * nI d + nI i : Int32).toNatClampNeg = 8 * d + i := cl8 hd hi
theorem f_u0 {a b : Nat} {v w : Int32} (hd : d < 6) : upd (upd (upd (M 4) ((8 * (nI d)).toNatClampNeg) v) (((8 * (nI d)) + 1).toNatClampNeg) w) (((8 * (nI d)) + 2).toNatClampNeg) (sp_L_files_G M d a b 0) = upd (upd (M 4) ((8 * (nI d)).toNatClampNeg) v) (((8 * (nI d)) + 1).toNatClampNeg) w := by
  have e : sp_L_files_G M d a b 0 = (upd (upd (M 4) ((8 * (nI d)).toNatClampNeg) v) (((8 * (nI d)) + 1).toNatClampNeg) w) (((8 * (nI d)) + 2).toNatClampNeg) := by
    rw [show (8 * nI d + 2 : Int32).toNatClampNeg = 8 * d + 2 from c8 (i := 2) hd (by decide), show (8 * nI d + 1 : Int32).toNatClampNeg = 8 * d + 1 from c8 (i := 1) hd (by decide), cl80 hd, upd_off (by omega), upd_off (by omega)]
    show M 4 (((8 * (nI d)) + 2).toNatClampNeg) = _
    rw [show (8 * nI d + 2 : Int32).toNatClampNeg = 8 * d + 2 from c8 (i := 2) hd (by decide)]
  rw [e, upd_self]
theorem c85 {j sd : Nat} (hj : j < 6) (hs : sd < 2) : ((8 * nI j + 5) + nI sd : Int32).toNatClampNeg = 8 * j + 5 + sd := by
  rw [show (8 : Int32) = nI 8 from rfl, show (5 : Int32) = nI 5 from rfl, pk_mul, nI_add, nI_add, nI_clamp (by omega)]
theorem f_ix5 {j sd : Nat} {u v w : Int32} (hj : j < 6) (hs : sd < 2) : (upd (upd (upd (M 4) (((8 * (nI j)) + 3).toNatClampNeg) u) (((8 * (nI j)) + 4).toNatClampNeg) v) ((((8 * (nI j)) + 5) + (nI sd)).toNatClampNeg) w) (((8 * (nI j)) + (nI sd)).toNatClampNeg) = M 4 (((8 * (nI j)) + (nI sd)).toNatClampNeg) := by
  rw [c85 hj hs, show (8 * nI j + 3 : Int32).toNatClampNeg = 8 * j + 3 from c8 (i := 3) hj (by decide), show (8 * nI j + 4 : Int32).toNatClampNeg = 8 * j + 4 from c8 (i := 4) hj (by decide), c8 hj (by omega), upd_off (by omega), upd_off (by omega), upd_off (by omega)]
theorem fr_open {j t : Nat} (h : ¬ sp_L_files_j378s0 M j t = 0) : sp_L_files_j340s0 M j = 0 := by
  unfold sp_L_files_j378s0 at h
  by_cases c : sp_L_files_j340s0 M j = 0
  · exact c
  · rw [if_neg c] at h; exact absurd rfl h
section CL
variable {j : Nat} {Mf1 Mg1 Mf2 Mg2 : Nat → Nat → Int32} {rf1 rf2 : Int32}
theorem f_hb1 (R : Rel n d S M c) (hj : j < d) (h1 : um M 4 (upd (M 4) (((8 * (nI j)) + 7).toNatClampNeg) 1) = Mf1) : vp_in (Mf1 4 ((8 * nI j + 0 : Int32).toNatClampNeg)) 4 := by
  have hd := R.2.1
  obtain ⟨x, y, hxy, hy, ex, ey, -⟩ := R.pr hj
  rw [← h1, um_at, Int32.add_zero, cl80 (by omega), show (8 * nI j + 7 : Int32).toNatClampNeg = 8 * j + 7 from c8 (i := 7) (by omega) (by decide), upd_off (by omega), ex]
  exact vp_in_nI (by omega) (by decide)
theorem fine_off (n : Nat) (p q : Int32) {a : Nat} (h : a ≠ 0) : (sp_L_fine Mf1 n p q).2 a = Mf1 a := um_off h
theorem f_hn2 (hn : M 0 0 = nI n) (h1 : um M 4 (upd (M 4) (((8 * (nI j)) + 7).toNatClampNeg) 1) = Mf1) (h2 : (sp_L_fine Mf1 n (nI j) 0).2 = Mg1) (h3 : um Mg1 5 (upd (Mg1 5) ((2 * (nI j)).toNatClampNeg) rf1) = Mf2) (hb : vp_in (Mf1 4 ((8 * nI j + 0 : Int32).toNatClampNeg)) 4) : Mf2 0 0 = nI n := by
  obtain ⟨i, hi, ei⟩ := vx hb
  rw [← h3, um_off (by decide), ← h2]
  unfold sp_L_fine
  show um Mf1 0 (upd (Mf1 0) ((3 + (Mf1 4 (((8 * nI j) + 0).toNatClampNeg))).toNatClampNeg) _) 0 0 = nI n
  rw [um_at, ei, show (3 : Int32) = nI 3 from rfl, nI_add, nI_clamp (by omega), upd_off (by omega), ← h1, um_off (by decide)]
  exact hn
theorem f_hb2 (R : Rel n d S M c) (hj : j < d) (h1 : um M 4 (upd (M 4) (((8 * (nI j)) + 7).toNatClampNeg) 1) = Mf1) (h2 : (sp_L_fine Mf1 n (nI j) 0).2 = Mg1) (h3 : um Mg1 5 (upd (Mg1 5) ((2 * (nI j)).toNatClampNeg) rf1) = Mf2) : vp_in (Mf2 4 ((8 * nI j + 1 : Int32).toNatClampNeg)) 4 := by
  have hd := R.2.1
  obtain ⟨x, y, hxy, hy, ex, ey, -⟩ := R.pr hj
  rw [← h3, um_off (by decide), ← h2, fine_off _ _ _ (by decide), ← h1, um_at, show (8 * nI j + 1 : Int32).toNatClampNeg = 8 * j + 1 from c8 (i := 1) (by omega) (by decide), show (8 * nI j + 7 : Int32).toNatClampNeg = 8 * j + 7 from c8 (i := 7) (by omega) (by decide), upd_off (by omega), ey]
  exact vp_in_nI (by omega) (by decide)
end CL
end FP
section EFSS
variable {p : Program} {l : Launch} {e : Env} {R : Room} {s : State} {m : MethodId} {args : Array Value} {below : List Frame} {meth : Method} {c : Code} {H : Heap} {locs : List Loc} {cells slots : Nat} {Q : State → Prop}
variable {y : MethodName} {bytes cc : ByteArray} {maxL nL n index fr lo : Nat} {ret : Option FieldType} {ws Ts : List Cond} {D : va_G} {K : Nat → ClassId} {W1 W2 : va_W} {own : String} {As rest st0 : List Value} {r : Int32} {pc : Nat} {ls : Array Slot} {A0 : Nat → Prop} {H0 : Heap}
theorem ef_Si (S : CallFix p m c cc nL s args Ts own) (hM : EFi l y ws fr lo D K As H.size W1 W2 r) (cw : CallB R s args own index y bytes maxL ret ws ({ frames := fr, cells := 0, slots := 0, locals := lo }) 0 0 n ∧ (Cond.static y).before args s = true)
    (hP : va_P D vwCl W1 H) (hD : va_D (fun _ => True) W1) (hK : va_K D vwCl (TYS K) s) (hE : EV s)
    (hst : st0 = As.reverse ++ rest) (hn : As.length = n) (hsz : ls.size = nL) (hW : (rest.map fun v => v.category).sum ≤ 8) (hdg : decode cc pc = .ok (.invokestatic index, 3)) (hf : cells ≤ R.cells ∧ slots ≤ R.slots)
    (hS : va_S A0 H0 H locs) (hF : ∀ q, va_A W1 H.size q → A0 q)
    (kk : ∀ (H1 : Heap) (locs1 : List Loc), va_P D vwCl W2 H1 → va_D (va_A W1 H.size) W2 → H.size ≤ H1.size → (∀ q : Nat, q < H.size → ¬ va_A W1 H.size q → H1[q]? = H[q]?) → va_S A0 H0 H1 locs1 → W p l e R s m args below meth c H1 locs1 cells slots Q (F0 m (pc + 3) ls (.int r :: rest))) : W p l e R s m args below meth c H locs cells slots Q (F0 m pc ls st0) := by
  refine va_calli (va_runS (g := F0 m pc ls st0) S hM cw ⟨EF_blind, EF_at hP hD hK hE⟩ rfl hn hsz hst (lv_room hW) hdg hf) hS (fun q _ h => hF q h) hF (fun x u t H1 locs1 ht _ hx hB hz hk hS1 => ?_)
  subst hx
  rw [ht] at hB
  exact kk H1 locs1 hB.1 hB.2 hz hk hS1
end EFSS
theorem aW_GA {K : Nat → ClassId} {oa : Nat → Nat} {M : Nat → Nat → Int32} {ad : Nat → Nat → Nat} {z h : Nat} (hz : z ≤ h) : ∀ q, va_A (aW K oa M) h q → GA ad oa z q := fun q hq => by
  rcases hq with ⟨i, e, hi⟩ | hq
  · exact Or.inr ⟨i, ((aW_ix hi).2).symm⟩
  · exact Or.inl (Or.inr (Nat.le_trans hz hq))
theorem aW_off {K : Nat → ClassId} {oa : Nat → Nat} {M : Nat → Nat → Int32} {ad : Nat → Nat → Nat} {h k i : Nat} (hsep : ∀ k i j, ad k i ≠ oa j) (hlt : ad k i < h) : ¬ va_A (aW K oa M) h (ad k i) := fun hq => by
  rcases hq with ⟨j, e, hj⟩ | hq
  · exact hsep k i j (aW_ix hj).2
  · omega
