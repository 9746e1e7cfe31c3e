/-! an object read: its row, and the values cut back -/
theorem vsC_cut {C C' : wd_C} {nv u nv' u' : Nat} {V V' : VT} (h : vsC C nv u V) (hf : fC C C' nv) (h' : vsC C' nv' u' V') (hb : vbe nv V V') (hn : nv ≤ nv') (hu : u ≤ u') : vsC (upd (upd C'.1 1 (nI nv)) 2 (nI u), C'.2) nv u V := by
  refine ⟨⟨rfl, h.1.2.1, rfl, h.1.2.2.2⟩, fun v hv => ?_, h.2.2⟩
  obtain ⟨r1, r2, r3, r4, r5, r6, ⟨s, s1, s2, s3, s4⟩, r7⟩ := h.2.1 v hv
  obtain ⟨t1, t2, t3, t4, t5, t6, ⟨q, q1, q2, q3, q4⟩, t7⟩ := h'.2.1 v (by omega)
  obtain ⟨e1, e2, e3, e4⟩ := hb v hv
  rw [e1] at t1 t7
  rw [e2] at t2
  rw [e3] at t3 t7
  rw [e4] at q2 q3 q4
  have hs : q = s := by
    have hw := hf.2.2 v hv
    rw [s1, q1] at hw
    have := h.1.2.2.2
    have := h'.1.2.2.2
    exact (nI_eq (by omega) (by omega)).mp hw
  subst hs
  exact ⟨t1, t2, t3, r4, r5, r6, ⟨q, q1, q2, s3, q4⟩, t7⟩
theorem vsY_cut {Y Y' : wd_Y} {nv u nv' u' : Nat} {V V' : VT} (h : vsY Y nv u V) (hf : fY Y Y' nv) (h' : vsY Y' nv' u' V') (hb : vbe nv V V') (hn : nv ≤ nv') {Z : wd_Y} (h4 : Z.1 4 = nI nv) (h5 : Z.1 5 = nI u) (ha : Z.2.1 = Y'.2.1) (hx : Z.2.2.1 = Y'.2.2.1) : vsY Z nv u V := by
  refine ⟨⟨h4, h.1.2.1, h5, h.1.2.2.2⟩, fun v hv => ?_⟩
  obtain ⟨r1, r2, r3, ⟨s, s1, s2, s3, s4⟩, r5, r6⟩ := h.2 v hv
  obtain ⟨t1, t2, t3, ⟨q, q1, q2, q3, q4⟩, t5, t6⟩ := h'.2 v (by omega)
  obtain ⟨e1, e2, e3, e4⟩ := hb v hv
  rw [e1] at t1
  rw [e2] at t2
  rw [e3] at t3 t5 t6
  rw [e4] at q2 q3 q4
  have hs : q = s := by
    have hw := hf.2.2 v hv
    rw [s1, q1] at hw
    have := h.1.2.2.2
    have := h'.1.2.2.2
    exact (nI_eq (by omega) (by omega)).mp hw
  subst hs
  unfold yrw ybt
  rw [ha, hx]
  exact ⟨t1, t2, t3, ⟨q, q1, q2, s3, q4⟩, t5, t6⟩
theorem tlN_skip {V : VT} {E E' : Nat → Nat → Int32} {no x : Nat} (h : ∀ i, i < no → ∀ j, j < 8 → E' i j = E i j) (h2 : E' no 2 = -1) : tlN V E' (no + 1) x = tlN V E no x := by
  unfold tlN
  cases prF (isLn V) (V.2.2.1 x) with
  | none => rfl
  | some z =>
    obtain ⟨t, w⟩ := z
    show (if V.1 w = 2 then _ else if V.1 w = 8 then _ else _) = (if V.1 w = 2 then _ else if V.1 w = 8 then _ else _)
    rw [fnO_skip h h2]
    cases hf : fnO E (V.2.1 w - V.2.1 w / 1000000000 * 1000000000).toInt32 (V.2.1 w / 1000000000).toInt32 no with
    | none => rfl
    | some i =>
      have := fnO_some hf
      show (if V.1 w = 2 then _ else if V.1 w = 8 then (if V.1 (E' i 2).toNatClampNeg = 2 then _ else _) else _) = _
      rw [h i this.1 2 (by omega)]
def fin1 (n : Nat) (b : Nat → Int32) (E : Nat → Nat → Int32) (noo : Nat) : RR → RR
  | .inl f => .inl f
  | .inr (x, k, nv, u, V, no) => stmR n b k nv u V no x (tlO (tlN V E noo x))
def fin2 (n : Nat) (b : Nat → Int32) : RR → RR
  | .inl f => .inl f
  | .inr (y, k, nv, u, V, no) => if wdA b st_10 (skW n b k) = true then .inr (y, skW n b k + 6, nv, u, V, no) else .inl (if skW n b k < n then 2 else 1, skW n b k, no)
def rw8 (a g v c p no k0 k1 : Int32) : Nat → Int32 := fun j => if j = 0 then a else if j = 1 then g else if j = 2 then v else if j = 3 then c else if j = 4 then p else if j = 5 then no else if j = 6 then k0 else k1
def rowR (n : Nat) (b : Nat → Int32) (a g : Int32) (k0 : Nat) : RR → Nat → Int32
  | .inl (c, p, no) => rw8 a g (-1) c (nI p) no (nI k0) (nI (neE b (n - p) p))
  | .inr (y, k, _, _, _, no) => rw8 a g (nI y) 0 (-1) no (nI k0) (nI k)
theorem neE_bd {n : Nat} {b : Nat → Int32} (hb : ∀ k, n ≤ k → b k = -1) : ∀ (f k : Nat), k + f = n → k ≤ neE b f k ∧ neE b f k ≤ n
  | 0, k, h => by rw [neE]; omega
  | f + 1, k, h => by
    rw [neE]
    split
    · rename_i hw
      have h1 : txA b st_10 k = true := by
        have := hw.1
        unfold wdA at this
        exact (Bool.and_eq_true_iff.mp this).1
      have h2 : b (k + 5) = 106 := by
        simp only [st_10, txA, Bool.and_eq_true, decide_eq_true_eq] at h1
        exact h1.2.2.2.2.2.1
      rcases Nat.lt_or_ge (k + 5) n with g | g
      · omega
      · rw [hb _ g] at h2
        exact absurd h2 (by decide)
    · have := neE_bd hb f (k + 1) (by omega)
      omega
theorem wdA10_in {n : Nat} {b : Nat → Int32} (hb : ∀ k, n ≤ k → b k = -1) {k : Nat} (hw : wdA b st_10 k = true) : k + 6 ≤ n := by
  have h1 : txA b st_10 k = true := by
    unfold wdA at hw
    exact (Bool.and_eq_true_iff.mp hw).1
  have h2 : b (k + 5) = 106 := by
    simp only [st_10, txA, Bool.and_eq_true, decide_eq_true_eq] at h1
    exact h1.2.2.2.2.2.1
  rcases Nat.lt_or_ge (k + 5) n with g | g
  · omega
  · rw [hb _ g] at h2
    exact absurd h2 (by decide)
