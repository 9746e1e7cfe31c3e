/-! the reference's state while it reads a leaf -/
def fY (Y Y' : wd_Y) (nv : Nat) : Prop := (Y'.1 0 = Y.1 0 ∧ Y'.1 1 = Y.1 1 ∧ Y'.1 2 = Y.1 2 ∧ Y'.1 3 = Y.1 3 ∧ Y'.1 13 = Y.1 13 ∧ Y'.1 14 = Y.1 14 ∧ Y'.1 15 = Y.1 15 ∧ Y'.1 16 = Y.1 16) ∧ (Y'.2.1 0 = Y.2.1 0 ∧ Y'.2.1 1 = Y.2.1 1 ∧ Y'.2.1 13 = Y.2.1 13 ∧ Y'.2.1 14 = Y.2.1 14 ∧ Y'.2.1 15 = Y.2.1 15) ∧ ∀ w, w < nv → Y'.2.1 7 w = Y.2.1 7 w
theorem fY_rf (Y : wd_Y) (nv : Nat) : fY Y Y nv := ⟨⟨rfl, rfl, rfl, rfl, rfl, rfl, rfl, rfl⟩, ⟨rfl, rfl, rfl, rfl, rfl⟩, fun _ _ => rfl⟩
theorem fY_tr {Y Y1 Y2 : wd_Y} {nv nv1 : Nat} (h : fY Y Y1 nv) (h2 : fY Y1 Y2 nv1) (hn : nv ≤ nv1) : fY Y Y2 nv := by
  obtain ⟨⟨a1, a2, a3, a4, a5, a6, a7, a8⟩, ⟨b1, b2, b3, b4, b5⟩, c⟩ := h
  obtain ⟨⟨p1, p2, p3, p4, p5, p6, p7, p8⟩, ⟨q1, q2, q3, q4, q5⟩, r⟩ := h2
  exact ⟨⟨p1.trans a1, p2.trans a2, p3.trans a3, p4.trans a4, p5.trans a5, p6.trans a6, p7.trans a7, p8.trans a8⟩, ⟨q1.trans b1, q2.trans b2, q3.trans b3, q4.trans b4, q5.trans b5⟩, fun w hw => (r w (by omega)).trans (c w hw)⟩
theorem tpY_f {Y Y' : wd_Y} {n nv : Nat} {b : Nat → Int32} (h : tpY Y n b) (hf : fY Y Y' nv) : tpY Y' n b := by
  obtain ⟨h1, h2, h3, h4, h5⟩ := h
  exact ⟨hf.1.2.1.trans h1, h2, fun k hk => by rw [hf.2.1.1]; exact h3 k hk, h4, h5⟩
/-- the stack of open ones is left alone -/
def lY (Y Y' : wd_Y) : Prop := Y'.1 12 = Y.1 12 ∧ Y'.2.1 11 = Y.2.1 11 ∧ Y'.2.1 12 = Y.2.1 12
theorem lY_rf (Y : wd_Y) : lY Y Y := ⟨rfl, rfl, rfl⟩
theorem lY_tr {Y Y1 Y2 : wd_Y} (h : lY Y Y1) (h2 : lY Y1 Y2) : lY Y Y2 := ⟨h2.1.trans h.1, h2.2.1.trans h.2.1, h2.2.2.trans h.2.2⟩
/-- the same values below nv -/
def vbe (nv : Nat) (V V' : VT) : Prop := ∀ v, v < nv → V'.1 v = V.1 v ∧ V'.2.1 v = V.2.1 v ∧ V'.2.2.1 v = V.2.2.1 v ∧ V'.2.2.2 v = V.2.2.2 v
theorem vbe_rf (nv : Nat) (V : VT) : vbe nv V V := fun _ _ => ⟨rfl, rfl, rfl, rfl⟩
theorem vbe_tr {nv nv1 : Nat} {V V1 V2 : VT} (h : vbe nv V V1) (h2 : vbe nv1 V1 V2) (hn : nv ≤ nv1) : vbe nv V V2 := fun v hv => by
  obtain ⟨a1, a2, a3, a4⟩ := h v hv
  obtain ⟨b1, b2, b3, b4⟩ := h2 v (by omega)
  exact ⟨b1.trans a1, b2.trans a2, b3.trans a3, b4.trans a4⟩
theorem vbe_leaf (nv : Nat) (V : VT) (k : Int32) (x : Int64) (bs : List Int32) : vbe nv V (vtLeaf V nv k x bs) := fun v hv => by
  have : v ≠ nv := by omega
  simp [vtLeaf, upd, vp_updL, va_up, this]
def lfD (Y0 Y : wd_Y) (nv u : Nat) (V : VT) (kd : Int32) (acc : List Int32) : Prop :=
  vsY Y (nv + 1) u (vtLeaf V nv kd 0 []) ∧ Y.1 10 = nI acc.length ∧ (∀ j, j < acc.length → Y.2.1 10 j = acc.getD j 0) ∧ fY Y0 Y nv ∧ lY Y0 Y ∧ Y.1 7 = Y0.1 7 ∧ Y.1 9 = Y0.1 9
def lfQ (Y0 : wd_Y) (C : wd_C) (og : Nat → Int64) (nv u : Nat) (V : VT) : LF → Option Value → am_W → Prop
  | .inl (c, p), vr, w' => vr = some (.int 0) ∧ ∃ Y' : wd_Y, w' = wd C Y' og ∧ Y'.1 7 = c ∧ Y'.1 8 = nI p ∧ Y'.1 9 = Y0.1 9 ∧ fY Y0 Y' nv ∧ lY Y0 Y' ∧ ∃ nv' V', nv ≤ nv' ∧ vsY Y' nv' u V' ∧ vbe nv V V'
  | .inr (kd, nu, acc, k, bit), vr, w' => vr = some (.int 1) ∧ ∃ Y' : wd_Y, w' = wd C Y' og ∧ Y'.1 6 = nI k ∧ Y'.1 7 = Y0.1 7 ∧ Y'.1 9 = Y0.1 9 ||| bit ∧ fY Y0 Y' nv ∧ lY Y0 Y' ∧ vsY Y' (nv + 1) (u + acc.length) (vtLeaf V nv kd nu acc)
theorem lfD_begin {Y : wd_Y} {nv u : Nat} {V : VT} (h : vsY Y nv u V) (ho : vok nv V) (hn : nv < 300) (k : Int32) (x : Int32) : lfD Y (upd (upd (yNew Y nv u k).1 10 0) 6 x, (yNew Y nv u k).2) nv u V k [] := by
  have h1 := vsY_new h ho hn k
  rw [vtLeaf_new, vtLeaf_kind] at h1
  refine ⟨h1, rfl, fun j hj => absurd hj (by simp), ⟨⟨rfl, rfl, rfl, rfl, rfl, rfl, rfl, rfl⟩, ⟨rfl, rfl, rfl, rfl, rfl⟩, fun w hw => ?_⟩, ⟨rfl, rfl, rfl⟩, rfl, rfl⟩
  have : w ≠ nv := by omega
  simp [yNew, upd, this]
theorem lfD_get {Y0 Y : wd_Y} {nv u : Nat} {V : VT} {kd : Int32} {acc : List Int32} (h : lfD Y0 Y nv u V kd acc) (x : Int32) : lfD Y0 (upd Y.1 10 (nI (acc.length + 1)), wd_u Y.2.1 10 (upd (Y.2.1 10) acc.length x), Y.2.2) nv u V kd (acc ++ [x]) := by
  obtain ⟨h1, h2, h3, h4, h5, h6, h7⟩ := h
  refine ⟨h1, by simp [upd], fun j hj => ?_, h4, h5, h6, h7⟩
  show upd (Y.2.1 10) acc.length x j = _
  by_cases e : j = acc.length
  · subst e
    simp [upd, List.getD_eq_getElem?_getD]
  · simp at hj
    rw [upd, if_neg e, h3 j (by omega)]
    simp [List.getD_eq_getElem?_getD, List.getElem?_append_left (show j < acc.length by omega)]
theorem lfQ_bad {Y0 Y : wd_Y} {C : wd_C} {og : Nat → Int64} {nv u : Nat} {V : VT} {kd : Int32} {acc : List Int32} (h : lfD Y0 Y nv u V kd acc) (c : Int32) (p : Nat) : lfQ Y0 C og nv u V (.inl (c, p)) (some (.int 0)) (wd C (upd (upd Y.1 7 c) 8 (nI p), Y.2) og) := by
  obtain ⟨h1, h2, h3, h4, h5, h6, h7⟩ := h
  exact ⟨rfl, _, rfl, rfl, rfl, h7, h4, h5, nv + 1, _, by omega, h1, vbe_leaf _ _ _ _ _⟩
theorem lfQ_odd {Y0 Y : wd_Y} {C : wd_C} {og : Nat → Int64} {nv u : Nat} {V : VT} {kd : Int32} {acc : List Int32} (h : lfD Y0 Y nv u V kd acc) {k : Nat} (hk : Y.1 6 = nI k) (hu : u + acc.length ≤ 2000) (bit : Int32) : lfQ Y0 C og nv u V (.inr (kd, 0, acc, k, bit)) (some (.int 1)) (wd C (yKeep (upd Y.1 9 (Y.1 9 ||| bit), Y.2) nv u acc.length) og) := by
  obtain ⟨h1, h2, h3, h4, h5, h6, h7⟩ := h
  have h8 := vsY_keep (Y := (upd Y.1 9 (Y.1 9 ||| bit), Y.2)) h1 (v := nv) (by omega) (bs := acc) h3 hu
  refine ⟨rfl, _, rfl, hk, h6, by show Y.1 9 ||| bit = _; rw [h7], ⟨h4.1, h4.2.1, fun w hw => ?_⟩, h5, ?_⟩
  · rw [← h4.2.2 w hw]
    have : w ≠ nv := by omega
    simp [yKeep, upd, this]
  · have e : (((vtLeaf V nv kd 0 []).1, (vtLeaf V nv kd 0 []).2.1, (vtLeaf V nv kd 0 []).2.2.1, va_up (vtLeaf V nv kd 0 []).2.2.2 nv acc) : VT) = vtLeaf V nv kd 0 acc := by
      unfold vtLeaf
      simp only [up_up]
    rw [e] at h8
    exact h8
theorem upd_self (f : Nat → Int32) (k : Nat) : upd f k (f k) = f := by
  funext j
  unfold upd
  split
  · rename_i h
    rw [h]
  · rfl
theorem lfQ_ok {Y0 Y : wd_Y} {C : wd_C} {og : Nat → Int64} {nv u : Nat} {V : VT} {kd : Int32} {acc : List Int32} (h : lfD Y0 Y nv u V kd acc) {k : Nat} (hk : Y.1 6 = nI k) (hu : u + acc.length ≤ 2000) : lfQ Y0 C og nv u V (.inr (kd, 0, acc, k, 0)) (some (.int 1)) (wd C (yKeep Y nv u acc.length) og) := by
  have := lfQ_odd (C := C) (og := og) h hk hu 0
  rw [Int32.or_zero, upd_self] at this
  exact this
theorem hexV_neg {c : Int32} (h : hexV c < 0) : hexV c = -1 := by
  rcases hexV_rng c with e | ⟨x, x1, x2⟩
  · exact e
  · rw [x2] at h
    exact absurd h (nI_pos (by omega))
theorem hexV_pos {c : Int32} (h : ¬ hexV c < 0) : ¬ hexV c = -1 := fun e => h (by rw [e]; decide)
theorem isH_neg {x : Int32} (hh : isH x) (h : x < 0) : x = -1 := by
  rcases hh with e | ⟨y, y1, y2⟩
  · exact e
  · rw [y2] at h
    exact absurd h (nI_pos (by omega))
theorem isH_pos {x : Int32} (h : ¬ x < 0) : ¬ x = -1 := fun e => h (by rw [e]; decide)
theorem wEnd_iff {n : Nat} {b : Nat → Int32} (hb : ∀ k, n ≤ k → b k = -1) {p k : Nat} (hp : p ≤ n) (hk : p ≤ k) (hke : k ≤ wEnd n b p) : isReg (b k) = true ↔ k < wEnd n b p := by
  constructor
  · intro h
    rcases Nat.lt_or_ge k (wEnd n b p) with g | g
    · exact g
    · rw [show k = wEnd n b p by omega, wEnd_at hb hp] at h
      cases h
  · intro h
    exact bwd_in b (n - p) p k hk h
theorem tpY_B {Y : wd_Y} {n : Nat} {b : Nat → Int32} (h : tpY Y n b) {k : Nat} (hk : k < n) : isB (b k) := h.2.2.2.2 k hk
