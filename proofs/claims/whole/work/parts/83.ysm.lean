/-! the reference's stream: its state -/
def smE (Y0 Y : wd_Y) (nv u : Nat) (V : VT) (no : Int32) : Prop := vsY Y (nv + 1) u (vtLeaf V nv 9 0 []) ∧ fY Y0 Y nv ∧ lY Y0 Y ∧ Y.1 7 = 0 ∧ Y.1 9 = no
theorem tpL_get {b : Nat → Int32} {f : Nat} : ∀ {m j : Nat}, j < m → (tpL b f m).getD j 0 = b (f + j)
  | 0, j, h => absurd h (Nat.not_lt_zero _)
  | m + 1, j, h => by
    rw [tpL, List.getD_eq_getElem?_getD]
    by_cases e : j = m
    · subst e
      rw [List.getElem?_append_right (by rw [tpL_len]; omega), tpL_len]
      simp
    · rw [List.getElem?_append_left (by rw [tpL_len]; omega), ← List.getD_eq_getElem?_getD]
      exact tpL_get (by omega)
theorem vok_leaf {nv : Nat} {V : VT} (h : vok nv V) (k : Int32) (x : Int64) (bs : List Int32) : vok (nv + 1) (vtLeaf V nv k x bs) := by
  have hk : ∀ w, w < nv + 1 → ∀ c, c ∈ (vtLeaf V nv k x bs).2.2.1 w → w < nv ∧ c ∈ V.2.2.1 w := fun w hw c hc => by
    by_cases e : w = nv
    · subst e
      rw [vtLeaf_ks] at hc
      simp at hc
    · have : (vtLeaf V nv k x bs).2.2.1 w = V.2.2.1 w := by simp [vtLeaf, va_up, e]
      rw [this] at hc
      exact ⟨by omega, hc⟩
  refine ⟨fun v hv => ⟨fun c hc => ?_, ?_⟩, fun v v' c hv hv' hc hc' => ?_⟩
  · obtain ⟨h1, h2⟩ := hk v hv c hc
    have := (h.1 v h1).1 c h2
    omega
  · by_cases e : v = nv
    · subst e
      rw [vtLeaf_ks]
      simp
    · have : (vtLeaf V nv k x bs).2.2.1 v = V.2.2.1 v := by simp [vtLeaf, va_up, e]
      rw [this]
      exact (h.1 v (by omega)).2
  · obtain ⟨h1, h2⟩ := hk v hv c hc
    obtain ⟨h3, h4⟩ := hk v' hv' c hc'
    exact h.2 v v' c h1 h3 h2 h4
/-- a stream's answer on the reference's side -/
def syQ (Y0 : wd_Y) (C : wd_C) (og : Nat → Int64) (n : Nat) (b : Nat → Int32) (nv u : Nat) (V : VT) (no : Int32) (dc : Nat) : StL → Option Value → am_W → Prop
  | .inl (c, p, bit), vr, w' => vr = some (.int (-1)) ∧ ∃ Y' : wd_Y, w' = wd C Y' og ∧ Y'.1 7 = c ∧ Y'.1 8 = nI p ∧ Y'.1 9 = no ||| bit ∧ fY Y0 Y' nv ∧ ∃ nv' V', nv ≤ nv' ∧ vsY Y' nv' u V' ∧ vbe nv V V'
  | .inr (bs, e, bit), vr, w' => vr = some (.int (nI nv)) ∧ ∃ Y' : wd_Y, w' = wd C Y' og ∧ ryI Y' n b e (nv + 1) (u + bs.length) (vtS V nv dc bs) (no ||| bit) ∧ fY Y0 Y' nv
theorem syQ_bad {Y0 Y : wd_Y} {C : wd_C} {og : Nat → Int64} {n : Nat} {b : Nat → Int32} {nv u : Nat} {V : VT} {no bit : Int32} {dc : Nat} (h : smE Y0 Y nv u V (no ||| bit)) (c : Int32) (p : Nat) : syQ Y0 C og n b nv u V no dc (.inl (c, p, bit)) (some (.int (-1))) (wd C (upd (upd Y.1 7 c) 8 (nI p), Y.2) og) := by
  obtain ⟨h1, h2, h3, h4, h5⟩ := h
  exact ⟨rfl, _, rfl, rfl, rfl, h5, h2, nv + 1, _, by omega, h1, vbe_leaf _ _ _ _ _⟩
theorem syQ_ok {Y0 Y : wd_Y} {n : Nat} {b : Nat → Int32} {nv u : Nat} {V : VT} {no2 : Int32} {f len : Nat} (hT0 : tpY Y0 n b) (hok : vok nv V) (h : smE Y0 Y nv u V no2) (hs : ∀ j, j < len → Y.2.1 10 j = b (f + j)) (hu : u + len ≤ 2000) {dc : Nat} (hdc : dc < nv) (hfr : fre nv V dc) (e : Nat) : ryI (upd (yApp (yKeep Y nv u len) nv dc none).1 6 (nI e), (yApp (yKeep Y nv u len) nv dc none).2) n b e (nv + 1) (u + len) (vtS V nv dc (tpL b f len)) no2 ∧ fY Y0 (upd (yApp (yKeep Y nv u len) nv dc none).1 6 (nI e), (yApp (yKeep Y nv u len) nv dc none).2) nv := by
  obtain ⟨h1, h2, h3, h4, h5⟩ := h
  have k1 := vsY_keep h1 (v := nv) (by omega) (bs := tpL b f len) (fun j hj => by rw [tpL_len] at hj; rw [tpL_get hj]; exact hs j hj) (by rw [tpL_len]; exact hu)
  rw [tpL_len] at k1
  have e1 : (((vtLeaf V nv 9 0 []).1, (vtLeaf V nv 9 0 []).2.1, (vtLeaf V nv 9 0 []).2.2.1, va_up (vtLeaf V nv 9 0 []).2.2.2 nv (tpL b f len)) : VT) = vtLeaf V nv 9 0 (tpL b f len) := by
    unfold vtLeaf
    simp only [up_up]
  rw [e1] at k1
  have hfr2 : ∀ w, w < nv + 1 → dc ∉ (vtLeaf V nv 9 0 (tpL b f len)).2.2.1 w := fun w hw hm => by
    by_cases ew : w = nv
    · subst ew
      rw [vtLeaf_ks] at hm
      simp at hm
    · have : (vtLeaf V nv 9 0 (tpL b f len)).2.2.1 w = V.2.2.1 w := by simp [vtLeaf, va_up, ew]
      rw [this] at hm
      exact hfr w (by omega) hm
  have k2 := vsY_part k1 (vok_leaf hok 9 0 _) (v := nv) (p := dc) (by omega) hfr2
  rw [vtLeaf_ks] at k2
  have e2 : vtPart (vtLeaf V nv 9 0 (tpL b f len)) nv dc = vtS V nv dc (tpL b f len) := by
    unfold vtPart vtLeaf vtS
    simp only [up_up, up_at, List.nil_append]
  rw [e2] at k2
  have hf : fY Y0 (upd (yApp (yKeep Y nv u len) nv dc none).1 6 (nI e), (yApp (yKeep Y nv u len) nv dc none).2) nv := by
    refine ⟨h2.1, h2.2.1, fun w hw => ?_⟩
    rw [← h2.2.2 w hw]
    have : w ≠ nv := by omega
    simp [yApp, yKeep, upd, this]
  exact ⟨⟨tpY_f hT0 hf, rfl, h4, h5, k2⟩, hf⟩
