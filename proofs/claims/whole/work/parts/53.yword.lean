/-! the ends of the reference's way through a word -/
section Q53
variable {Y Y' : wd_Y} {C : wd_C} {og : Nat → Int64} {nv u : Nat} {V : VT}
theorem lfQ_x1 {c : Int32} {p : Nat} (hY : vsY Y nv u V) (h1 : ∀ j, j ≠ 7 → j ≠ 8 → j ≠ 9 → j ≠ 11 → Y'.1 j = Y.1 j) (h7 : Y'.1 7 = c) (h8 : Y'.1 8 = nI p) (h9 : Y'.1 9 = Y.1 9) (h2 : Y'.2.1 = Y.2.1) (h3 : Y'.2.2.1 = Y.2.2.1) : lfQ Y C og nv u V (.inl (c, p)) (some (.int 0)) (wd C Y' og) := by
  have k : ∀ j, j ≠ 7 ∧ j ≠ 8 ∧ j ≠ 9 ∧ j ≠ 11 → Y'.1 j = Y.1 j := fun j h => h1 j h.1 h.2.1 h.2.2.1 h.2.2.2
  refine ⟨rfl, _, rfl, h7, h8, h9, ⟨⟨k 0 (by decide), k 1 (by decide), k 2 (by decide), k 3 (by decide), k 13 (by decide), k 14 (by decide), k 15 (by decide), k 16 (by decide)⟩, ⟨by rw [h2], by rw [h2], by rw [h2], by rw [h2], by rw [h2]⟩, fun w _ => by rw [h2]⟩, ⟨k 12 (by decide), by rw [h2], by rw [h2]⟩, nv, V, Nat.le_refl _, ?_, vbe_rf _ _⟩
  obtain ⟨⟨a1, a2, a3, a4⟩, hr⟩ := hY
  refine ⟨⟨(k 4 (by decide)).trans a1, a2, (k 5 (by decide)).trans a3, a4⟩, fun w hw => ?_⟩
  have := hr w hw
  unfold yrw ybt at this ⊢
  rw [h2, h3]
  exact this
theorem yNew_1 (kd0 : Int32) (j : Nat) (hj : j ≠ 4) : (yNew Y nv u kd0).1 j = Y.1 j := by simp [yNew, upd, hj]
theorem yNew_2 (kd0 : Int32) (j : Nat) (hj : ¬ (2 ≤ j ∧ j ≤ 8)) : (yNew Y nv u kd0).2.1 j = Y.2.1 j := by
  have e : j ≠ 2 ∧ j ≠ 3 ∧ j ≠ 4 ∧ j ≠ 5 ∧ j ≠ 6 ∧ j ≠ 7 ∧ j ≠ 8 := by omega
  simp [yNew, e]
theorem lfQ_x3 (hY : vsY Y nv u V) (ho : vok nv V) (hn : nv < 300) (kd0 : Int32) {kd : Int32} {x : Int64} {k : Nat} {bit : Int32} (h1 : ∀ j, j ≠ 6 → j ≠ 9 → j ≠ 11 → Y'.1 j = (yNew Y nv u kd0).1 j) (h6 : Y'.1 6 = nI k) (h9 : Y'.1 9 = Y.1 9 ||| bit) (ha : ∀ j, j ≠ 2 → Y'.2.1 j = (yNew Y nv u kd0).2.1 j) (hK : ∀ w, w ≠ nv → Y'.2.1 2 w = (yNew Y nv u kd0).2.1 2 w) (hKv : Y'.2.1 2 nv = kd) (hX : ∀ w, w ≠ nv → Y'.2.2.1 w = (yNew Y nv u kd0).2.2.1 w) (hXv : Y'.2.2.1 nv = x) : lfQ Y C og nv u V (.inr (kd, x, [], k, bit)) (some (.int 1)) (wd C Y' og) := by
  have q : ∀ j, j ≠ 6 ∧ j ≠ 9 ∧ j ≠ 11 ∧ j ≠ 4 → Y'.1 j = Y.1 j := fun j h => (h1 j h.1 h.2.1 h.2.2.1).trans (yNew_1 kd0 j h.2.2.2)
  have qa : ∀ j, ¬ (2 ≤ j ∧ j ≤ 8) → Y'.2.1 j = Y.2.1 j := fun j h => (ha j (by omega)).trans (yNew_2 kd0 j h)
  refine ⟨rfl, _, rfl, h6, q 7 (by decide), h9, ⟨⟨q 0 (by decide), q 1 (by decide), q 2 (by decide), q 3 (by decide), q 13 (by decide), q 14 (by decide), q 15 (by decide), q 16 (by decide)⟩, ⟨qa 0 (by omega), qa 1 (by omega), qa 13 (by omega), qa 14 (by omega), qa 15 (by omega)⟩, fun w hw => ?_⟩, ⟨q 12 (by decide), qa 11 (by omega), qa 12 (by omega)⟩, ?_⟩
  · rw [ha 7 (by omega)]
    have : w ≠ nv := by omega
    simp [yNew, upd, this]
  · have h := vsY_new hY ho hn kd0
    have e : vtLeaf V nv kd x [] = vtKind (vtKind (vtNew V nv) nv kd0 0) nv kd x := by
      rw [vtLeaf_new, vtLeaf_kind, vtLeaf_kind]
    rw [e]
    obtain ⟨⟨a1, a2, a3, a4⟩, hr⟩ := h
    refine ⟨⟨(h1 4 (by decide) (by decide) (by decide)).trans a1, a2, (h1 5 (by decide) (by decide) (by decide)).trans a3, a4⟩, fun w hw => ?_⟩
    obtain ⟨r1, r2, r3, r4, r5, r6⟩ := hr w hw
    unfold ybt at r4
    refine ⟨?_, ?_, ?_, ?_, ?_, ?_⟩
    · by_cases ew : w = nv
      · rw [ew, hKv]; simp [vtKind, upd]
      · rw [hK w ew, r1]; simp [vtKind, upd, ew]
    · by_cases ew : w = nv
      · rw [ew, hXv]; simp [vtKind, vp_updL]
      · rw [hX w ew, r2]; simp [vtKind, vp_updL, ew]
    · rw [ha 6 (by omega)]; exact r3
    · unfold ybt
      rw [ha 7 (by omega), ha 8 (by omega), ha 9 (by omega)]; exact r4
    · rw [ha 5 (by omega), ha 3 (by omega)]; exact r5
    · rw [ha 4 (by omega)]; exact r6
theorem lfQ_x2 {c : Int32} {p : Nat} (hY : vsY Y nv u V) (ho : vok nv V) (hn : nv < 300) (kd0 : Int32) (h1 : ∀ j, j ≠ 7 → j ≠ 8 → j ≠ 9 → j ≠ 11 → Y'.1 j = (yNew Y nv u kd0).1 j) (h7 : Y'.1 7 = c) (h8 : Y'.1 8 = nI p) (h9 : Y'.1 9 = Y.1 9) (h2 : Y'.2.1 = (yNew Y nv u kd0).2.1) (h3 : Y'.2.2.1 = (yNew Y nv u kd0).2.2.1) : lfQ Y C og nv u V (.inl (c, p)) (some (.int 0)) (wd C Y' og) := by
  have k : ∀ j, j ≠ 7 ∧ j ≠ 8 ∧ j ≠ 9 ∧ j ≠ 11 ∧ j ≠ 4 → Y'.1 j = Y.1 j := fun j h => (h1 j h.1 h.2.1 h.2.2.1 h.2.2.2.1).trans (yNew_1 kd0 j h.2.2.2.2)
  have qa : ∀ j, ¬ (2 ≤ j ∧ j ≤ 8) → Y'.2.1 j = Y.2.1 j := fun j h => by rw [h2]; exact yNew_2 kd0 j h
  have h := vsY_new hY ho hn kd0
  refine ⟨rfl, _, rfl, h7, h8, h9, ⟨⟨k 0 (by decide), k 1 (by decide), k 2 (by decide), k 3 (by decide), k 13 (by decide), k 14 (by decide), k 15 (by decide), k 16 (by decide)⟩, ⟨qa 0 (by omega), qa 1 (by omega), qa 13 (by omega), qa 14 (by omega), qa 15 (by omega)⟩, fun w hw => ?_⟩, ⟨k 12 (by decide), qa 11 (by omega), qa 12 (by omega)⟩, nv + 1, vtLeaf V nv kd0 0 [], by omega, ?_, vbe_leaf _ _ _ _ _⟩
  · rw [h2]
    have : w ≠ nv := by omega
    simp [yNew, upd, this]
  · rw [vtLeaf_new, vtLeaf_kind] at h
    obtain ⟨⟨a1, a2, a3, a4⟩, hr⟩ := h
    refine ⟨⟨(h1 4 (by decide) (by decide) (by decide) (by decide)).trans a1, a2, (h1 5 (by decide) (by decide) (by decide) (by decide)).trans a3, a4⟩, fun w hw => ?_⟩
    have := hr w hw
    unfold yrw ybt at this ⊢
    rw [h2, h3]
    exact this
end Q53
