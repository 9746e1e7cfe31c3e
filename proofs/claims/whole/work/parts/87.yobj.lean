/-! the reference reads a value at the beginning of an object; rows -/
def rvQ (Y : wd_Y) (C : wd_C) (og : Nat → Int64) (n : Nat) (b : Nat → Int32) (nv : Nat) (V : VT) : RR → Option Value → am_W → Prop
  | .inl (c, p, no'), vr, w' => vr = some (.int (-1)) ∧ ∃ Y' : wd_Y, w' = wd C Y' og ∧ Y'.1 7 = c ∧ Y'.1 8 = nI p ∧ Y'.1 9 = no' ∧ fY Y Y' nv ∧ ∃ nv' u' V', nv ≤ nv' ∧ vsY Y' nv' u' V' ∧ vbe nv V V'
  | .inr (x, k', nv', u', V', no'), vr, w' => vr = some (.int (nI x)) ∧ ∃ Y' : wd_Y, w' = wd C Y' og ∧ ryI Y' n b k' nv' u' V' no' ∧ fY Y Y' nv ∧ vbe nv V V'
section C87
variable {l : Launch} {D : va_G} {cA : Nat → ClassId} {ad : Nat → Nat} {fm : Value}
theorem rv_all (d : Nat) (C : wd_C) (Y : wd_Y) (og : Nat → Int64) (n : Nat) (b : Nat → Int32) (k nv u : Nat) (V : VT) (no : Int32) (hI : ryI Y n b k nv u V no) (hk : k ≤ n) (hu : u ≤ k) (r : RR) (hR : Rd n b none 0 (k, nv, u, V, no) r) (hfx : rdFx n nv u V r) (hd : Y.1 12 = nI 0) : am_Rn l D cA ad fm (d + 7) m_M_readValue 38 (rvQ Y C og n b nv V r) (9, [some (.ref 19), some (.int (-1)), some (.int 0)], [], wd C Y og) := by
  refine (hR (ryP l D cA ad fm d n nv b C og) ry_all) Y _ (-1) k hk hu rfl hI (Nat.le_refl _) hd (by omega) (Or.inl rfl) ?_
  rcases r with ⟨c, p, no'⟩ | ⟨x, k', nv', u', V', no'⟩
  · intro Y' h7 h8 h9 hfy hx
    refine rv_fault d C Y' og _ (by rw [h7]; exact hfx) ⟨rfl, Y', rfl, h7, h8, h9, hfy, ?_⟩
    obtain ⟨nv', u', V', g1, g2, g3⟩ := hx
    exact ⟨nv', u', V', g1, g2, g3⟩
  · intro Y' v1 hI' hfy hsf hvb
    exact rv_done d C Y' og _ v1 nv' u' V' hI'.2.2.2.2 x hfx.2.1 hsf.1 hI'.2.2.1 ⟨rfl, Y', rfl, hI', hfy, hvb⟩
end C87
theorem ob_rowY {A : Nat → Int32} {E : Nat → Nat → Int32} {noo : Nat} {a g v c p no k0 k1 : Int32} (h : ∀ i, i < noo → ∀ j, j < 8 → A (8 * i + j) = E i j) (h0 : A (8 * noo) = a) (h1 : A (8 * noo + 1) = g) (h2 : A (8 * noo + 2) = v) (h3 : A (8 * noo + 3) = c) (h4 : A (8 * noo + 4) = p) (h5 : A (8 * noo + 5) = no) (h6 : A (8 * noo + 6) = k0) (h7 : A (8 * noo + 7) = k1) : ∀ i, i < noo + 1 → ∀ j, j < 8 → A (8 * i + j) = va_up E noo (rw8 a g v c p no k0 k1) i j := by
  intro i hi j hj
  by_cases e : i = noo
  · subst e
    rw [up_at]
    have : j = 0 ∨ j = 1 ∨ j = 2 ∨ j = 3 ∨ j = 4 ∨ j = 5 ∨ j = 6 ∨ j = 7 := by omega
    rcases this with e | e | e | e | e | e | e | e <;> subst e
    · exact h0
    · exact h1
    · exact h2
    · exact h3
    · exact h4
    · exact h5
    · exact h6
    · exact h7
  · rw [h i (by omega) j hj]
    simp [va_up, e]
/-- what an object leaves alone on the reference's side -/
def wrY (Y Y' : wd_Y) : Prop := Y'.1 13 = Y.1 13 ∧ Y'.1 14 = Y.1 14 ∧ Y'.1 15 = Y.1 15 ∧ Y'.1 16 = Y.1 16 ∧ Y'.2.1 13 = Y.2.1 13 ∧ Y'.2.1 14 = Y.2.1 14 ∧ Y'.2.1 15 = Y.2.1 15
theorem wrY_tr {Y Y1 Y2 : wd_Y} (h : wrY Y Y1) (h2 : wrY Y1 Y2) : wrY Y Y2 := ⟨h2.1.trans h.1, h2.2.1.trans h.2.1, h2.2.2.1.trans h.2.2.1, h2.2.2.2.1.trans h.2.2.2.1, h2.2.2.2.2.1.trans h.2.2.2.2.1, h2.2.2.2.2.2.1.trans h.2.2.2.2.2.1, h2.2.2.2.2.2.2.trans h.2.2.2.2.2.2⟩
theorem wrY_f {Y Y' : wd_Y} {nv : Nat} (h : fY Y Y' nv) : wrY Y Y' := ⟨h.1.2.2.2.2.1, h.1.2.2.2.2.2.1, h.1.2.2.2.2.2.2.1, h.1.2.2.2.2.2.2.2, h.2.1.2.2.1, h.2.1.2.2.2.1, h.2.1.2.2.2.2⟩
def obGY (Y Y' : wd_Y) (n : Nat) (b : Nat → Int32) (nv u : Nat) (V : VT) (noo : Nat) (E : Nat → Nat → Int32) (k : Nat) (r3 : RR) : Prop := tpY Y' n b ∧ Y'.1 3 = Y.1 3 ∧ Y'.1 0 = Y.1 0 ∧ wrY Y Y' ∧ obY Y' (noo + 1) (va_up E noo (rowR n b (obA b n k) (obG b n k) k r3)) ∧ match r3 with
  | .inl (_, p, _) => Y'.1 6 = nI (neE b (n - p) p) ∧ vsY Y' nv u V
  | .inr (_, k', nv', u', V', _) => Y'.1 6 = nI k' ∧ vsY Y' nv' u' V'
/-- the reference's state between objects -/
def bsY (Y : wd_Y) (n : Nat) (b : Nat → Int32) (s : TS) : Prop := tpY Y n b ∧ Y.1 6 = nI s.1 ∧ obY Y s.2.1 s.2.2.1 ∧ vsY Y s.2.2.2.1 s.2.2.2.2.1 s.2.2.2.2.2.1 ∧ Y.1 3 = nI s.2.2.2.2.2.2
