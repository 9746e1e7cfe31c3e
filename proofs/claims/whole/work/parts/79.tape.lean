/-! THE TAPE READ: objects and stray bytes, as a least relation. TS: at, objects, rows, values, bytes, the values, stray -/
abbrev TS : Type := Nat × Nat × (Nat → Nat → Int32) × Nat × Nat × VT × Nat
def obA (b : Nat → Int32) (n k : Nat) : Int32 := nI (fgV b k (wEnd n b k - k))
def obG (b : Nat → Int32) (n k : Nat) : Int32 := nI (fgV b (skW n b (wEnd n b k)) (wEnd n b (skW n b (wEnd n b k)) - skW n b (wEnd n b k)))
def nxS (n : Nat) (b : Nat → Int32) (k noo : Nat) (E : Nat → Nat → Int32) (nv u : Nat) (V : VT) (sy : Nat) (r3 : RR) : TS := match r3 with
  | .inl (_, p, _) => (skW n b (neE b (n - p) p), noo + 1, va_up E noo (rowR n b (obA b n k) (obG b n k) k r3), nv, u, V, sy)
  | .inr (_, k', nv', u', V', _) => (skW n b k', noo + 1, va_up E noo (rowR n b (obA b n k) (obG b n k) k r3), nv', u', V', sy)
section T79
variable (n : Nat) (b : Nat → Int32) (P : TS → TS → Prop)
def Tp0 : Prop := ∀ k noo E nv u V sy, n ≤ k → P (k, noo, E, nv, u, V, sy) (k, noo, E, nv, u, V, sy)
def Tp1 : Prop := ∀ k noo E nv u V sy s', k < n → (noo < 20 → prW n b st_0 k = none) → P (skW n b (k + 1), noo, E, nv, u, V, sy + 1) s' → P (k, noo, E, nv, u, V, sy) s'
def Tp2 : Prop := ∀ k noo E nv u V sy s' t r, k < n → noo < 20 → prW n b st_0 k = some t → t + 3 ≤ n → k < t → gd n nv u (t + 3) V → obI nv noo E → Rd n b none 0 (t + 3, nv, u, V, 0) r → rdFx n nv u V r → P (nxS n b k noo E nv u V sy (fin2 n b (fin1 n b E noo r))) s' → P (k, noo, E, nv, u, V, sy) s'
def TpC : Prop := Tp0 n P ∧ Tp1 n b P ∧ Tp2 n b P
end T79
def Tp (n : Nat) (b : Nat → Int32) (s s' : TS) : Prop := ∀ P, TpC n b P → P s s'
section T79b
variable {n : Nat} {b : Nat → Int32}
theorem Tp_0 : Tp0 n (Tp n b) := fun k noo E nv u V sy h P hP => hP.1 k noo E nv u V sy h
theorem Tp_1 : Tp1 n b (Tp n b) := fun k noo E nv u V sy s' h1 h2 h3 P hP => hP.2.1 k noo E nv u V sy s' h1 h2 (h3 P hP)
theorem Tp_2 : Tp2 n b (Tp n b) := fun k noo E nv u V sy s' t r h1 h2 h3 h4 h5 h6 h7 h8 h9 h10 P hP => hP.2.2 k noo E nv u V sy s' t r h1 h2 h3 h4 h5 h6 h7 h8 h9 (h10 P hP)
end T79b
/-- the component's state between objects -/
def bsC (C : wd_C) (n : Nat) (b : Nat → Int32) (s : TS) : Prop := tpC C n b ∧ C.1 4 = nI s.1 ∧ s.1 ≤ n ∧ obC C s.2.1 s.2.2.1 ∧ obI s.2.2.2.1 s.2.1 s.2.2.1 ∧ vsC C s.2.2.2.1 s.2.2.2.2.1 s.2.2.2.2.2.1 ∧ s.2.2.2.2.1 ≤ s.1 ∧ C.1 8 = nI s.2.2.2.2.2.2 ∧ s.2.2.2.2.2.2 ≤ s.1 ∧ ∃ ht, hG s.2.2.2.1 s.2.2.2.2.2.1 ht
/-- the writer's part is left alone -/
def wrC (C C' : wd_C) : Prop := C'.1 11 = C.1 11 ∧ C'.1 12 = C.1 12 ∧ C'.1 13 = C.1 13 ∧ C'.1 14 = C.1 14 ∧ C'.1 15 = C.1 15 ∧ C'.2.1 11 = C.2.1 11
theorem wrC_tr {C C1 C2 : wd_C} (h : wrC C C1) (h2 : wrC C1 C2) : wrC C C2 := ⟨h2.1.trans h.1, h2.2.1.trans h.2.1, h2.2.2.1.trans h.2.2.1, h2.2.2.2.1.trans h.2.2.2.1, h2.2.2.2.2.1.trans h.2.2.2.2.1, h2.2.2.2.2.2.trans h.2.2.2.2.2⟩
theorem obI_V {nv no : Nat} {E : Nat → Nat → Int32} (h : obI nv no E) : obV nv no E := fun i hi => by
  rcases (h i hi).1 with z | ⟨w, w1, w2, -⟩
  · exact Or.inl z.1
  · exact Or.inr ⟨w, w1, w2⟩
theorem obI_row {nv nv' noo : Nat} {E : Nat → Nat → Int32} (h : obI nv noo E) (hn : nv ≤ nv') {a g v c p no k0 k1 : Int32} (hv : (v = -1 ∧ ¬ c = 0) ∨ ∃ w, w < nv' ∧ v = nI w ∧ c = 0) (ha : ∃ x, x < 1000000000 ∧ a = nI x) (hg : ∃ x, x < 1000000000 ∧ g = nI x) : obI nv' (noo + 1) (va_up E noo (rw8 a g v c p no k0 k1)) := by
  intro i hi
  by_cases e : i = noo
  · subst e
    rw [up_at]
    exact ⟨hv, ha, hg⟩
  · have e2 : va_up E noo (rw8 a g v c p no k0 k1) i = E i := by simp [va_up, e]
    rw [e2]
    obtain ⟨h1, h2, h3⟩ := h i (by omega)
    refine ⟨h1.imp_right (fun ⟨w, w1, w2⟩ => ⟨w, by omega, w2⟩), h2, h3⟩
/-- one object more, on the component's side -/
theorem bsC_obj {C C' : wd_C} {n : Nat} {b : Nat → Int32} {k noo : Nat} {E : Nat → Nat → Int32} {nv u : Nat} {V : VT} {sy : Nat} (hB : bsC C n b (k, noo, E, nv, u, V, sy)) (hno : noo < 20) {kh : Nat} (hkh : k < kh) {ht : Nat → Nat} (hg : hG nv V ht) {r3 : RR} (hF : obF C C' n b nv u V noo E (obA b n k) (obG b n k) k kh r3) (hA : ∃ x, x < 1000000000 ∧ obA b n k = nI x) (hG' : ∃ x, x < 1000000000 ∧ obG b n k = nI x) : ∃ k1, C'.1 4 = nI k1 ∧ k < k1 ∧ k1 ≤ n ∧ bsC (upd C'.1 4 (nI (skW n b k1)), C'.2) n b (nxS n b k noo E nv u V sy r3) ∧ (nxS n b k noo E nv u V sy r3).1 = skW n b k1 ∧ wrC C C' := by
  obtain ⟨c1, c2, c3, c4, c5, c6, c7, c8, c9, c10⟩ := hB
  obtain ⟨f1, ⟨w1, w2, w3, w4, w5, w6, w7⟩, f3, f4⟩ := hF
  have hb := f1.2.2.2
  rcases r3 with ⟨c, p, no⟩ | ⟨y, k', nv', u', V', no⟩
  · obtain ⟨g1, g2, g3, g4, g5⟩ := f4
    have hne := neE_bd hb (n - p) p (by omega)
    have hsk := skW_le n b hne.2
    refine ⟨neE b (n - p) p, g1, by omega, hne.2, ⟨f1, rfl, hsk.2, f3, obI_row c5 (Nat.le_refl _) (Or.inl ⟨rfl, g2⟩) hA hG', g5, ?_, w1.trans c8, ?_, ht, hg⟩, rfl, ⟨w2, w3, w4, w5, w6, w7⟩⟩
    · show u ≤ skW n b (neE b (n - p) p)
      have h9 : u ≤ k := c7
      omega
    · show sy ≤ skW n b (neE b (n - p) p)
      have h9 : sy ≤ k := c9
      omega
  · obtain ⟨g1, g2, g3, g4, g5, g6, g7, g8, ht', g9⟩ := f4
    have hsk := skW_le n b g4
    refine ⟨k', g1, by omega, g4, ⟨f1, rfl, hsk.2, f3, obI_row c5 g7 (Or.inr ⟨y, g6, rfl, rfl⟩) hA hG', g2, ?_, w1.trans c8, ?_, ht', g9⟩, rfl, ⟨w2, w3, w4, w5, w6, w7⟩⟩
    · show u' ≤ skW n b k'
      omega
    · show sy ≤ skW n b k'
      have h9 : sy ≤ k := c9
      omega
