/-! the reference's stack machine: its state, its openings, and what a value comes to -/
def ryI (Y : wd_Y) (n : Nat) (b : Nat → Int32) (k nv u : Nat) (V : VT) (no : Int32) : Prop := tpY Y n b ∧ Y.1 6 = nI k ∧ Y.1 7 = 0 ∧ Y.1 9 = no ∧ vsY Y nv u V
/-- the stack below d is the same, and d deep -/
def sF (Y Y' : wd_Y) (d : Nat) : Prop := Y'.1 12 = nI d ∧ ∀ i, i < d → Y'.2.1 11 i = Y.2.1 11 i ∧ Y'.2.1 12 i = Y.2.1 12 i
/-- the top of the stack wants a value -/
def wantV (Y : wd_Y) (n : Nat) (b : Nat → Int32) (d k nv : Nat) (V : VT) : Prop := d = 0 ∨ ∃ e t, d = e + 1 ∧ t < nv ∧ Y.2.1 11 e = nI t ∧ ((V.1 t = 6 ∧ ¬ b (skW n b k) = 93) ∨ (V.1 t = 7 ∧ ∃ q, q < nv ∧ Y.2.1 12 e = nI q))
/-- one more is open -/
def yOpn (Y : wd_Y) (nv u d k : Nat) (kd : Int32) : wd_Y := (upd (upd (yNew Y nv u kd).1 12 (nI (d + 1))) 6 (nI k), wd_u (wd_u (yNew Y nv u kd).2.1 11 (upd ((yNew Y nv u kd).2.1 11) d (nI nv))) 12 (upd ((yNew Y nv u kd).2.1 12) d (-1)), (yNew Y nv u kd).2.2)
theorem vsY_ar {Y Y' : wd_Y} {nv u : Nat} {V : VT} (h : vsY Y nv u V) (h4 : Y'.1 4 = Y.1 4) (h5 : Y'.1 5 = Y.1 5) (ha : ∀ j, 2 ≤ j → j ≤ 9 → Y'.2.1 j = Y.2.1 j) (hx : Y'.2.2.1 = Y.2.2.1) : vsY Y' nv u V := by
  obtain ⟨⟨a1, a2, a3, a4⟩, hr⟩ := h
  refine ⟨⟨h4.trans a1, a2, h5.trans a3, a4⟩, fun w hw => ?_⟩
  have := hr w hw
  unfold yrw ybt at this ⊢
  rw [ha 2 (by omega) (by omega), ha 3 (by omega) (by omega), ha 4 (by omega) (by omega), ha 5 (by omega) (by omega), ha 6 (by omega) (by omega), ha 7 (by omega) (by omega), ha 8 (by omega) (by omega), ha 9 (by omega) (by omega), hx]
  exact this
theorem yOpn_I {Y : wd_Y} {n : Nat} {b : Nat → Int32} {k0 k nv u d : Nat} {V : VT} {no : Int32} (h : ryI Y n b k0 nv u V no) (ho : vok nv V) (h3 : nv < 300) (x kd : Int32) : ryI (yOpn (upd Y.1 6 x, Y.2) nv u d k kd) n b k (nv + 1) u (vtLeaf V nv kd 0 []) no ∧ (yOpn (upd Y.1 6 x, Y.2) nv u d k kd).1 12 = nI (d + 1) ∧ (yOpn (upd Y.1 6 x, Y.2) nv u d k kd).2.1 11 d = nI nv ∧ (yOpn (upd Y.1 6 x, Y.2) nv u d k kd).2.1 12 d = -1 ∧ (∀ i, i < d → (yOpn (upd Y.1 6 x, Y.2) nv u d k kd).2.1 11 i = Y.2.1 11 i ∧ (yOpn (upd Y.1 6 x, Y.2) nv u d k kd).2.1 12 i = Y.2.1 12 i) ∧ ∀ nv0, nv0 ≤ nv → fY Y (yOpn (upd Y.1 6 x, Y.2) nv u d k kd) nv0 := by
  obtain ⟨h1, h2, h3', h4, h5⟩ := h
  have hn := vsY_new (Y := (upd Y.1 6 x, Y.2)) h5 ho h3 kd
  rw [vtLeaf_new, vtLeaf_kind] at hn
  have hfy : ∀ nv0, nv0 ≤ nv → fY Y (yOpn (upd Y.1 6 x, Y.2) nv u d k kd) nv0 := fun nv0 h0 => ⟨⟨rfl, rfl, rfl, rfl, rfl, rfl, rfl, rfl⟩, ⟨rfl, rfl, rfl, rfl, rfl⟩, fun w hw => by
    have : w ≠ nv := by omega
    simp [yOpn, yNew, wd_u, upd, this]⟩
  refine ⟨⟨tpY_f h1 (hfy 0 (Nat.zero_le _)), rfl, h3', h4, vsY_ar hn rfl rfl (fun j a c => ?_) rfl⟩, rfl, ?_, ?_, fun i hi => ⟨?_, ?_⟩, hfy⟩
  · have : j ≠ 11 ∧ j ≠ 12 := by omega
    simp [yOpn, wd_u, this]
  · simp [yOpn, wd_u, upd]
  · simp [yOpn, wd_u, upd]
  · have : i ≠ d := by omega
    simp [yOpn, yNew, wd_u, upd, this]
  · have : i ≠ d := by omega
    simp [yOpn, yNew, wd_u, upd, this]
