/-! a stream's value made, its bytes to come -/
theorem smC0 {C : wd_C} {nv u : Nat} {V : VT} (hS : vsC C nv u V) (h3 : nv < 300) {x : Nat} (hx : x < nv) (hf : vfr C nv V x) (s : Nat → Int32) (h1 : s 1 = nI (nv + 1)) (h2 : s 2 = nI u) : smC (s, (vPart (vKind (vAdd C nv u) nv 9 0) nv x none).2) (s, (vPart (vKind (vAdd C nv u) nv 9 0) nv x none).2) nv u V x [] := by
  have a1 := vsC_add hS h3
  have a2 := vsC_kind a1 (v := nv) (by omega) (by rw [vtLeaf_new, vtLeaf_ks]) 9 0
  rw [vtLeaf_new, vtLeaf_kind] at a2
  have hv := vfr_add hS (C' := vKind (vAdd C nv u) nv 9 0) (fun w => rfl) 9 0 []
  have a3 := vsC_part a2 (v := nv) (p := x) (by omega) (by omega) (by simp [vtLeaf, upd]) (hv.1 x hx hf) (by rw [vtLeaf_ks]; simp)
  rw [vtLeaf_ks, vtS_part] at a3
  have a4 : vsC (vPart (vKind (vAdd C nv u) nv 9 0) nv x none) (nv + 1) u (vtS V nv x []) := a3.1
  refine ⟨⟨⟨h1, a4.1.2.1, h2, a4.1.2.2.2⟩, a4.2.1, a4.2.2⟩, ⟨u, ?_, ?_⟩, fun _ _ => rfl, rfl, rfl, rfl, rfl, rfl⟩
  · simp [vPart, vChain, vKind, vAdd, wd_u, upd]
  · rw [vtS_bs]
theorem wdA7_in {n : Nat} {b : Nat → Int32} (hb : ∀ k, n ≤ k → b k = -1) {k : Nat} (h : wdA b st_7 k = true) : k + 6 ≤ n := by
  unfold wdA at h
  have h1 : txA b st_7 k = true := (Bool.and_eq_true_iff.mp h).1
  have h2 : b (k + 5) = 109 := by
    simp only [st_7, txA, Bool.and_eq_true, decide_eq_true_eq] at h1
    exact h1.2.2.2.2.2.1
  rcases Nat.lt_or_ge (k + 5) n with g | g
  · omega
  · rw [hb _ g] at h2
    exact absurd h2 (by decide)
theorem slP_le {n : Nat} {b : Nat → Int32} (hb : ∀ k, n ≤ k → b k = -1) {w : Nat} (h : w + 6 ≤ n) : w + 6 ≤ slP b w ∧ slP b w ≤ n := by
  unfold slP
  split
  · rename_i h13
    rcases Nat.lt_or_ge (w + 6) n with g | g
    · omega
    · rw [hb _ g] at h13
      exact absurd h13 (by decide)
  · omega
/-- the stream's end on the component's side -/
theorem soO_stm {C Cw C' : wd_C} {Y : wd_Y} {og : Nat → Int64} {n nv0 k nv u : Nat} {V : VT} {no no' : Int32} {b : Nat → Int32} {ht : Nat → Nat} (hI : rdI C n b nv0 ht k nv u V no) (h3 : nv < 300) {x : Nat} (hx : x < nv) (hx7 : V.1 x = 7) {bs : List Int32} {e : Nat} (hM : smC Cw C' nv u V x bs) (h4 : Cw.1 4 = nI e) (h56 : fk0 Cw) (h7 : Cw.1 7 = no') (hs : ∀ j, j = 0 ∨ j = 3 ∨ j = 8 ∨ j = 11 ∨ j = 12 ∨ j = 13 ∨ j = 14 ∨ j = 15 → Cw.1 j = C.1 j) (ha : Cw.2.1 0 = C.2.1 0 ∧ Cw.2.1 10 = C.2.1 10 ∧ Cw.2.1 11 = C.2.1 11) (hst : ∀ w, w < nv → Cw.2.1 2 w = C.2.1 2 w) (hke : k ≤ e) (hen : e ≤ n) (hue : u + bs.length ≤ e) : soO C Y og n nv0 k nv u V (.inr (nv, e, nv + 1, u + bs.length, vtS V nv x bs, no')) (some (.int (nI nv))) (wd C' Y og) := by
  obtain ⟨m1, m2, m3, m4⟩ := hM
  obtain ⟨i1, i2, i3, i4, i5, i6, i7, i8, i9⟩ := hI
  have q : ∀ j, j ≠ 2 → (j = 0 ∨ j = 3 ∨ j = 8 ∨ j = 11 ∨ j = 12 ∨ j = 13 ∨ j = 14 ∨ j = 15) → C'.1 j = C.1 j := fun j h1 h2 => (m3 j h1).trans (hs j h2)
  refine ⟨rfl, C', rfl, (m3 4 (by decide)).trans h4, ⟨(m3 5 (by decide)).trans h56.1, (m3 6 (by decide)).trans h56.2⟩, (m3 7 (by decide)).trans h7, ⟨⟨q 0 (by decide) (by simp), q 3 (by decide) (by simp), q 8 (by decide) (by simp), q 11 (by decide) (by simp), q 12 (by decide) (by simp), q 13 (by decide) (by simp), q 14 (by decide) (by simp), q 15 (by decide) (by simp)⟩, ⟨m4.1.trans ha.1, m4.2.2.2.1.trans ha.2.1, m4.2.2.2.2.trans ha.2.2⟩, fun w hw => by rw [m4.2.1]; exact hst w (by omega)⟩, m1, hke, hen, by omega, by omega, hue, by omega, fun w hw => vbe_S nv V x bs w (by omega), ?_⟩
  rcases hG_stm i9 (vsC_ok i5) hx hx7 bs with h | h
  · exact ⟨_, h⟩
  · exact ⟨_, h⟩
/-- a fault behind the stream's word -/
theorem soO_bad {C Cw : wd_C} {Y : wd_Y} {og : Nat → Int64} {n nv0 k nv u : Nat} {V : VT} {c no' : Int32} {p nv1 u1 : Nat} {V1 : VT} (h5 : Cw.1 5 = c) (hc : ¬ c = 0) (h6 : Cw.1 6 = nI p) (hp1 : 1 ≤ p) (hpn : p ≤ n) (h7 : Cw.1 7 = no') (hs : ∀ j, j = 0 ∨ j = 3 ∨ j = 8 ∨ j = 11 ∨ j = 12 ∨ j = 13 ∨ j = 14 ∨ j = 15 → Cw.1 j = C.1 j) (ha : Cw.2.1 0 = C.2.1 0 ∧ Cw.2.1 10 = C.2.1 10 ∧ Cw.2.1 11 = C.2.1 11) (hst : ∀ w, w < nv → Cw.2.1 2 w = C.2.1 2 w) (hn0 : nv0 ≤ nv) (hS : vsC Cw nv1 u1 V1) (hnv : nv ≤ nv1) (hu : u ≤ u1) (hb : vbe nv V V1) : soO C Y og n nv0 k nv u V (.inl (c, p, no')) (some (.int (-1))) (wd Cw Y og) := by
  refine ⟨rfl, Cw, rfl, h5, hc, h6, hp1, hpn, h7, ⟨⟨hs 0 (by simp), hs 3 (by simp), hs 8 (by simp), hs 11 (by simp), hs 12 (by simp), hs 13 (by simp), hs 14 (by simp), hs 15 (by simp)⟩, ha, fun w hw => hst w (by omega)⟩, nv1, u1, V1, hnv, hu, hS, fun w hw => hb w (by omega)⟩
