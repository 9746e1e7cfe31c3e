/-! each call of the law, on both sides: the same answer, and what holds still holds -/
theorem rng32 {x : Int32} {hi : Nat} (hh : hi < 2 ^ 31) (h0 : 0 ≤ x) (h1 : x < nI hi) : ∃ k, k < hi ∧ x = nI k := by
  rcases i32_cases x with h | ⟨k, k1, e⟩
  · exact absurd h (Int32.not_lt.mpr h0)
  · subst e
    exact ⟨k, (nI_ltI k1 hh).mp h1, rfl⟩
theorem isV_of {nv : Nat} {x : Int32} (hn : nv ≤ 300) (h : isV nv x = true) : ∃ v, v < nv ∧ x = nI v := by
  rw [isV, Bool.and_eq_true, decide_eq_true_eq, decide_eq_true_eq] at h
  exact rng32 (by omega) h.1 h.2
def pZ (l : Launch) (D : va_G) (cA : Nat → ClassId) (ad : Nat → Nat) (fm : Value) (base : Nat) (MZ : am_M) (hh : List (Nat × Nat × Nat × Nat)) (MM : am_M) (As : List Value) (C : wd_C) (Y : wd_Y) (og : Nat → Int64) : Prop :=
  ∃ (k : Int32) (PC : wd_C → (Nat → Int64) → Prop),
    am_Mz l D cA ad fm base 40 MZ hh (.ref 0 :: (As ++ [.ref 37])) (wd C Y og) (fun vr w' => vr = some (.int k) ∧ ∃ C' og', w' = wd C' Y og' ∧ PC C' og') ∧
    ∀ C' og', PC C' og' → am_Mt l D cA ad fm 40 MM (.ref 19 :: As) (wd C' Y og') (fun vr w' => ∃ (x : Int32) (Y' : wd_Y), vr = some (.int x) ∧ w' = wd C' Y' og' ∧ Y'.1 0 = k ∧ lwV C' Y' ∧ (k = 0 → og' 0 = x.toInt64))
def pN (l : Launch) (D : va_G) (cA : Nat → ClassId) (ad : Nat → Nat) (fm : Value) (base : Nat) (MZ : am_M) (hh : List (Nat × Nat × Nat × Nat)) (MM : am_M) (As : List Value) (C : wd_C) (Y : wd_Y) (og : Nat → Int64) : Prop :=
  ∃ (k : Int32) (PC : wd_C → (Nat → Int64) → Prop),
    am_Mz l D cA ad fm base 40 MZ hh (.ref 0 :: (As ++ [.ref 37])) (wd C Y og) (fun vr w' => vr = some (.int k) ∧ ∃ C' og', w' = wd C' Y og' ∧ PC C' og') ∧
    ∀ C' og', PC C' og' → am_Mt l D cA ad fm 40 MM (.ref 19 :: As) (wd C' Y og') (fun vr w' => ∃ (x : Int64) (Y' : wd_Y), vr = some (.long x) ∧ w' = wd C' Y' og' ∧ Y'.1 0 = k ∧ lwV C' Y' ∧ (k = 0 → og' 0 = x))
def pD (l : Launch) (D : va_G) (cA : Nat → ClassId) (ad : Nat → Nat) (fm : Value) (MS : am_M) (MM : am_M) (As : List Value) (C : wd_C) (Y : wd_Y) (og : Nat → Int64) : Prop :=
  ∃ (PC : Int32 → wd_C → Prop),
    am_Mt l D cA ad fm 40 MS (.ref 0 :: As) (wd C Y og) (fun vr w' => ∃ x C', vr = some (.int x) ∧ w' = wd C' Y og ∧ PC x C') ∧
    ∀ x C', PC x C' → am_Mt l D cA ad fm 40 MM (.ref 19 :: As) (wd C' Y og) (fun vr w' => ∃ (Y' : wd_Y), vr = some (.int x) ∧ w' = wd C' Y' og ∧ lwV C' Y')
theorem og_0 {og : Nat → Int64} {x : Int64} : vp_updL og 0 x 0 = x := by simp [vp_updL]
section PRS
variable {l : Launch} {D : va_G} {cA : Nat → ClassId} {ad : Nat → Nat} {fm : Value} {base : Nat} {C : wd_C} {Y : wd_Y} {og : Nat → Int64}
theorem am_mzm {base d : Nat} {M : am_M} {hh : List (Nat × Nat × Nat × Nat)} {As : List Value} {w : am_W} {p q : Option Value → am_W → Prop} (h : ∀ vr w', p vr w' → q vr w') (hm : am_Mz l D cA ad fm base d M hh As w p) : am_Mz l D cA ad fm base d M hh As w q := by
  intro sz P e h1 h2 h3 s m args below h4 h5 h6 h7
  obtain ⟨n, o, a1, a2, a3, ⟨x, w', e1, e2, e3⟩, hL⟩ := hm sz P e h1 h2 h3 s m args below h4 h5 h6 h7
  exact ⟨n, o, a1, a2, a3, ⟨x, w', e1, h _ _ e2, e3⟩, hL⟩
/-- both throw -/
theorem pZ_x {MZ MM : am_M} {hh : List (Nat × Nat × Nat × Nat)} {As : List Value} (I : lwV C Y) (hz : am_Mz l D cA ad fm base 40 MZ hh (.ref 0 :: (As ++ [.ref 37])) (wd C Y og) (fun vr w' => vr = some (.int 1) ∧ w' = wd C Y og)) (hm : am_Mt l D cA ad fm 40 MM (.ref 19 :: As) (wd C Y og) (fun vr w' => vr = some (.int 0) ∧ w' = wd C (upd Y.1 0 1, Y.2) og)) : pZ l D cA ad fm base MZ hh MM As C Y og := by
  refine ⟨1, fun C' og' => C' = C ∧ og' = og, am_mzm (fun vr w' h => ⟨h.1, C, og, h.2, rfl, rfl⟩) hz, ?_⟩
  rintro C' og' ⟨rfl, rfl⟩
  exact am_mono (fun vr w' h => ⟨0, _, h.1, h.2, rfl, lwV_y0 I 1, fun e => absurd e (by decide)⟩) hm
/-- both answer, and nothing is changed -/
theorem pZ_p {MZ MM : am_M} {hh : List (Nat × Nat × Nat × Nat)} {As : List Value} {r : Int32} (I : lwV C Y) (hz : am_Mz l D cA ad fm base 40 MZ hh (.ref 0 :: (As ++ [.ref 37])) (wd C Y og) (fun vr w' => vr = some (.int 0) ∧ ∃ C', w' = wd C' Y (vp_updL og 0 (r.toInt64)) ∧ C' = C)) (hm : ∀ og', am_Mt l D cA ad fm 40 MM (.ref 19 :: As) (wd C Y og') (fun vr w' => vr = some (.int r) ∧ w' = wd C (upd Y.1 0 0, Y.2) og')) : pZ l D cA ad fm base MZ hh MM As C Y og := by
  refine ⟨0, fun C' og' => C' = C ∧ og' = vp_updL og 0 (r.toInt64), am_mzm (fun vr w' h => ?_) hz, ?_⟩
  · obtain ⟨h1, C', h2, h3⟩ := h
    exact ⟨h1, C', _, h2, h3, rfl⟩
  rintro C' og' ⟨rfl, rfl⟩
  exact am_mono (fun vr w' h => ⟨r, _, h.1, h.2, rfl, lwV_y0 I 0, fun _ => og_0⟩) (hm _)
theorem am_pp {MS : am_M} {As : List Value} {d : Nat} {r : Value} {C : wd_C} (hm : am_Mt l D cA ad fm d MS As (wd C Y og) (fun vr w' => vr = some r ∧ w' = wd C Y og)) : am_Mt l D cA ad fm d MS As (wd C Y og) (fun vr w' => vr = some r ∧ ∃ C', w' = wd C' Y og ∧ C' = C) := am_mono (fun _ _ h => ⟨h.1, C, h.2, rfl⟩) hm
theorem p_feed (hf : l.flags = pinnedFlags ++ [noTraceFlag]) (I : lwV C Y) (x : Int32) (B : Int64) : pZ l D cA ad fm base m_Z_feed [(0, 11, 14, 13)] m_M_feed [.int x, .long B] C Y og := by
  by_cases h : 1 ≤ x ∧ x ≤ 8
  · obtain ⟨n, b, nv, u, V, ht, no, E, sy, O, b0, I⟩ := I
    obtain ⟨kk, k1, e⟩ := i32_cases x |>.resolve_left (fun h9 => absurd (Int32.lt_of_le_of_lt h.1 h9) (by decide))
    subst e
    have hk1 : 1 ≤ kk := (nI_leI (show 1 < 2 ^ 31 by decide) k1).mp h.1
    have hk8 : kk ≤ 8 := (nI_leI k1 (show 8 < 2 ^ 31 by decide)).mp h.2
    have hTC := I.1
    have hTY := I.2.1
    refine ⟨0, fun C' og' => og' = vp_updL og 0 (if n + kk ≤ 1600 then nI (n + kk) else -1 : Int32).toInt64 ∧ tpO C C' ∧ (n + kk ≤ 1600 → tpC C' (n + kk) (fdB b n kk B)) ∧ (¬ n + kk ≤ 1600 → C' = C), am_mzm (fun vr w' h => ?_) (z_feed base 39 C Y og (nI kk) B _ _ (c_S_feed 38 C Y og n b hTC kk hk1 hk8 B)), ?_⟩
    · obtain ⟨h1, C', h2, h3⟩ := h
      exact ⟨h1, C', _, h2, rfl, h3⟩
    rintro C' og' ⟨rfl, q1, q2, q3⟩
    refine am_mono (fun vr w' h => ?_) (c_M_feed_in 40 C' Y _ n b hTY kk hk1 hk8 B)
    obtain ⟨h1, Y', h2, h3, h4, h5, h6⟩ := h
    refine ⟨_, Y', h1, h2, h3, ?_, fun _ => og_0⟩
    by_cases hs : n + kk ≤ 1600
    · obtain ⟨f1, f2, f3⟩ := h5 hs
      have t := q2 hs
      exact ⟨_, _, nv, u, V, ht, no, E, sy, O, b0, lwI_tape I q1 h4 t ⟨f1, f2, f3, t.2.2.2, fun k hk => by obtain ⟨j, j1, j2, _⟩ := t.2.2.1 k hk; exact ⟨j, j1, j2⟩⟩⟩
    · obtain ⟨f1, f2⟩ := h6 hs
      have e := q3 hs
      subst e
      exact ⟨n, b, nv, u, V, ht, no, E, sy, O, b0, lwI_tape I q1 h4 hTC ⟨f1.trans hTY.1, hTY.2.1, fun k hk => by rw [f2]; exact hTY.2.2.1 k hk, hTY.2.2.2⟩⟩
  · exact pZ_x I (zx_feed base 40 (by decide) C Y og x B (x_S_feed hf C Y og x B h)) (c_M_feed_x 40 C Y og x B h)
theorem p_object (hf : l.flags = pinnedFlags ++ [noTraceFlag]) (I : lwV C Y) (x y : Int32) : pZ l D cA ad fm base m_Z_object [(0, 10, 13, 19)] m_M_object [.int x, .int y] C Y og := by
  obtain ⟨n, b, nv, u, V, ht, no, E, sy, O, b0, J⟩ := id I
  have hO := J.2.2.2.2.2.1
  have hOY := J.2.2.2.2.2.2.1
  have hno : no ≤ 20 := hO.2.1
  by_cases h : isV no x = true ∧ 0 ≤ y ∧ y < 8
  · obtain ⟨i, hi, rfl⟩ := isV_of (by omega) h.1
    obtain ⟨j, hj, rfl⟩ := rng32 (hi := 8) (by decide) h.2.1 h.2.2
    exact pZ_p I (z_object base 39 C Y og _ _ _ _ (am_pp (c_S_object 37 C Y og no E hO i j hi hj))) (fun og' => c_M_object_in 40 C Y og' no E hOY i j hi hj)
  · exact pZ_x I (zx_object base 40 (by decide) C Y og x y (x_S_object hf C Y og no E hO x y h)) (c_M_object_x 40 C Y og no E hOY x y (fun h9 => h ⟨by rw [isV, decide_eq_true h9.1, decide_eq_true h9.2.1]; rfl, h9.2.2⟩))
theorem p_value (hf : l.flags = pinnedFlags ++ [noTraceFlag]) (I : lwV C Y) (x y : Int32) : pZ l D cA ad fm base m_Z_value [(0, 10, 13, 19)] m_M_value [.int x, .int y] C Y og := by
  obtain ⟨n, b, nv, u, V, ht, no, E, sy, O, b0, J⟩ := id I
  have hS := J.2.2.1
  have hY := J.2.2.2.1
  by_cases h : isV nv x = true ∧ 0 ≤ y ∧ y < 3
  · obtain ⟨v, hv, rfl⟩ := isV_of (lwI_nv J) h.1
    obtain ⟨j, hj, rfl⟩ := rng32 (hi := 3) (by decide) h.2.1 h.2.2
    exact pZ_p I (z_value base 39 C Y og _ _ _ _ (am_pp (c_S_value 37 C Y og nv u V hS v hv j hj))) (fun og' => c_M_value_in 39 C Y og' nv u V hY v hv j hj)
  · exact pZ_x I (zx_value base 40 (by decide) C Y og x y (x_S_value hf C Y og nv u V hS x y h)) (c_M_value_x 39 C Y og nv u V hY x y h)
theorem p_byteOf (hf : l.flags = pinnedFlags ++ [noTraceFlag]) (I : lwV C Y) (x y : Int32) : pZ l D cA ad fm base m_Z_byteOf [(0, 10, 13, 19)] m_M_byteOf [.int x, .int y] C Y og := by
  obtain ⟨n, b, nv, u, V, ht, no, E, sy, O, b0, J⟩ := id I
  have hS := J.2.2.1
  have hY := J.2.2.2.1
  by_cases h : isV nv x = true
  · obtain ⟨v, hv, rfl⟩ := isV_of (lwI_nv J) h
    rcases i32_cases y with hy | ⟨k, hk, rfl⟩
    · exact pZ_p I (z_byteOf base 39 C Y og _ _ _ _ (am_pp (c_S_byteOf_m 37 C Y og nv u V hS v hv y hy))) (fun og' => c_M_byteOf_m 39 C Y og' nv u V hY v hv y hy)
    · exact pZ_p I (z_byteOf base 39 C Y og _ _ _ _ (am_pp (c_S_byteOf_k 37 C Y og nv u V hS v hv k hk))) (fun og' => c_M_byteOf_k 39 C Y og' nv u V hY v hv k hk)
  · have h' : isV nv x = false := by simpa using h
    exact pZ_x I (zx_byteOf base 40 (by decide) C Y og x y (x_S_byteOf hf C Y og nv u V hS x y h')) (c_M_byteOf_x 39 C Y og nv u V hY x y h')
theorem p_child (hf : l.flags = pinnedFlags ++ [noTraceFlag]) (I : lwV C Y) (x y : Int32) : pZ l D cA ad fm base m_Z_child [(0, 10, 13, 19)] m_M_child [.int x, .int y] C Y og := by
  obtain ⟨n, b, nv, u, V, ht, no, E, sy, O, b0, J⟩ := id I
  have hS := J.2.2.1
  have hY := J.2.2.2.1
  by_cases h : isV nv x = true
  · obtain ⟨v, hv, rfl⟩ := isV_of (lwI_nv J) h
    rcases i32_cases y with hy | ⟨k, hk, rfl⟩
    · exact pZ_p I (z_child base 39 C Y og _ _ _ _ (am_pp (c_S_child_m 36 C Y og nv u V hS v hv y hy))) (fun og' => c_M_child_m 39 C Y og' nv u V hY v hv y hy)
    · exact pZ_p I (z_child base 39 C Y og _ _ _ _ (am_pp (c_S_child_k 36 C Y og nv u V hS v hv k hk))) (fun og' => c_M_child_k 39 C Y og' nv u V hY v hv (vsC_ok hS) k hk)
  · have h' : isV nv x = false := by simpa using h
    exact pZ_x I (zx_child base 40 (by decide) C Y og x y (x_S_child hf C Y og nv u V hS x y h')) (c_M_child_x 39 C Y og nv u V hY x y h')
theorem p_lookup (hf : l.flags = pinnedFlags ++ [noTraceFlag]) (I : lwV C Y) (x y : Int32) : pZ l D cA ad fm base m_Z_lookup [(0, 10, 13, 19)] m_M_lookup [.int x, .int y] C Y og := by
  obtain ⟨n, b, nv, u, V, ht, no, E, sy, O, b0, J⟩ := id I
  have hS := J.2.2.1
  have hY := J.2.2.2.1
  have hg := J.2.2.2.2.1
  by_cases h : isV nv x = true ∧ isV nv y = true
  · obtain ⟨v, hv, rfl⟩ := isV_of (lwI_nv J) h.1
    obtain ⟨w, hw, rfl⟩ := isV_of (lwI_nv J) h.2
    exact pZ_p I (z_lookup base 39 C Y og _ _ _ _ (am_pp (c_S_lookup 36 C Y og nv u V hS v hv ht hg w hw))) (fun og' => c_M_lookup_in 39 C Y og' nv u V hY v hv (vsC_ok hS) ht hg (lwI_even J) w hw)
  · exact pZ_x I (zx_lookup base 40 (by decide) C Y og x y (x_S_lookup hf C Y og nv u V hS x y h)) (c_M_lookup_x 39 C Y og nv u V hY x y h)
theorem p_told (hf : l.flags = pinnedFlags ++ [noTraceFlag]) (I : lwV C Y) (x : Int32) : pZ l D cA ad fm base m_Z_told [(0, 9, 12, 19)] m_M_told [.int x] C Y og := by
  obtain ⟨n, b, nv, u, V, ht, no, E, sy, O, b0, J⟩ := id I
  obtain ⟨h1, h2, h3, h4, h5, h6, h7, h8, h9, h10, h11, h12, h13, h14⟩ := J
  by_cases h : 0 ≤ x ∧ x < 5
  · obtain ⟨k, hk, rfl⟩ := rng32 (hi := 5) (by decide) h.1 h.2
    rcases (show k = 0 ∨ k = 1 ∨ k = 2 ∨ k = 3 ∨ k = 4 by omega) with rfl | rfl | rfl | rfl | rfl
    · exact pZ_p I (z_told base 39 C Y og 0 _ _ (am_pp (c_S_told_0 38 C Y og n b h1))) (fun og' => h2.1 ▸ c_M_told_0 40 C Y og')
    · exact pZ_p I (z_told base 39 C Y og 1 _ _ (am_pp (c_S_told_1 38 C Y og O h11))) (fun og' => h12.1 ▸ c_M_told_1 40 C Y og')
    · exact pZ_p I (z_told base 39 C Y og 2 _ _ (am_pp (c_S_told_2 38 C Y og no E h6))) (fun og' => h7.1 ▸ c_M_told_2 40 C Y og')
    · exact pZ_p I (z_told base 39 C Y og 3 _ _ (am_pp (c_S_told_3 38 C Y og nv u V h3))) (fun og' => h4.1.1 ▸ c_M_told_3 40 C Y og')
    · exact pZ_p I (z_told base 39 C Y og 4 _ _ (am_pp (c_S_told_4 38 C Y og))) (fun og' => (h10.trans h9.symm) ▸ c_M_told_4 40 C Y og')
  · refine pZ_x I (zx_told base 40 (by decide) C Y og x (x_S_told hf C Y og x ?_)) (c_M_told_x 40 C Y og x h)
    rw [Int32.le_iff_toInt_le, Int32.lt_iff_toInt_lt] at h
    have e0 : (0 : Int32).toInt = 0 := rfl
    have e5 : (5 : Int32).toInt = 5 := rfl
    rw [e0, e5] at h
    omega
theorem p_number (hf : l.flags = pinnedFlags ++ [noTraceFlag]) (I : lwV C Y) (x : Int32) : pN l D cA ad fm base m_Z_number [(0, 8, 11, 19)] m_M_number [.int x] C Y og := by
  obtain ⟨n, b, nv, u, V, ht, no, E, sy, O, b0, J⟩ := id I
  have hS := J.2.2.1
  have hY := J.2.2.2.1
  by_cases h : isV nv x = true
  · obtain ⟨v, hv, rfl⟩ := isV_of (lwI_nv J) h
    refine ⟨0, fun C' og' => C' = C ∧ og' = vp_updL og 0 (V.2.1 v), am_mzm (fun vr w' h => ?_) (z_number base 39 C Y og _ _ _ (am_pp (c_S_number 37 C Y og nv u V hS v hv))), ?_⟩
    · obtain ⟨h1, C', h2, h3⟩ := h
      exact ⟨h1, C', _, h2, h3, rfl⟩
    rintro C' og' ⟨rfl, rfl⟩
    exact am_mono (fun vr w' h => ⟨_, _, h.1, h.2, rfl, lwV_y0 I 0, fun _ => og_0⟩) (c_M_number_in 39 C' Y _ nv u V hY v hv)
  · have h' : isV nv x = false := by simpa using h
    refine ⟨1, fun C' og' => C' = C ∧ og' = og, am_mzm (fun vr w' h => ⟨h.1, C, og, h.2, rfl, rfl⟩) (zx_number base 40 (by decide) C Y og x (x_S_number hf C Y og nv u V hS x h')), ?_⟩
    rintro C' og' ⟨rfl, rfl⟩
    exact am_mono (fun vr w' h => ⟨0, _, h.1, h.2, rfl, lwV_y0 I 1, fun e => absurd e (by decide)⟩) (c_M_number_x 39 C' Y og' nv u V hY x h')
theorem p_write (hf : l.flags = pinnedFlags ++ [noTraceFlag]) (hfm : fm = .null ∨ fm = .ref 3000) (I : lwV C Y) (x : Int32) (r a : Bool) : pZ l D cA ad fm base m_Z_write [(0, 12, 15, 19)] m_M_write [.int x, .int (bz r), .int (bz a)] C Y og := by
  obtain ⟨n, b, nv, u, V, ht, no, E, sy, O, b0, J⟩ := id I
  have hS := J.2.2.1
  have hY := J.2.2.2.1
  have hg := J.2.2.2.2.1
  have hO := J.2.2.2.2.2.1
  have hOY := J.2.2.2.2.2.2.1
  have hI := J.2.2.2.2.2.2.2.1
  have hb0 : b0 ≤ 5 ∧ Y.1 15 = nI b0 := J.2.2.2.2.2.2.2.2.2.2.2.2
  have hfin : ∀ (T T' : WS) (C' : wd_C) (Y' : wd_Y), wrO C C' T → wrR Y Y' T' → T.2 = T'.2 → byL T.2 → T'.1 ≤ 5 → lwV C' Y' := fun T T' C' Y' q1 q2 q3 q4 q5 => ⟨_, _, _, _, _, _, _, _, _, _, _, lwI_write J q1 q2 q3 q4 q5⟩
  cases a with
  | true =>
    refine ⟨0, fun C' og' => og' = vp_updL og 0 (if (wOs r.toNat V E no 0 (0, [])).2.length ≤ 4000 then nI (wOs r.toNat V E no 0 (0, [])).2.length else -1 : Int32).toInt64 ∧ wrO C C' (wOs r.toNat V E no 0 (0, [])), am_mzm (fun vr w' h => ?_) (z_write base 39 C Y og _ _ _ _ _ (c_S_write_a 11 C Y og r hfm nv u V hS ht hg no E hO hI x (lwI_oub J _ _))), ?_⟩
    · obtain ⟨h1, C', h2, h3⟩ := h
      exact ⟨h1, C', _, h2, rfl, h3⟩
    rintro C' og' ⟨rfl, q1⟩
    refine am_mono (fun vr w' h => ?_) (c_M_write_a 32 C' Y _ r nv u V hY (lwI_byj J) ht hg (vsC_ok hS) (lwI_sp J) b0 hb0.1 hb0.2 no E hOY hI x (lwI_oub J _ _))
    obtain ⟨h1, Y', h2, h3⟩ := h
    have e : (wOs r.toNat V E no 0 (0, [])).2 = (wOs r.toNat V E no 0 (b0, [])).2 := wOs_2 no 0 (0, []) (b0, []) rfl
    refine ⟨_, Y', h1, h2, h3.2.1, ?_, fun _ => by rw [og_0, e]⟩
    exact hfin _ _ C' Y' q1 h3 e (lwI_oby J _ _) (wOs_bf no 0 (b0, []) hb0.1)
  | false =>
    by_cases h : isV nv x = true
    · obtain ⟨v, hv, rfl⟩ := isV_of (lwI_nv J) h
      have hub : (wWh r.toNat V (0, []) v).2.length + 1000 < 2147483648 := by
        have h1 := lwI_wub J r.toNat (0, []) v hv
        have h2 : ((0, []) : WS).2.length = 0 := rfl
        omega
      refine ⟨0, fun C' og' => og' = vp_updL og 0 (if (wWh r.toNat V (0, []) v).2.length ≤ 4000 then nI (wWh r.toNat V (0, []) v).2.length else -1 : Int32).toInt64 ∧ wrO C C' (wWh r.toNat V (0, []) v), am_mzm (fun vr w' h => ?_) (z_write base 39 C Y og _ _ _ _ _ (c_S_write_v 11 C Y og r hfm nv u V hS ht hg v hv hub)), ?_⟩
      · obtain ⟨h1, C', h2, h3⟩ := h
        exact ⟨h1, C', _, h2, rfl, h3⟩
      rintro C' og' ⟨rfl, q1⟩
      refine am_mono (fun vr w' h => ?_) (c_M_write_v 33 C' Y _ r nv u V hY (lwI_byj J) ht hg (vsC_ok hS) (lwI_sp J) b0 hb0.1 hb0.2 v hv hub)
      obtain ⟨h1, Y', h2, h3⟩ := h
      exact ⟨_, Y', h1, h2, h3.2.1, hfin _ _ C' Y' q1 h3 rfl (lwI_wby J _ _ v hv byL_nil) (wWh_bf (0, []) v (by decide)), fun _ => og_0⟩
    · have h' : isV nv x = false := by simpa using h
      exact pZ_x I (zx_write base 40 (by decide) C Y og x (bz r) 0 (x_S_write hf C Y og nv u V hS x r h')) (c_M_write_x 33 C Y og r nv u V hY x h')
theorem p_wipe (I : lwV C Y) : pD l D cA ad fm m_S_wipe m_M_wipe [] C Y og := by
  obtain ⟨n, b, nv, u, V, ht, no, E, sy, O, b0, J⟩ := I
  refine ⟨fun x C' => x = nI n ∧ C' = (upd C.1 0 0, C.2), am_mono (fun vr w' h => ⟨_, _, h.1, h.2, rfl, rfl⟩) (c_S_wipe 39 C Y og n b J.1), ?_⟩
  rintro x C' ⟨rfl, rfl⟩
  refine am_mono (fun vr w' h => ⟨_, h.1, h.2, ?_⟩) (c_M_wipe 40 _ Y og n b J.2.1)
  exact ⟨0, fun _ => -1, nv, u, V, ht, no, E, sy, O, b0, lwI_tape (Y' := (upd (upd Y.1 0 0) 1 0, Y.2)) J tpO_cl ⟨fun j hj => tyU hj, fun _ _ => rfl, rfl⟩ ⟨rfl, by decide, fun k hk => absurd hk (Nat.not_lt_zero _), fun _ _ => rfl⟩ ⟨rfl, by decide, fun k hk => absurd hk (Nat.not_lt_zero _), fun _ _ => rfl, fun k hk => absurd hk (Nat.not_lt_zero _)⟩⟩
theorem p_read (hfm : fm = .null ∨ fm = .ref 3000) (I : lwV C Y) : pD l D cA ad fm m_S_read m_M_read [] C Y og := by
  obtain ⟨n, b, nv, u, V, ht, no, E, sy, O, b0, J⟩ := I
  refine ⟨fun x C' => ∃ s', Tp n b (skW n b 0, 0, E, 0, 0, V, 0) s' ∧ x = nI s'.2.1 ∧ bsC C' n b s' ∧ wrC C C', am_mono (fun vr w' h => ?_) (c_S_read 10 C Y og n b J.1 nv u J.2.2.1.1 hfm E V), ?_⟩
  · obtain ⟨s', C', h1, h2, h3, h4, h5⟩ := h
    exact ⟨_, C', h2, h3, s', h1, rfl, h4, h5⟩
  rintro x C' ⟨s', h1, rfl, h4, h5⟩
  refine am_mono (fun vr w' h => ?_) (c_M_read 31 C' Y og n b J.2.1 E V s' h1)
  obtain ⟨g1, Y', g2, g3, g4, g5⟩ := h
  exact ⟨Y', g1, g2, lwI_read J h4 h5 g3 g5⟩
theorem p_find (I : lwV C Y) (x y : Int32) : pD l D cA ad fm m_S_find m_M_find [.int x, .int y] C Y og := by
  obtain ⟨n, b, nv, u, V, ht, no, E, sy, O, b0, J⟩ := id I
  refine ⟨fun r C' => r = oN (fnO E x y no) ∧ C' = C, am_mono (fun vr w' h => ⟨_, C, h.1, h.2, rfl, rfl⟩) (c_S_find 37 C Y og no E J.2.2.2.2.2.1 x y), ?_⟩
  rintro r C' ⟨rfl, rfl⟩
  exact am_mono (fun vr w' h => ⟨_, h.1, h.2, lwV_y0 I 0⟩) (c_M_find 39 C' Y og nv (lwI_nv J) no E J.2.2.2.2.2.2.1 J.2.2.2.2.2.2.2.1 x y)
theorem p_out (I : lwV C Y) (x : Int32) : pD l D cA ad fm m_S_out m_M_out [.int x] C Y og := by
  obtain ⟨n, b, nv, u, V, ht, no, E, sy, O, b0, J⟩ := id I
  obtain ⟨h1, h2, h3, h4, h5, h6, h7, h8, h9, h10, h11, h12, h13, h14⟩ := J
  rcases i32_cases x with hx | ⟨k, hk, rfl⟩
  · refine ⟨fun r C' => r = -1 ∧ C' = C, am_mono (fun vr w' h => ⟨_, C, h.1, h.2, rfl, rfl⟩) (c_S_out_m 39 C Y og O h11 x hx), ?_⟩
    rintro r C' ⟨rfl, rfl⟩
    exact am_mono (fun vr w' h => ⟨_, h.1, h.2, lwV_y0 I 0⟩) (c_M_out_m 40 C' Y og O h12 x hx)
  · refine ⟨fun r C' => r = (if k < O.length then O.getD k 0 else -1) ∧ C' = C, am_mono (fun vr w' h => ⟨_, C, h.1, h.2, rfl, rfl⟩) (c_S_out_k 39 C Y og O h11 k hk), ?_⟩
    rintro r C' ⟨rfl, rfl⟩
    exact am_mono (fun vr w' h => ⟨_, h.1, h.2, lwV_y0 I 0⟩) (c_M_out_k 40 C' Y og O h12 k hk)
theorem p_take (I : lwV C Y) : pD l D cA ad fm m_S_take m_M_take [] C Y og := by
  obtain ⟨n, b, nv, u, V, ht, no, E, sy, O, b0, J⟩ := I
  have hU := J.2.2.2.2.2.2.2.2.2.2.1
  have hUY := J.2.2.2.2.2.2.2.2.2.2.2.1
  have hTC := J.1
  have hTY := J.2.1
  refine ⟨fun x C' => x = (if O.length ≤ 1600 then nI O.length else -1) ∧ tpO C C' ∧ (O.length ≤ 1600 → tpC C' O.length (tkP O O.length)) ∧ (¬ O.length ≤ 1600 → C' = C), am_mono (fun vr w' h => ?_) (c_S_take 39 C Y og O hU), ?_⟩
  · obtain ⟨h1, C', h2, h3⟩ := h
    exact ⟨_, C', h1, h2, rfl, h3⟩
  rintro x C' ⟨rfl, q1, q2, q3⟩
  refine am_mono (fun vr w' h => ?_) (c_M_take 40 C' Y og O hUY)
  obtain ⟨h1, Y', h2, h3, h4, h5, h6⟩ := h
  refine ⟨Y', h1, h2, ?_⟩
  by_cases hs : O.length ≤ 1600
  · obtain ⟨f1, f2, f3⟩ := h5 hs
    have t := q2 hs
    exact ⟨_, _, nv, u, V, ht, no, E, sy, O, b0, lwI_tape J q1 h4 t ⟨f1, f2, fun k hk => by rw [f3 k hk, tkP, if_pos ⟨hk, hk⟩], t.2.2.2, fun k hk => by obtain ⟨j, j1, j2, _⟩ := t.2.2.1 k hk; exact ⟨j, j1, j2⟩⟩⟩
  · obtain ⟨f1, f2⟩ := h6 hs
    have e := q3 hs
    subst e
    exact ⟨n, b, nv, u, V, ht, no, E, sy, O, b0, lwI_tape J q1 h4 hTC ⟨f1.trans hTY.1, hTY.2.1, fun k hk => by rw [f2]; exact hTY.2.2.1 k hk, hTY.2.2.2⟩⟩
end PRS
