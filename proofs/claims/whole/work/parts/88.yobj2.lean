/-! the reference reads an object; printed by wip/gen/g88.py -/
theorem upd_ne {f : Nat → Int32} {k m : Nat} {x : Int32} (h : ¬ m = k) : upd f k x m = f m := if_neg h
theorem prW_any {n : Nat} {b : Nat → Int32} {bs : List Int32} {k t : Nat} (h : prW n b bs k = some t) : ∃ e1 e2, fgW b k = some e1 ∧ fgW b (skW n b e1) = some e2 ∧ wdA b bs t = true ∧ t = skW n b e2 := by
  unfold prW at h
  cases h1 : fgW b k with
  | none => rw [h1] at h; cases h
  | some e1 =>
    simp only [h1] at h
    cases h2 : fgW b (skW n b e1) with
    | none => simp only [h2] at h; cases h
    | some e2 =>
      simp only [h2] at h
      split at h
      · cases h
        exact ⟨e1, e2, rfl, h2, by assumption, rfl⟩
      · cases h
theorem am_mono {l : Launch} {D : va_G} {cA : Nat → ClassId} {ad : Nat → Nat} {fm : Value} {d : Nat} {M : am_M} {As : List Value} {w : am_W} {p q : Option Value → am_W → Prop} (h : ∀ vr w', p vr w' → q vr w') (hm : am_Mt l D cA ad fm d M As w p) : am_Mt l D cA ad fm d M As w q := by
  intro sz P e h1 h2 h3 s m args below h4 h5 h6 h7
  obtain ⟨n, o, a1, a2, a3, ⟨x, w', e1, e2, e3⟩, hL⟩ := hm sz P e h1 h2 h3 s m args below h4 h5 h6 h7
  exact ⟨n, o, a1, a2, a3, ⟨x, w', e1, h _ _ e2, e3⟩, hL⟩
section C88
variable {l : Launch} {D : va_G} {cA : Nat → ClassId} {ad : Nat → Nat} {fm : Value}
set_option maxHeartbeats 2000000 in
set_option maxRecDepth 100000 in
theorem c_M_readValue (d : Nat) (C : wd_C) (Y : wd_Y) (og : Nat → Int64) (n : Nat) (b : Nat → Int32) (k nv u : Nat) (V : VT) (no : Int32) (hI : ryI Y n b k nv u V no) (hk : k ≤ n) (hu : u ≤ k) (r : RR) (hR : Rd n b none 0 (k, nv, u, V, no) r) (hfx : rdFx n nv u V r) : am_Mt l D cA ad fm (d + 7) m_M_readValue [.ref 19] (wd C Y og) (rvQ Y C og n b nv V r) := by
  refine am_mt ok_M_readValue (by simp [am_arg, Value.category, m_M_readValue, am_ml]) ?_
  refine am_eq_r (q' := (0, [some (.ref 19), none, none], [], wd C Y og)) rfl ?_
  refine am_steps_r ok_M_readValue 7 (q' := (9, [some (.ref 19), some (.int (-1)), some (.int 0)], [], wd C (upd Y.1 12 0, Y.2) og)) rfl ?_
  exact rv_all d C (upd Y.1 12 0, Y.2) og n b k nv u V no hI hk hu r hR hfx rfl
theorem c_M_readStream (d : Nat) (C : wd_C) (Y : wd_Y) (og : Nat → Int64) (n : Nat) (b : Nat → Int32) (w nv u : Nat) (V : VT) (no : Int32) (hI : ryI Y n b w nv u V no) (hok : vok nv V) (hnb : ∀ w, w < nv → nbOK (V.1 w) (V.2.1 w)) (noo : Nat) (E : Nat → Nat → Int32) (hO : obY Y noo E) (hob : obI nv noo E) (dc : Nat) (hdc : dc < nv) (hdc7 : V.1 dc = 7) (mm : Nat) (hmm : (V.2.2.1 dc).length = 2 * mm) (hfr : fre nv V dc) (huw : u ≤ w) (hw7 : wdA b st_7 w = true) (htb : tlN V E noo dc = -1 ∨ ∃ m, m < 1000000000 ∧ (tlN V E noo dc = lN m ∨ tlN V E noo dc = -(lN m))) : am_Mt l D cA ad fm (d + 4) m_M_readStream [.ref 19, .int (nI dc)] (wd C Y og) (syQ Y C og n b nv u V no dc (if nv = 300 then .inl (6, w, 0) else stR n b w (tlO (tlN V E noo dc)))) := by
  rcases Nat.lt_or_ge nv 300 with h3 | h3
  · rw [if_neg (by omega)]
    exact c_M_readStream_i d C Y og n b w nv u V no hI hok hnb noo E hO hob dc hdc hdc7 mm hmm hfr huw hw7 h3 htb
  · have h9 := hI.2.2.2.2.1.2.1
    rw [if_pos (by omega)]
    have h := c_M_readStream_f (l := l) (D := D) (cA := cA) (ad := ad) (fm := fm) d C Y og n b w nv u V no hI dc (by omega)
    have e : (fun vr w' => vr = some (Value.int (-1)) ∧ w' = wd C (upd (upd Y.1 7 6) 8 (nI w), Y.2) og) = (fun vr w' => vr = some (Value.int (-1)) ∧ w' = wd C (upd (upd Y.1 7 6) 8 (nI w), Y.2) og) := rfl
    refine am_mono (fun vr w' hq => ?_) h
    obtain ⟨rfl, rfl⟩ := hq
    exact ⟨rfl, _, rfl, rfl, rfl, by rw [Int32.or_zero]; exact hI.2.2.2.1, fY_rf _ _, nv, V, Nat.le_refl _, hI.2.2.2.2, vbe_rf _ _⟩
set_option maxHeartbeats 2000000 in
set_option maxRecDepth 100000 in
theorem tl_M_readObject_ok (d : Nat) (C : wd_C) (Y : wd_Y) (og : Nat → Int64) (n : Nat) (b : Nat → Int32) (k t nv u noo : Nat) (V : VT) (E : Nat → Nat → Int32) (hno : noo < 20) (Yf : wd_Y) (hT : tpY Yf n b) (f2 : Yf.1 2 = nI noo) (f3 : Yf.1 3 = Y.1 3) (f0 : Yf.1 0 = Y.1 0) (fw : wrY Y Yf) (a1 : ∀ i, i < noo → ∀ j, j < 8 → Yf.2.1 1 (8 * i + j) = E i j) (a2 : Yf.2.1 1 (8 * noo) = obA b n k) (a3 : Yf.2.1 1 (8 * noo + 1) = obG b n k) (a4 : Yf.2.1 1 (8 * noo + 6) = nI k) (y k' nv' u' : Nat) (V' : VT) (no' : Int32) (f7 : Yf.1 7 = 0) (f9 : Yf.1 9 = no') (f6 : Yf.1 6 = nI k') (hV : vsY Yf nv' u' V') (post : Option Value → am_W → Prop) (hp : ∀ w', (∃ Y' : wd_Y, w' = wd C Y' og ∧ obGY Y Y' n b nv u V noo E k (.inr (y, k', nv', u', V', no'))) → post none w') : am_Rn l D cA ad fm (d + 8) m_M_readObject (wd C Y og).length post (346, [some (.ref 19), some (.int (nI t)), some (.int (nI (8 * noo))), some (.int (nI nv)), some (.int (nI u)), some (.int (nI y)), none], [], wd C Yf og) := by
  have hn := hT.2.1
  refine am_steps_r ok_M_readObject 8 (q' := (bif decide ((Yf.1 7) = 0) then 360 else 365, [some (.ref 19), some (.int (nI t)), some (.int (nI (8 * noo))), some (.int (nI nv)), some (.int (nI u)), some (.int (nI y)), none], [.int ((nI (8 * noo)) + 2), .ref 21], wd C Yf og)) rfl ?_
  rw [show ((nI (8 * noo)) + 2 : Int32) = nI ((8 * noo) + 2) from nI_add (8 * noo) 2]
  rw [show (Yf.1 7 : Int32) = nI 0 from f7]
  refine am_br_r (fun h_1 => ?_) (fun h_1 => ?_)
  · skip
    have h_1 : 0 = 0 := (nI_eq (show 0 < 2 ^ 31 by omega) (show 0 < 2 ^ 31 by omega)).mp h_1
    refine am_steps_r ok_M_readObject 2 (q' := (366, [some (.ref 19), some (.int (nI t)), some (.int (nI (8 * noo))), some (.int (nI nv)), some (.int (nI u)), some (.int (nI y)), none], [.int (nI y), .int (nI ((8 * noo) + 2)), .ref 21], wd C Yf og)) rfl ?_
    refine am_iast_r ok_M_readObject rfl (w := wd C Yf og) (f := Yf.2.1 1) rfl rfl (pk_in ((8 * noo) + 2) 160 (by omega)) ?_
    rw [nI_clamp (show ((8 * noo) + 2) < 2 ^ 31 by omega)]
    refine am_eq_r (q' := (367, [some (.ref 19), some (.int (nI t)), some (.int (nI (8 * noo))), some (.int (nI nv)), some (.int (nI u)), some (.int (nI y)), none], [], wd C (Yf.1, wd_u Yf.2.1 1 (upd (Yf.2.1 1) ((8 * noo) + 2) (nI y)), Yf.2.2) og)) rfl ?_
    refine am_steps_r ok_M_readObject 7 (q' := (378, [some (.ref 19), some (.int (nI t)), some (.int (nI (8 * noo))), some (.int (nI nv)), some (.int (nI u)), some (.int (nI y)), none], [.int (Yf.1 7), .int ((nI (8 * noo)) + 3), .ref 21], wd C (Yf.1, wd_u Yf.2.1 1 (upd (Yf.2.1 1) ((8 * noo) + 2) (nI y)), Yf.2.2) og)) rfl ?_
    rw [show ((nI (8 * noo)) + 3 : Int32) = nI ((8 * noo) + 3) from nI_add (8 * noo) 3]
    rw [show (Yf.1 7 : Int32) = nI 0 from f7]
    refine am_iast_r ok_M_readObject rfl (w := wd C (Yf.1, wd_u Yf.2.1 1 (upd (Yf.2.1 1) ((8 * noo) + 2) (nI y)), Yf.2.2) og) (f := (upd (Yf.2.1 1) ((8 * noo) + 2) (nI y))) rfl rfl (pk_in ((8 * noo) + 3) 160 (by omega)) ?_
    rw [nI_clamp (show ((8 * noo) + 3) < 2 ^ 31 by omega)]
    refine am_eq_r (q' := (379, [some (.ref 19), some (.int (nI t)), some (.int (nI (8 * noo))), some (.int (nI nv)), some (.int (nI u)), some (.int (nI y)), none], [], wd C (Yf.1, wd_u Yf.2.1 1 (upd (upd (Yf.2.1 1) ((8 * noo) + 2) (nI y)) ((8 * noo) + 3) (nI 0)), Yf.2.2) og)) rfl ?_
    refine am_steps_r ok_M_readObject 8 (q' := (bif decide ((Yf.1 7) = 0) then 393 else 397, [some (.ref 19), some (.int (nI t)), some (.int (nI (8 * noo))), some (.int (nI nv)), some (.int (nI u)), some (.int (nI y)), none], [.int ((nI (8 * noo)) + 4), .ref 21], wd C (Yf.1, wd_u Yf.2.1 1 (upd (upd (Yf.2.1 1) ((8 * noo) + 2) (nI y)) ((8 * noo) + 3) (nI 0)), Yf.2.2) og)) rfl ?_
    rw [show ((nI (8 * noo)) + 4 : Int32) = nI ((8 * noo) + 4) from nI_add (8 * noo) 4]
    rw [show (Yf.1 7 : Int32) = nI 0 from f7]
    refine am_br_r (fun h_2 => ?_) (fun h_2 => ?_)
    · skip
      have h_2 : 0 = 0 := (nI_eq (show 0 < 2 ^ 31 by omega) (show 0 < 2 ^ 31 by omega)).mp h_2
      refine am_steps_r ok_M_readObject 2 (q' := (401, [some (.ref 19), some (.int (nI t)), some (.int (nI (8 * noo))), some (.int (nI nv)), some (.int (nI u)), some (.int (nI y)), none], [.int (-1), .int (nI ((8 * noo) + 4)), .ref 21], wd C (Yf.1, wd_u Yf.2.1 1 (upd (upd (Yf.2.1 1) ((8 * noo) + 2) (nI y)) ((8 * noo) + 3) (nI 0)), Yf.2.2) og)) rfl ?_
      refine am_iast_r ok_M_readObject rfl (w := wd C (Yf.1, wd_u Yf.2.1 1 (upd (upd (Yf.2.1 1) ((8 * noo) + 2) (nI y)) ((8 * noo) + 3) (nI 0)), Yf.2.2) og) (f := (upd (upd (Yf.2.1 1) ((8 * noo) + 2) (nI y)) ((8 * noo) + 3) (nI 0))) rfl rfl (pk_in ((8 * noo) + 4) 160 (by omega)) ?_
      rw [nI_clamp (show ((8 * noo) + 4) < 2 ^ 31 by omega)]
      refine am_eq_r (q' := (402, [some (.ref 19), some (.int (nI t)), some (.int (nI (8 * noo))), some (.int (nI nv)), some (.int (nI u)), some (.int (nI y)), none], [], wd C (Yf.1, wd_u Yf.2.1 1 (upd (upd (upd (Yf.2.1 1) ((8 * noo) + 2) (nI y)) ((8 * noo) + 3) (nI 0)) ((8 * noo) + 4) (-1)), Yf.2.2) og)) rfl ?_
      refine am_steps_r ok_M_readObject 7 (q' := (413, [some (.ref 19), some (.int (nI t)), some (.int (nI (8 * noo))), some (.int (nI nv)), some (.int (nI u)), some (.int (nI y)), none], [.int (Yf.1 9), .int ((nI (8 * noo)) + 5), .ref 21], wd C (Yf.1, wd_u Yf.2.1 1 (upd (upd (upd (Yf.2.1 1) ((8 * noo) + 2) (nI y)) ((8 * noo) + 3) (nI 0)) ((8 * noo) + 4) (-1)), Yf.2.2) og)) rfl ?_
      rw [show ((nI (8 * noo)) + 5 : Int32) = nI ((8 * noo) + 5) from nI_add (8 * noo) 5]
      refine am_iast_r ok_M_readObject rfl (w := wd C (Yf.1, wd_u Yf.2.1 1 (upd (upd (upd (Yf.2.1 1) ((8 * noo) + 2) (nI y)) ((8 * noo) + 3) (nI 0)) ((8 * noo) + 4) (-1)), Yf.2.2) og) (f := (upd (upd (upd (Yf.2.1 1) ((8 * noo) + 2) (nI y)) ((8 * noo) + 3) (nI 0)) ((8 * noo) + 4) (-1))) rfl rfl (pk_in ((8 * noo) + 5) 160 (by omega)) ?_
      rw [nI_clamp (show ((8 * noo) + 5) < 2 ^ 31 by omega)]
      refine am_eq_r (q' := (414, [some (.ref 19), some (.int (nI t)), some (.int (nI (8 * noo))), some (.int (nI nv)), some (.int (nI u)), some (.int (nI y)), none], [], wd C (Yf.1, wd_u Yf.2.1 1 (upd (upd (upd (upd (Yf.2.1 1) ((8 * noo) + 2) (nI y)) ((8 * noo) + 3) (nI 0)) ((8 * noo) + 4) (-1)) ((8 * noo) + 5) (Yf.1 9)), Yf.2.2) og)) rfl ?_
      refine am_steps_r ok_M_readObject 7 (q' := (426, [some (.ref 19), some (.int (nI t)), some (.int (nI (8 * noo))), some (.int (nI nv)), some (.int (nI u)), some (.int (nI y)), none], [.int (Yf.1 6), .int ((nI (8 * noo)) + 7), .ref 21], wd C (Yf.1, wd_u Yf.2.1 1 (upd (upd (upd (upd (Yf.2.1 1) ((8 * noo) + 2) (nI y)) ((8 * noo) + 3) (nI 0)) ((8 * noo) + 4) (-1)) ((8 * noo) + 5) (Yf.1 9)), Yf.2.2) og)) rfl ?_
      rw [show ((nI (8 * noo)) + 7 : Int32) = nI ((8 * noo) + 7) from nI_add (8 * noo) 7]
      rw [show (Yf.1 6 : Int32) = nI k' from f6]
      refine am_iast_r ok_M_readObject rfl (w := wd C (Yf.1, wd_u Yf.2.1 1 (upd (upd (upd (upd (Yf.2.1 1) ((8 * noo) + 2) (nI y)) ((8 * noo) + 3) (nI 0)) ((8 * noo) + 4) (-1)) ((8 * noo) + 5) (Yf.1 9)), Yf.2.2) og) (f := (upd (upd (upd (upd (Yf.2.1 1) ((8 * noo) + 2) (nI y)) ((8 * noo) + 3) (nI 0)) ((8 * noo) + 4) (-1)) ((8 * noo) + 5) (Yf.1 9))) rfl rfl (pk_in ((8 * noo) + 7) 160 (by omega)) ?_
      rw [nI_clamp (show ((8 * noo) + 7) < 2 ^ 31 by omega)]
      refine am_eq_r (q' := (427, [some (.ref 19), some (.int (nI t)), some (.int (nI (8 * noo))), some (.int (nI nv)), some (.int (nI u)), some (.int (nI y)), none], [], wd C (Yf.1, wd_u Yf.2.1 1 (upd (upd (upd (upd (upd (Yf.2.1 1) ((8 * noo) + 2) (nI y)) ((8 * noo) + 3) (nI 0)) ((8 * noo) + 4) (-1)) ((8 * noo) + 5) (Yf.1 9)) ((8 * noo) + 7) (nI k')), Yf.2.2) og)) rfl ?_
      refine am_steps_r ok_M_readObject 6 (q' := (437, [some (.ref 19), some (.int (nI t)), some (.int (nI (8 * noo))), some (.int (nI nv)), some (.int (nI u)), some (.int (nI y)), none], [], wd C (upd Yf.1 2 ((Yf.1 2) + 1), wd_u Yf.2.1 1 (upd (upd (upd (upd (upd (Yf.2.1 1) ((8 * noo) + 2) (nI y)) ((8 * noo) + 3) (nI 0)) ((8 * noo) + 4) (-1)) ((8 * noo) + 5) (Yf.1 9)) ((8 * noo) + 7) (nI k')), Yf.2.2) og)) rfl ?_
      rw [show (Yf.1 2 : Int32) = nI noo from f2]
      rw [show ((nI noo) + 1 : Int32) = nI (noo + 1) from nI_add noo 1]
      refine am_vret_r ok_M_readObject rfl rfl rfl ?_
      have hrw : ∀ i, i < noo + 1 → ∀ j, j < 8 → (upd (upd (upd (upd (upd (Yf.2.1 1) (8 * noo + 2) (nI y)) (8 * noo + 3) (nI 0)) (8 * noo + 4) (-1)) (8 * noo + 5) (Yf.1 9)) (8 * noo + 7) (nI k')) (8 * i + j) = va_up E noo (rw8 (obA b n k) (obG b n k) (nI y) (nI 0) (-1) (Yf.1 9) (nI k) (nI k')) i j := ob_rowY (fun i hi j hj => by rw [upd_ne (by omega), upd_ne (by omega), upd_ne (by omega), upd_ne (by omega), upd_ne (by omega)]; exact a1 i hi j hj) (by rw [upd_ne (by omega), upd_ne (by omega), upd_ne (by omega), upd_ne (by omega), upd_ne (by omega)]; exact a2) (by rw [upd_ne (by omega), upd_ne (by omega), upd_ne (by omega), upd_ne (by omega), upd_ne (by omega)]; exact a3) (by simp [upd]) (by simp [upd]) (by simp [upd]) (by simp [upd]) (by rw [upd_ne (by omega), upd_ne (by omega), upd_ne (by omega), upd_ne (by omega), upd_ne (by omega)]; exact a4) (by simp [upd])
      refine hp _ ⟨_, rfl, hT, f3, f0, fw, ⟨rfl, by omega, ?_⟩, f6, vsY_ar hV rfl rfl (fun j h1 h2 => wd_u_ne (by omega)) rfl⟩
      rw [f9] at hrw
      intro i hi j hj
      have h9 := hrw i hi j hj
      rw [← f9] at h9
      rw [show (rowR n b (obA b n k) (obG b n k) k (.inr (y, k', nv', u', V', no'))) = rw8 (obA b n k) (obG b n k) (nI y) 0 (-1) no' (nI k) (nI k') from rfl]
      rw [f9] at h9
      show wd_u Yf.2.1 1 _ 1 (8 * i + j) = _
      rw [show ∀ (A : Nat → Nat → Int32) (F : Nat → Int32), wd_u A 1 F 1 = F from fun A F => if_pos rfl, f9]
      exact h9
    · skip
      have h_2 : ¬ 0 = 0 := fun z => h_2 ((nI_eq (show 0 < 2 ^ 31 by omega) (show 0 < 2 ^ 31 by omega)).mpr z)
      first | contradiction | (exfalso; simp_all; done)
  · skip
    have h_1 : ¬ 0 = 0 := fun z => h_1 ((nI_eq (show 0 < 2 ^ 31 by omega) (show 0 < 2 ^ 31 by omega)).mpr z)
    exfalso; omega
end C88
