/-! the reference reads an object: the end with a fault; printed by wip/gen/g89.py -/
theorem vsY_cut2 {Y Y' : wd_Y} {nv u nv' u' : Nat} {V V' : VT} (h : vsY Y nv u V) (hf : ∀ w, w < nv → Y'.2.1 7 w = Y.2.1 7 w) (h' : vsY Y' nv' u' V') (hb : vbe nv V V') (hn : nv ≤ nv') {Z : wd_Y} (h4 : Z.1 4 = nI nv) (h5 : Z.1 5 = nI u) (ha : Z.2.1 = Y'.2.1) (hx : Z.2.2.1 = Y'.2.2.1) : vsY Z nv u V := by
  refine ⟨⟨h4, h.1.2.1, h5, h.1.2.2.2⟩, fun v hv => ?_⟩
  obtain ⟨r1, r2, r3, ⟨s, s1, s2, s3, s4⟩, r5, r6⟩ := h.2 v hv
  obtain ⟨t1, t2, t3, ⟨q, q1, q2, q3, q4⟩, t5, t6⟩ := h'.2 v (by omega)
  obtain ⟨e1, e2, e3, e4⟩ := hb v hv
  rw [e1] at t1
  rw [e2] at t2
  rw [e3] at t3 t5 t6
  rw [e4] at q2 q3 q4
  have hs : q = s := by
    have hw := hf v hv
    rw [s1, q1] at hw
    have := h.1.2.2.2
    have := h'.1.2.2.2
    exact (nI_eq (by omega) (by omega)).mp hw
  subst hs
  unfold yrw ybt
  rw [ha, hx]
  exact ⟨t1, t2, t3, ⟨q, q1, q2, s3, q4⟩, t5, t6⟩
section C89
variable {l : Launch} {D : va_G} {cA : Nat → ClassId} {ad : Nat → Nat} {fm : Value}
set_option maxHeartbeats 2000000 in
set_option maxRecDepth 100000 in
theorem lp_M_readObject_265 (d : Nat) (C : wd_C) (Y : wd_Y) (og : Nat → Int64) (n : Nat) (b : Nat → Int32) (k t nv u noo : Nat) (V : VT) (E : Nat → Nat → Int32) (hno : noo < 20) (Yf : wd_Y) (hT : tpY Yf n b) (f2 : Yf.1 2 = nI noo) (f3 : Yf.1 3 = Y.1 3) (f0 : Yf.1 0 = Y.1 0) (fw : wrY Y Yf) (a1 : ∀ i, i < noo → ∀ j, j < 8 → Yf.2.1 1 (8 * i + j) = E i j) (a2 : Yf.2.1 1 (8 * noo) = obA b n k) (a3 : Yf.2.1 1 (8 * noo + 1) = obG b n k) (a4 : Yf.2.1 1 (8 * noo + 6) = nI k) (c no' : Int32) (p nv' u' : Nat) (V' : VT) (f7 : Yf.1 7 = c) (fc : ¬ c = 0) (f8 : Yf.1 8 = nI p) (hp1 : 1 ≤ p) (hpn : p ≤ n) (f9 : Yf.1 9 = no') (hV0 : vsY Y nv u V) (ff : ∀ w, w < nv → Yf.2.1 7 w = Y.2.1 7 w) (hV : vsY Yf nv' u' V') (hb : vbe nv V V') (hnn : nv ≤ nv') (x5 : Int32)  : ∀ (fu : Nat) (post : Option Value → am_W → Prop) (q : Nat), (p ≤ q) → (q ≤ n) → (neE b (n - p) p = neE b (n - q) q) → (∀ w', (∃ Y' : wd_Y, w' = wd C Y' og ∧ obGY Y Y' n b nv u V noo E k (.inl (c, p, no'))) → post none w') → n - q < fu → am_Rn l D cA ad fm (d + 8) m_M_readObject (wd C Y og).length post (265, [some (.ref 19), some (.int (nI t)), some (.int (nI (8 * noo))), some (.int (nI nv)), some (.int (nI u)), some (.int x5), none], [], wd C (upd (upd (upd Yf.1 4 (nI nv)) 5 (nI u)) 6 (nI q), Yf.2) og) := by
  intro fu
  induction fu with
  | zero => intro post q hpq hqn hne hpo hfu; exact absurd hfu (Nat.not_lt_zero _)
  | succ fu ih =>
    intro post q hpq hqn hne hpo hfu
    have hn := hT.2.1
    have hcut : vsY (upd (upd Yf.1 4 (nI nv)) 5 (nI u), Yf.2) nv u V := vsY_cut2 hV0 ff hV hb hnn rfl rfl rfl rfl
    refine am_steps_r ok_M_readObject 5 (q' := (bif decide ((Yf.1 1) ≤ (nI q)) then 317 else 276, [some (.ref 19), some (.int (nI t)), some (.int (nI (8 * noo))), some (.int (nI nv)), some (.int (nI u)), some (.int x5), none], [], wd C (upd (upd (upd Yf.1 4 (nI nv)) 5 (nI u)) 6 (nI q), Yf.2) og)) rfl ?_
    rw [show (Yf.1 1 : Int32) = nI n from hT.1]
    refine am_br_r (fun h_1 => ?_) (fun h_1 => ?_)
    · skip
      have h_1 : n ≤ q := (nI_leI (show n < 2 ^ 31 by omega) (show q < 2 ^ 31 by omega)).mp h_1
      refine am_steps_r ok_M_readObject 6 (q' := (bif decide ((Yf.1 1) ≤ (nI q)) then 339 else 329, [some (.ref 19), some (.int (nI t)), some (.int (nI (8 * noo))), some (.int (nI nv)), some (.int (nI u)), some (.int x5), none], [.ref 19], wd C (upd (upd (upd Yf.1 4 (nI nv)) 5 (nI u)) 6 (nI q), Yf.2) og)) rfl ?_
      rw [show (Yf.1 1 : Int32) = nI n from hT.1]
      refine am_br_r (fun h_2 => ?_) (fun h_2 => ?_)
      · skip
        have h_2 : n ≤ q := (nI_leI (show n < 2 ^ 31 by omega) (show q < 2 ^ 31 by omega)).mp h_2
        refine am_steps_r ok_M_readObject 11 (q' := (bif decide ((Yf.1 7) = 0) then 360 else 365, [some (.ref 19), some (.int (nI t)), some (.int (nI (8 * noo))), some (.int (nI nv)), some (.int (nI u)), some (.int x5), none], [.int ((nI (8 * noo)) + 2), .ref 21], wd C (upd (upd (upd Yf.1 4 (nI nv)) 5 (nI u)) 6 (Yf.1 1), Yf.2) og)) rfl ?_
        rw [show (Yf.1 1 : Int32) = nI n from hT.1]
        rw [show ((nI (8 * noo)) + 2 : Int32) = nI ((8 * noo) + 2) from nI_add (8 * noo) 2]
        refine am_br_r (fun h_3 => ?_) (fun h_3 => ?_)
        · skip
          exact absurd (f7.symm.trans h_3) fc
        · skip
          refine am_steps_r ok_M_readObject 1 (q' := (366, [some (.ref 19), some (.int (nI t)), some (.int (nI (8 * noo))), some (.int (nI nv)), some (.int (nI u)), some (.int x5), none], [.int (-1), .int (nI ((8 * noo) + 2)), .ref 21], wd C (upd (upd (upd Yf.1 4 (nI nv)) 5 (nI u)) 6 (nI n), Yf.2) og)) rfl ?_
          refine am_iast_r ok_M_readObject rfl (w := wd C (upd (upd (upd Yf.1 4 (nI nv)) 5 (nI u)) 6 (nI n), Yf.2) og) (f := Yf.2.1 1) rfl rfl (pk_in ((8 * noo) + 2) 160 (by omega)) ?_
          rw [nI_clamp (show ((8 * noo) + 2) < 2 ^ 31 by omega)]
          refine am_eq_r (q' := (367, [some (.ref 19), some (.int (nI t)), some (.int (nI (8 * noo))), some (.int (nI nv)), some (.int (nI u)), some (.int x5), none], [], wd C (upd (upd (upd Yf.1 4 (nI nv)) 5 (nI u)) 6 (nI n), wd_u Yf.2.1 1 (upd (Yf.2.1 1) ((8 * noo) + 2) (-1)), Yf.2.2) og)) rfl ?_
          refine am_steps_r ok_M_readObject 7 (q' := (378, [some (.ref 19), some (.int (nI t)), some (.int (nI (8 * noo))), some (.int (nI nv)), some (.int (nI u)), some (.int x5), none], [.int (Yf.1 7), .int ((nI (8 * noo)) + 3), .ref 21], wd C (upd (upd (upd Yf.1 4 (nI nv)) 5 (nI u)) 6 (nI n), wd_u Yf.2.1 1 (upd (Yf.2.1 1) ((8 * noo) + 2) (-1)), Yf.2.2) og)) rfl ?_
          rw [show ((nI (8 * noo)) + 3 : Int32) = nI ((8 * noo) + 3) from nI_add (8 * noo) 3]
          refine am_iast_r ok_M_readObject rfl (w := wd C (upd (upd (upd Yf.1 4 (nI nv)) 5 (nI u)) 6 (nI n), wd_u Yf.2.1 1 (upd (Yf.2.1 1) ((8 * noo) + 2) (-1)), Yf.2.2) og) (f := (upd (Yf.2.1 1) ((8 * noo) + 2) (-1))) rfl rfl (pk_in ((8 * noo) + 3) 160 (by omega)) ?_
          rw [nI_clamp (show ((8 * noo) + 3) < 2 ^ 31 by omega)]
          refine am_eq_r (q' := (379, [some (.ref 19), some (.int (nI t)), some (.int (nI (8 * noo))), some (.int (nI nv)), some (.int (nI u)), some (.int x5), none], [], wd C (upd (upd (upd Yf.1 4 (nI nv)) 5 (nI u)) 6 (nI n), wd_u Yf.2.1 1 (upd (upd (Yf.2.1 1) ((8 * noo) + 2) (-1)) ((8 * noo) + 3) (Yf.1 7)), Yf.2.2) og)) rfl ?_
          refine am_steps_r ok_M_readObject 8 (q' := (bif decide ((Yf.1 7) = 0) then 393 else 397, [some (.ref 19), some (.int (nI t)), some (.int (nI (8 * noo))), some (.int (nI nv)), some (.int (nI u)), some (.int x5), none], [.int ((nI (8 * noo)) + 4), .ref 21], wd C (upd (upd (upd Yf.1 4 (nI nv)) 5 (nI u)) 6 (nI n), wd_u Yf.2.1 1 (upd (upd (Yf.2.1 1) ((8 * noo) + 2) (-1)) ((8 * noo) + 3) (Yf.1 7)), Yf.2.2) og)) rfl ?_
          rw [show ((nI (8 * noo)) + 4 : Int32) = nI ((8 * noo) + 4) from nI_add (8 * noo) 4]
          refine am_br_r (fun h_4 => ?_) (fun h_4 => ?_)
          · skip
            first | contradiction | (exfalso; simp_all; done)
          · skip
            refine am_steps_r ok_M_readObject 2 (q' := (401, [some (.ref 19), some (.int (nI t)), some (.int (nI (8 * noo))), some (.int (nI nv)), some (.int (nI u)), some (.int x5), none], [.int (Yf.1 8), .int (nI ((8 * noo) + 4)), .ref 21], wd C (upd (upd (upd Yf.1 4 (nI nv)) 5 (nI u)) 6 (nI n), wd_u Yf.2.1 1 (upd (upd (Yf.2.1 1) ((8 * noo) + 2) (-1)) ((8 * noo) + 3) (Yf.1 7)), Yf.2.2) og)) rfl ?_
            rw [show (Yf.1 8 : Int32) = nI p from f8]
            refine am_iast_r ok_M_readObject rfl (w := wd C (upd (upd (upd Yf.1 4 (nI nv)) 5 (nI u)) 6 (nI n), wd_u Yf.2.1 1 (upd (upd (Yf.2.1 1) ((8 * noo) + 2) (-1)) ((8 * noo) + 3) (Yf.1 7)), Yf.2.2) og) (f := (upd (upd (Yf.2.1 1) ((8 * noo) + 2) (-1)) ((8 * noo) + 3) (Yf.1 7))) rfl rfl (pk_in ((8 * noo) + 4) 160 (by omega)) ?_
            rw [nI_clamp (show ((8 * noo) + 4) < 2 ^ 31 by omega)]
            refine am_eq_r (q' := (402, [some (.ref 19), some (.int (nI t)), some (.int (nI (8 * noo))), some (.int (nI nv)), some (.int (nI u)), some (.int x5), none], [], wd C (upd (upd (upd Yf.1 4 (nI nv)) 5 (nI u)) 6 (nI n), wd_u Yf.2.1 1 (upd (upd (upd (Yf.2.1 1) ((8 * noo) + 2) (-1)) ((8 * noo) + 3) (Yf.1 7)) ((8 * noo) + 4) (nI p)), Yf.2.2) og)) rfl ?_
            refine am_steps_r ok_M_readObject 7 (q' := (413, [some (.ref 19), some (.int (nI t)), some (.int (nI (8 * noo))), some (.int (nI nv)), some (.int (nI u)), some (.int x5), none], [.int (Yf.1 9), .int ((nI (8 * noo)) + 5), .ref 21], wd C (upd (upd (upd Yf.1 4 (nI nv)) 5 (nI u)) 6 (nI n), wd_u Yf.2.1 1 (upd (upd (upd (Yf.2.1 1) ((8 * noo) + 2) (-1)) ((8 * noo) + 3) (Yf.1 7)) ((8 * noo) + 4) (nI p)), Yf.2.2) og)) rfl ?_
            rw [show ((nI (8 * noo)) + 5 : Int32) = nI ((8 * noo) + 5) from nI_add (8 * noo) 5]
            refine am_iast_r ok_M_readObject rfl (w := wd C (upd (upd (upd Yf.1 4 (nI nv)) 5 (nI u)) 6 (nI n), wd_u Yf.2.1 1 (upd (upd (upd (Yf.2.1 1) ((8 * noo) + 2) (-1)) ((8 * noo) + 3) (Yf.1 7)) ((8 * noo) + 4) (nI p)), Yf.2.2) og) (f := (upd (upd (upd (Yf.2.1 1) ((8 * noo) + 2) (-1)) ((8 * noo) + 3) (Yf.1 7)) ((8 * noo) + 4) (nI p))) rfl rfl (pk_in ((8 * noo) + 5) 160 (by omega)) ?_
            rw [nI_clamp (show ((8 * noo) + 5) < 2 ^ 31 by omega)]
            refine am_eq_r (q' := (414, [some (.ref 19), some (.int (nI t)), some (.int (nI (8 * noo))), some (.int (nI nv)), some (.int (nI u)), some (.int x5), none], [], wd C (upd (upd (upd Yf.1 4 (nI nv)) 5 (nI u)) 6 (nI n), wd_u Yf.2.1 1 (upd (upd (upd (upd (Yf.2.1 1) ((8 * noo) + 2) (-1)) ((8 * noo) + 3) (Yf.1 7)) ((8 * noo) + 4) (nI p)) ((8 * noo) + 5) (Yf.1 9)), Yf.2.2) og)) rfl ?_
            refine am_steps_r ok_M_readObject 7 (q' := (426, [some (.ref 19), some (.int (nI t)), some (.int (nI (8 * noo))), some (.int (nI nv)), some (.int (nI u)), some (.int x5), none], [.int (nI n), .int ((nI (8 * noo)) + 7), .ref 21], wd C (upd (upd (upd Yf.1 4 (nI nv)) 5 (nI u)) 6 (nI n), wd_u Yf.2.1 1 (upd (upd (upd (upd (Yf.2.1 1) ((8 * noo) + 2) (-1)) ((8 * noo) + 3) (Yf.1 7)) ((8 * noo) + 4) (nI p)) ((8 * noo) + 5) (Yf.1 9)), Yf.2.2) og)) rfl ?_
            rw [show ((nI (8 * noo)) + 7 : Int32) = nI ((8 * noo) + 7) from nI_add (8 * noo) 7]
            refine am_iast_r ok_M_readObject rfl (w := wd C (upd (upd (upd Yf.1 4 (nI nv)) 5 (nI u)) 6 (nI n), wd_u Yf.2.1 1 (upd (upd (upd (upd (Yf.2.1 1) ((8 * noo) + 2) (-1)) ((8 * noo) + 3) (Yf.1 7)) ((8 * noo) + 4) (nI p)) ((8 * noo) + 5) (Yf.1 9)), Yf.2.2) og) (f := (upd (upd (upd (upd (Yf.2.1 1) ((8 * noo) + 2) (-1)) ((8 * noo) + 3) (Yf.1 7)) ((8 * noo) + 4) (nI p)) ((8 * noo) + 5) (Yf.1 9))) rfl rfl (pk_in ((8 * noo) + 7) 160 (by omega)) ?_
            rw [nI_clamp (show ((8 * noo) + 7) < 2 ^ 31 by omega)]
            refine am_eq_r (q' := (427, [some (.ref 19), some (.int (nI t)), some (.int (nI (8 * noo))), some (.int (nI nv)), some (.int (nI u)), some (.int x5), none], [], wd C (upd (upd (upd Yf.1 4 (nI nv)) 5 (nI u)) 6 (nI n), wd_u Yf.2.1 1 (upd (upd (upd (upd (upd (Yf.2.1 1) ((8 * noo) + 2) (-1)) ((8 * noo) + 3) (Yf.1 7)) ((8 * noo) + 4) (nI p)) ((8 * noo) + 5) (Yf.1 9)) ((8 * noo) + 7) (nI n)), Yf.2.2) og)) rfl ?_
            refine am_steps_r ok_M_readObject 6 (q' := (437, [some (.ref 19), some (.int (nI t)), some (.int (nI (8 * noo))), some (.int (nI nv)), some (.int (nI u)), some (.int x5), none], [], wd C (upd (upd (upd (upd Yf.1 4 (nI nv)) 5 (nI u)) 6 (nI n)) 2 ((Yf.1 2) + 1), wd_u Yf.2.1 1 (upd (upd (upd (upd (upd (Yf.2.1 1) ((8 * noo) + 2) (-1)) ((8 * noo) + 3) (Yf.1 7)) ((8 * noo) + 4) (nI p)) ((8 * noo) + 5) (Yf.1 9)) ((8 * noo) + 7) (nI n)), Yf.2.2) og)) rfl ?_
            rw [show (Yf.1 2 : Int32) = nI noo from f2]
            rw [show ((nI noo) + 1 : Int32) = nI (noo + 1) from nI_add noo 1]
            refine am_vret_r ok_M_readObject rfl rfl rfl ?_
            have hat : neE b (n - p) p = n := by
              rw [hne, show n - q = 0 by omega, neE]; omega
            have hrw : ∀ i, i < noo + 1 → ∀ j, j < 8 → (upd (upd (upd (upd (upd (Yf.2.1 1) (8 * noo + 2) (-1)) (8 * noo + 3) (Yf.1 7)) (8 * noo + 4) (nI p)) (8 * noo + 5) (Yf.1 9)) (8 * noo + 7) (nI (n))) (8 * i + j) = va_up E noo (rw8 (obA b n k) (obG b n k) (-1) (Yf.1 7) (nI p) (Yf.1 9) (nI k) (nI (n))) i j := ob_rowY (fun i hi j hj => by rw [upd_ne (by omega), upd_ne (by omega), upd_ne (by omega), upd_ne (by omega), upd_ne (by omega)]; exact a1 i hi j hj) (by rw [upd_ne (by omega), upd_ne (by omega), upd_ne (by omega), upd_ne (by omega), upd_ne (by omega)]; exact a2) (by rw [upd_ne (by omega), upd_ne (by omega), upd_ne (by omega), upd_ne (by omega), upd_ne (by omega)]; exact a3) (by simp [upd]) (by simp [upd]) (by simp [upd]) (by simp [upd]) (by rw [upd_ne (by omega), upd_ne (by omega), upd_ne (by omega), upd_ne (by omega), upd_ne (by omega)]; exact a4) (by simp [upd])
            rw [f7, f9] at hrw
            refine hpo _ ⟨_, rfl, hT, f3, f0, fw, ⟨rfl, by omega, fun i hi j hj => ?_⟩, by rw [hat]; rfl, vsY_ar hcut rfl rfl (fun j h1 h2 => wd_u_ne (by omega)) rfl⟩
            rw [show (rowR n b (obA b n k) (obG b n k) k (.inl (c, p, no'))) = rw8 (obA b n k) (obG b n k) (-1) c (nI p) no' (nI k) (nI (neE b (n - p) p)) from rfl, hat]
            show wd_u Yf.2.1 1 _ 1 (8 * i + j) = _
            rw [show ∀ (A : Nat → Nat → Int32) (F : Nat → Int32), wd_u A 1 F 1 = F from fun A F => if_pos rfl, f7, f9]
            exact hrw i hi j hj
      · skip
        have h_2 : ¬ n ≤ q := fun z => h_2 ((nI_leI (show n < 2 ^ 31 by omega) (show q < 2 ^ 31 by omega)).mpr z)
        first | contradiction | exact absurd (show (nI q) < (nI n) by assumption) (Int32.not_lt.mpr (show (nI n) ≤ (nI q) by assumption)) | exact absurd (Int32.not_le.mp (show ¬ (nI n) ≤ (nI q) by assumption)) (show ¬ (nI q) < (nI n) by assumption) | (exfalso; omega)
    · skip
      have h_1 : ¬ n ≤ q := fun z => h_1 ((nI_leI (show n < 2 ^ 31 by omega) (show q < 2 ^ 31 by omega)).mpr z)
      refine am_steps_r ok_M_readObject 4 (q' := (282, [some (.ref 19), some (.int (nI t)), some (.int (nI (8 * noo))), some (.int (nI nv)), some (.int (nI u)), some (.int x5), none], [.int 1, .int (nI q), .ref 19], wd C (upd (upd (upd Yf.1 4 (nI nv)) 5 (nI u)) 6 (nI q), Yf.2) og)) rfl ?_
      refine am_callV_r (As := [.int (nI q), .int 1]) (rest := []) ok_M_readObject rfl rfl ok_M_isWord oi_M_isWord lk_6_182 (Or.inl ⟨_, _, _, rfl, rfl, rfl⟩) rfl rfl (Nat.le_of_ble_eq_true rfl) (c_M_isWord_1 _ C (upd (upd (upd Yf.1 4 (nI nv)) 5 (nI u)) 6 (nI q), Yf.2) og n b hT q (by omega)) ?_
      rintro v_ w_ ⟨rfl, rfl⟩ -
      refine am_eq_r (q' := (285, [some (.ref 19), some (.int (nI t)), some (.int (nI (8 * noo))), some (.int (nI nv)), some (.int (nI u)), some (.int x5), none], [.int (bz (wdA b st_10 q))], wd C (upd (upd (upd Yf.1 4 (nI nv)) 5 (nI u)) 6 (nI q), Yf.2) og)) rfl ?_
      refine am_steps_r ok_M_readObject 1 (q' := (bif decide ((bz (wdA b st_10 q)) = 0) then 304 else 288, [some (.ref 19), some (.int (nI t)), some (.int (nI (8 * noo))), some (.int (nI nv)), some (.int (nI u)), some (.int x5), none], [], wd C (upd (upd (upd Yf.1 4 (nI nv)) 5 (nI u)) 6 (nI q), Yf.2) og)) rfl ?_
      refine am_bz_r (fun h_6 => ?_) (fun h_6 => ?_)
      · skip
        refine am_steps_r ok_M_readObject 5 (q' := (295, [some (.ref 19), some (.int (nI t)), some (.int (nI (8 * noo))), some (.int (nI nv)), some (.int (nI u)), some (.int x5), none], [.int ((nI q) - 1), .ref 19], wd C (upd (upd (upd Yf.1 4 (nI nv)) 5 (nI u)) 6 (nI q), Yf.2) og)) rfl ?_
        rw [show ((nI q) - 1 : Int32) = nI (q - 1) from pk_sub (a := q) (b := 1) (by omega)]
        refine am_callV_r (As := [.int (nI (q - 1))]) (rest := []) ok_M_readObject rfl rfl ok_M_byteAt oi_M_byteAt lk_6_78 (Or.inl ⟨_, _, _, rfl, rfl, rfl⟩) rfl rfl (Nat.le_of_ble_eq_true rfl) (c_M_byteAt _ C (upd (upd (upd Yf.1 4 (nI nv)) 5 (nI u)) 6 (nI q), Yf.2) og n b hT (q - 1) (by omega)) ?_
        rintro v_ w_ ⟨rfl, rfl⟩ -
        refine am_eq_r (q' := (298, [some (.ref 19), some (.int (nI t)), some (.int (nI (8 * noo))), some (.int (nI nv)), some (.int (nI u)), some (.int x5), none], [.int (b (q - 1))], wd C (upd (upd (upd Yf.1 4 (nI nv)) 5 (nI u)) 6 (nI q), Yf.2) og)) rfl ?_
        refine am_callS_r (As := [.int (b (q - 1))]) (rest := []) ok_M_readObject rfl rfl ok_M_isRegular os_M_isRegular lk_6_85 rfl rfl (Nat.le_of_ble_eq_true rfl) (c_M_isRegular _ C (upd (upd (upd Yf.1 4 (nI nv)) 5 (nI u)) 6 (nI q), Yf.2) og (b (q - 1))) ?_
        rintro v_ w_ ⟨rfl, rfl⟩ -
        refine am_eq_r (q' := (301, [some (.ref 19), some (.int (nI t)), some (.int (nI (8 * noo))), some (.int (nI nv)), some (.int (nI u)), some (.int x5), none], [.int (bz (isReg (b (q - 1))))], wd C (upd (upd (upd Yf.1 4 (nI nv)) 5 (nI u)) 6 (nI q), Yf.2) og)) rfl ?_
        refine am_steps_r ok_M_readObject 1 (q' := (bif decide ((bz (isReg (b (q - 1)))) = 0) then 317 else 304, [some (.ref 19), some (.int (nI t)), some (.int (nI (8 * noo))), some (.int (nI nv)), some (.int (nI u)), some (.int x5), none], [], wd C (upd (upd (upd Yf.1 4 (nI nv)) 5 (nI u)) 6 (nI q), Yf.2) og)) rfl ?_
        refine am_bz_r (fun h_9 => ?_) (fun h_9 => ?_)
        · skip
          refine am_steps_r ok_M_readObject 7 (q' := (265, [some (.ref 19), some (.int (nI t)), some (.int (nI (8 * noo))), some (.int (nI nv)), some (.int (nI u)), some (.int x5), none], [], wd C (upd (upd (upd Yf.1 4 (nI nv)) 5 (nI u)) 6 ((nI q) + 1), Yf.2) og)) rfl ?_
          rw [show ((nI q) + 1 : Int32) = nI (q + 1) from nI_add q 1]
          refine ih post (q + 1) (by omega) (by omega) ?_ hpo (by omega)
          rw [hne, show n - q = (n - (q + 1)) + 1 by omega, neE, if_neg (fun z => by first | exact absurd z.1 (by rw [show wdA b st_10 q = false by assumption]; decide) | exact absurd z.2 (by rw [show isReg (b (q - 1)) = true by assumption]; decide))]
        · skip
          refine am_steps_r ok_M_readObject 6 (q' := (bif decide ((Yf.1 1) ≤ (nI q)) then 339 else 329, [some (.ref 19), some (.int (nI t)), some (.int (nI (8 * noo))), some (.int (nI nv)), some (.int (nI u)), some (.int x5), none], [.ref 19], wd C (upd (upd (upd Yf.1 4 (nI nv)) 5 (nI u)) 6 (nI q), Yf.2) og)) rfl ?_
          rw [show (Yf.1 1 : Int32) = nI n from hT.1]
          refine am_br_r (fun h_10 => ?_) (fun h_10 => ?_)
          · skip
            have h_10 : n ≤ q := (nI_leI (show n < 2 ^ 31 by omega) (show q < 2 ^ 31 by omega)).mp h_10
            first | contradiction | exact absurd (show (nI q) < (nI n) by assumption) (Int32.not_lt.mpr (show (nI n) ≤ (nI q) by assumption)) | exact absurd (Int32.not_le.mp (show ¬ (nI n) ≤ (nI q) by assumption)) (show ¬ (nI q) < (nI n) by assumption) | (exfalso; omega)
          · skip
            have h_10 : ¬ n ≤ q := fun z => h_10 ((nI_leI (show n < 2 ^ 31 by omega) (show q < 2 ^ 31 by omega)).mpr z)
            refine am_steps_r ok_M_readObject 14 (q' := (bif decide ((Yf.1 7) = 0) then 360 else 365, [some (.ref 19), some (.int (nI t)), some (.int (nI (8 * noo))), some (.int (nI nv)), some (.int (nI u)), some (.int x5), none], [.int ((nI (8 * noo)) + 2), .ref 21], wd C (upd (upd (upd Yf.1 4 (nI nv)) 5 (nI u)) 6 ((nI q) + 6), Yf.2) og)) rfl ?_
            rw [show ((nI q) + 6 : Int32) = nI (q + 6) from nI_add q 6]
            rw [show ((nI (8 * noo)) + 2 : Int32) = nI ((8 * noo) + 2) from nI_add (8 * noo) 2]
            refine am_br_r (fun h_11 => ?_) (fun h_11 => ?_)
            · skip
              exact absurd (f7.symm.trans h_11) fc
            · skip
              refine am_steps_r ok_M_readObject 1 (q' := (366, [some (.ref 19), some (.int (nI t)), some (.int (nI (8 * noo))), some (.int (nI nv)), some (.int (nI u)), some (.int x5), none], [.int (-1), .int (nI ((8 * noo) + 2)), .ref 21], wd C (upd (upd (upd Yf.1 4 (nI nv)) 5 (nI u)) 6 (nI (q + 6)), Yf.2) og)) rfl ?_
              refine am_iast_r ok_M_readObject rfl (w := wd C (upd (upd (upd Yf.1 4 (nI nv)) 5 (nI u)) 6 (nI (q + 6)), Yf.2) og) (f := Yf.2.1 1) rfl rfl (pk_in ((8 * noo) + 2) 160 (by omega)) ?_
              rw [nI_clamp (show ((8 * noo) + 2) < 2 ^ 31 by omega)]
              refine am_eq_r (q' := (367, [some (.ref 19), some (.int (nI t)), some (.int (nI (8 * noo))), some (.int (nI nv)), some (.int (nI u)), some (.int x5), none], [], wd C (upd (upd (upd Yf.1 4 (nI nv)) 5 (nI u)) 6 (nI (q + 6)), wd_u Yf.2.1 1 (upd (Yf.2.1 1) ((8 * noo) + 2) (-1)), Yf.2.2) og)) rfl ?_
              refine am_steps_r ok_M_readObject 7 (q' := (378, [some (.ref 19), some (.int (nI t)), some (.int (nI (8 * noo))), some (.int (nI nv)), some (.int (nI u)), some (.int x5), none], [.int (Yf.1 7), .int ((nI (8 * noo)) + 3), .ref 21], wd C (upd (upd (upd Yf.1 4 (nI nv)) 5 (nI u)) 6 (nI (q + 6)), wd_u Yf.2.1 1 (upd (Yf.2.1 1) ((8 * noo) + 2) (-1)), Yf.2.2) og)) rfl ?_
              rw [show ((nI (8 * noo)) + 3 : Int32) = nI ((8 * noo) + 3) from nI_add (8 * noo) 3]
              refine am_iast_r ok_M_readObject rfl (w := wd C (upd (upd (upd Yf.1 4 (nI nv)) 5 (nI u)) 6 (nI (q + 6)), wd_u Yf.2.1 1 (upd (Yf.2.1 1) ((8 * noo) + 2) (-1)), Yf.2.2) og) (f := (upd (Yf.2.1 1) ((8 * noo) + 2) (-1))) rfl rfl (pk_in ((8 * noo) + 3) 160 (by omega)) ?_
              rw [nI_clamp (show ((8 * noo) + 3) < 2 ^ 31 by omega)]
              refine am_eq_r (q' := (379, [some (.ref 19), some (.int (nI t)), some (.int (nI (8 * noo))), some (.int (nI nv)), some (.int (nI u)), some (.int x5), none], [], wd C (upd (upd (upd Yf.1 4 (nI nv)) 5 (nI u)) 6 (nI (q + 6)), wd_u Yf.2.1 1 (upd (upd (Yf.2.1 1) ((8 * noo) + 2) (-1)) ((8 * noo) + 3) (Yf.1 7)), Yf.2.2) og)) rfl ?_
              refine am_steps_r ok_M_readObject 8 (q' := (bif decide ((Yf.1 7) = 0) then 393 else 397, [some (.ref 19), some (.int (nI t)), some (.int (nI (8 * noo))), some (.int (nI nv)), some (.int (nI u)), some (.int x5), none], [.int ((nI (8 * noo)) + 4), .ref 21], wd C (upd (upd (upd Yf.1 4 (nI nv)) 5 (nI u)) 6 (nI (q + 6)), wd_u Yf.2.1 1 (upd (upd (Yf.2.1 1) ((8 * noo) + 2) (-1)) ((8 * noo) + 3) (Yf.1 7)), Yf.2.2) og)) rfl ?_
              rw [show ((nI (8 * noo)) + 4 : Int32) = nI ((8 * noo) + 4) from nI_add (8 * noo) 4]
              refine am_br_r (fun h_12 => ?_) (fun h_12 => ?_)
              · skip
                first | contradiction | (exfalso; simp_all; done)
              · skip
                refine am_steps_r ok_M_readObject 2 (q' := (401, [some (.ref 19), some (.int (nI t)), some (.int (nI (8 * noo))), some (.int (nI nv)), some (.int (nI u)), some (.int x5), none], [.int (Yf.1 8), .int (nI ((8 * noo) + 4)), .ref 21], wd C (upd (upd (upd Yf.1 4 (nI nv)) 5 (nI u)) 6 (nI (q + 6)), wd_u Yf.2.1 1 (upd (upd (Yf.2.1 1) ((8 * noo) + 2) (-1)) ((8 * noo) + 3) (Yf.1 7)), Yf.2.2) og)) rfl ?_
                rw [show (Yf.1 8 : Int32) = nI p from f8]
                refine am_iast_r ok_M_readObject rfl (w := wd C (upd (upd (upd Yf.1 4 (nI nv)) 5 (nI u)) 6 (nI (q + 6)), wd_u Yf.2.1 1 (upd (upd (Yf.2.1 1) ((8 * noo) + 2) (-1)) ((8 * noo) + 3) (Yf.1 7)), Yf.2.2) og) (f := (upd (upd (Yf.2.1 1) ((8 * noo) + 2) (-1)) ((8 * noo) + 3) (Yf.1 7))) rfl rfl (pk_in ((8 * noo) + 4) 160 (by omega)) ?_
                rw [nI_clamp (show ((8 * noo) + 4) < 2 ^ 31 by omega)]
                refine am_eq_r (q' := (402, [some (.ref 19), some (.int (nI t)), some (.int (nI (8 * noo))), some (.int (nI nv)), some (.int (nI u)), some (.int x5), none], [], wd C (upd (upd (upd Yf.1 4 (nI nv)) 5 (nI u)) 6 (nI (q + 6)), wd_u Yf.2.1 1 (upd (upd (upd (Yf.2.1 1) ((8 * noo) + 2) (-1)) ((8 * noo) + 3) (Yf.1 7)) ((8 * noo) + 4) (nI p)), Yf.2.2) og)) rfl ?_
                refine am_steps_r ok_M_readObject 7 (q' := (413, [some (.ref 19), some (.int (nI t)), some (.int (nI (8 * noo))), some (.int (nI nv)), some (.int (nI u)), some (.int x5), none], [.int (Yf.1 9), .int ((nI (8 * noo)) + 5), .ref 21], wd C (upd (upd (upd Yf.1 4 (nI nv)) 5 (nI u)) 6 (nI (q + 6)), wd_u Yf.2.1 1 (upd (upd (upd (Yf.2.1 1) ((8 * noo) + 2) (-1)) ((8 * noo) + 3) (Yf.1 7)) ((8 * noo) + 4) (nI p)), Yf.2.2) og)) rfl ?_
                rw [show ((nI (8 * noo)) + 5 : Int32) = nI ((8 * noo) + 5) from nI_add (8 * noo) 5]
                refine am_iast_r ok_M_readObject rfl (w := wd C (upd (upd (upd Yf.1 4 (nI nv)) 5 (nI u)) 6 (nI (q + 6)), wd_u Yf.2.1 1 (upd (upd (upd (Yf.2.1 1) ((8 * noo) + 2) (-1)) ((8 * noo) + 3) (Yf.1 7)) ((8 * noo) + 4) (nI p)), Yf.2.2) og) (f := (upd (upd (upd (Yf.2.1 1) ((8 * noo) + 2) (-1)) ((8 * noo) + 3) (Yf.1 7)) ((8 * noo) + 4) (nI p))) rfl rfl (pk_in ((8 * noo) + 5) 160 (by omega)) ?_
                rw [nI_clamp (show ((8 * noo) + 5) < 2 ^ 31 by omega)]
                refine am_eq_r (q' := (414, [some (.ref 19), some (.int (nI t)), some (.int (nI (8 * noo))), some (.int (nI nv)), some (.int (nI u)), some (.int x5), none], [], wd C (upd (upd (upd Yf.1 4 (nI nv)) 5 (nI u)) 6 (nI (q + 6)), wd_u Yf.2.1 1 (upd (upd (upd (upd (Yf.2.1 1) ((8 * noo) + 2) (-1)) ((8 * noo) + 3) (Yf.1 7)) ((8 * noo) + 4) (nI p)) ((8 * noo) + 5) (Yf.1 9)), Yf.2.2) og)) rfl ?_
                refine am_steps_r ok_M_readObject 7 (q' := (426, [some (.ref 19), some (.int (nI t)), some (.int (nI (8 * noo))), some (.int (nI nv)), some (.int (nI u)), some (.int x5), none], [.int (nI (q + 6)), .int ((nI (8 * noo)) + 7), .ref 21], wd C (upd (upd (upd Yf.1 4 (nI nv)) 5 (nI u)) 6 (nI (q + 6)), wd_u Yf.2.1 1 (upd (upd (upd (upd (Yf.2.1 1) ((8 * noo) + 2) (-1)) ((8 * noo) + 3) (Yf.1 7)) ((8 * noo) + 4) (nI p)) ((8 * noo) + 5) (Yf.1 9)), Yf.2.2) og)) rfl ?_
                rw [show ((nI (8 * noo)) + 7 : Int32) = nI ((8 * noo) + 7) from nI_add (8 * noo) 7]
                refine am_iast_r ok_M_readObject rfl (w := wd C (upd (upd (upd Yf.1 4 (nI nv)) 5 (nI u)) 6 (nI (q + 6)), wd_u Yf.2.1 1 (upd (upd (upd (upd (Yf.2.1 1) ((8 * noo) + 2) (-1)) ((8 * noo) + 3) (Yf.1 7)) ((8 * noo) + 4) (nI p)) ((8 * noo) + 5) (Yf.1 9)), Yf.2.2) og) (f := (upd (upd (upd (upd (Yf.2.1 1) ((8 * noo) + 2) (-1)) ((8 * noo) + 3) (Yf.1 7)) ((8 * noo) + 4) (nI p)) ((8 * noo) + 5) (Yf.1 9))) rfl rfl (pk_in ((8 * noo) + 7) 160 (by omega)) ?_
                rw [nI_clamp (show ((8 * noo) + 7) < 2 ^ 31 by omega)]
                refine am_eq_r (q' := (427, [some (.ref 19), some (.int (nI t)), some (.int (nI (8 * noo))), some (.int (nI nv)), some (.int (nI u)), some (.int x5), none], [], wd C (upd (upd (upd Yf.1 4 (nI nv)) 5 (nI u)) 6 (nI (q + 6)), wd_u Yf.2.1 1 (upd (upd (upd (upd (upd (Yf.2.1 1) ((8 * noo) + 2) (-1)) ((8 * noo) + 3) (Yf.1 7)) ((8 * noo) + 4) (nI p)) ((8 * noo) + 5) (Yf.1 9)) ((8 * noo) + 7) (nI (q + 6))), Yf.2.2) og)) rfl ?_
                refine am_steps_r ok_M_readObject 6 (q' := (437, [some (.ref 19), some (.int (nI t)), some (.int (nI (8 * noo))), some (.int (nI nv)), some (.int (nI u)), some (.int x5), none], [], wd C (upd (upd (upd (upd Yf.1 4 (nI nv)) 5 (nI u)) 6 (nI (q + 6))) 2 ((Yf.1 2) + 1), wd_u Yf.2.1 1 (upd (upd (upd (upd (upd (Yf.2.1 1) ((8 * noo) + 2) (-1)) ((8 * noo) + 3) (Yf.1 7)) ((8 * noo) + 4) (nI p)) ((8 * noo) + 5) (Yf.1 9)) ((8 * noo) + 7) (nI (q + 6))), Yf.2.2) og)) rfl ?_
                rw [show (Yf.1 2 : Int32) = nI noo from f2]
                rw [show ((nI noo) + 1 : Int32) = nI (noo + 1) from nI_add noo 1]
                refine am_vret_r ok_M_readObject rfl rfl rfl ?_
                have hat : neE b (n - p) p = q + 6 := by
                  first | (exfalso; omega) | rw [hne, show n - q = (n - (q + 1)) + 1 by omega, neE, if_pos ⟨by assumption, by assumption⟩]
                have hrw : ∀ i, i < noo + 1 → ∀ j, j < 8 → (upd (upd (upd (upd (upd (Yf.2.1 1) (8 * noo + 2) (-1)) (8 * noo + 3) (Yf.1 7)) (8 * noo + 4) (nI p)) (8 * noo + 5) (Yf.1 9)) (8 * noo + 7) (nI (q + 6))) (8 * i + j) = va_up E noo (rw8 (obA b n k) (obG b n k) (-1) (Yf.1 7) (nI p) (Yf.1 9) (nI k) (nI (q + 6))) i j := ob_rowY (fun i hi j hj => by rw [upd_ne (by omega), upd_ne (by omega), upd_ne (by omega), upd_ne (by omega), upd_ne (by omega)]; exact a1 i hi j hj) (by rw [upd_ne (by omega), upd_ne (by omega), upd_ne (by omega), upd_ne (by omega), upd_ne (by omega)]; exact a2) (by rw [upd_ne (by omega), upd_ne (by omega), upd_ne (by omega), upd_ne (by omega), upd_ne (by omega)]; exact a3) (by simp [upd]) (by simp [upd]) (by simp [upd]) (by simp [upd]) (by rw [upd_ne (by omega), upd_ne (by omega), upd_ne (by omega), upd_ne (by omega), upd_ne (by omega)]; exact a4) (by simp [upd])
                rw [f7, f9] at hrw
                refine hpo _ ⟨_, rfl, hT, f3, f0, fw, ⟨rfl, by omega, fun i hi j hj => ?_⟩, by rw [hat]; rfl, vsY_ar hcut rfl rfl (fun j h1 h2 => wd_u_ne (by omega)) rfl⟩
                rw [show (rowR n b (obA b n k) (obG b n k) k (.inl (c, p, no'))) = rw8 (obA b n k) (obG b n k) (-1) c (nI p) no' (nI k) (nI (neE b (n - p) p)) from rfl, hat]
                show wd_u Yf.2.1 1 _ 1 (8 * i + j) = _
                rw [show ∀ (A : Nat → Nat → Int32) (F : Nat → Int32), wd_u A 1 F 1 = F from fun A F => if_pos rfl, f7, f9]
                exact hrw i hi j hj
      · skip
        refine am_steps_r ok_M_readObject 7 (q' := (265, [some (.ref 19), some (.int (nI t)), some (.int (nI (8 * noo))), some (.int (nI nv)), some (.int (nI u)), some (.int x5), none], [], wd C (upd (upd (upd Yf.1 4 (nI nv)) 5 (nI u)) 6 ((nI q) + 1), Yf.2) og)) rfl ?_
        rw [show ((nI q) + 1 : Int32) = nI (q + 1) from nI_add q 1]
        refine ih post (q + 1) (by omega) (by omega) ?_ hpo (by omega)
        rw [hne, show n - q = (n - (q + 1)) + 1 by omega, neE, if_neg (fun z => by first | exact absurd z.1 (by rw [show wdA b st_10 q = false by assumption]; decide) | exact absurd z.2 (by rw [show isReg (b (q - 1)) = true by assumption]; decide))]
set_option maxHeartbeats 2000000 in
set_option maxRecDepth 100000 in
theorem tl_M_readObject_bad (d : Nat) (C : wd_C) (Y : wd_Y) (og : Nat → Int64) (n : Nat) (b : Nat → Int32) (k t nv u noo : Nat) (V : VT) (E : Nat → Nat → Int32) (hno : noo < 20) (Yf : wd_Y) (hT : tpY Yf n b) (f2 : Yf.1 2 = nI noo) (f3 : Yf.1 3 = Y.1 3) (f0 : Yf.1 0 = Y.1 0) (fw : wrY Y Yf) (a1 : ∀ i, i < noo → ∀ j, j < 8 → Yf.2.1 1 (8 * i + j) = E i j) (a2 : Yf.2.1 1 (8 * noo) = obA b n k) (a3 : Yf.2.1 1 (8 * noo + 1) = obG b n k) (a4 : Yf.2.1 1 (8 * noo + 6) = nI k) (c no' : Int32) (p nv' u' : Nat) (V' : VT) (f7 : Yf.1 7 = c) (fc : ¬ c = 0) (f8 : Yf.1 8 = nI p) (hp1 : 1 ≤ p) (hpn : p ≤ n) (f9 : Yf.1 9 = no') (hV0 : vsY Y nv u V) (ff : ∀ w, w < nv → Yf.2.1 7 w = Y.2.1 7 w) (hV : vsY Yf nv' u' V') (hb : vbe nv V V') (hnn : nv ≤ nv') (x5 : Int32) (post : Option Value → am_W → Prop) (hpo : ∀ w', (∃ Y' : wd_Y, w' = wd C Y' og ∧ obGY Y Y' n b nv u V noo E k (.inl (c, p, no'))) → post none w') : am_Rn l D cA ad fm (d + 8) m_M_readObject (wd C Y og).length post (246, [some (.ref 19), some (.int (nI t)), some (.int (nI (8 * noo))), some (.int (nI nv)), some (.int (nI u)), some (.int x5), none], [], wd C Yf og) := by
  have hn := hT.2.1
  refine am_steps_r ok_M_readObject 10 (q' := (265, [some (.ref 19), some (.int (nI t)), some (.int (nI (8 * noo))), some (.int (nI nv)), some (.int (nI u)), some (.int x5), none], [], wd C (upd (upd (upd Yf.1 4 (nI nv)) 5 (nI u)) 6 (Yf.1 8), Yf.2) og)) rfl ?_
  rw [show (Yf.1 8 : Int32) = nI p from f8]
  exact lp_M_readObject_265 d C Y og n b k t nv u noo V E hno Yf hT f2 f3 f0 fw a1 a2 a3 a4 c no' p nv' u' V' f7 fc f8 hp1 hpn f9 hV0 ff hV hb hnn x5 2000 post p (Nat.le_refl _) hpn rfl hpo (by omega)
end C89
