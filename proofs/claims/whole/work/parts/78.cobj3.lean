/-! the component reads an object, and the tape; printed by wip/gen/g78.py -/
section C78
variable {l : Launch} {D : va_G} {cA : Nat → ClassId} {ad : Nat → Nat} {fm : Value}
theorem vsC_ca {C C' : wd_C} {nv u : Nat} {V : VT} (h : vsC C nv u V) (h1 : C'.1 1 = C.1 1) (h2 : C'.1 2 = C.1 2) (ha : ∀ j, 1 ≤ j → j ≤ 9 → C'.2.1 j = C.2.1 j) (hx : C'.2.2 = C.2.2) : vsC C' nv u V := by
  obtain ⟨⟨a1, a2, a3, a4⟩, hr, hv⟩ := h
  refine ⟨⟨h1.trans a1, a2, h2.trans a3, a4⟩, fun w hw => ?_, hv⟩
  have := hr w hw
  unfold vrw vbt vch at this ⊢
  rw [ha 1 (by omega) (by omega), ha 2 (by omega) (by omega), ha 3 (by omega) (by omega), ha 4 (by omega) (by omega), ha 5 (by omega) (by omega), ha 6 (by omega) (by omega), ha 7 (by omega) (by omega), ha 8 (by omega) (by omega), ha 9 (by omega) (by omega), hx]
  exact this
set_option maxHeartbeats 2000000 in
set_option maxRecDepth 100000 in
theorem tl_R_readObject_89 (d : Nat) (C : wd_C) (Y : wd_Y) (og : Nat → Int64) (n : Nat) (b : Nat → Int32) (nv u : Nat) (V : VT) (hS : vsC C nv u V) (noo : Nat) (hno : noo < 20) (E : Nat → Nat → Int32) (hO : obC C noo E) (a g : Int32) (k0 kh : Nat) (hkh1 : 1 ≤ kh) (hkh : kh ≤ n) (hfm : fm = .null ∨ fm = .ref 3000) (C1 : wd_C) (b1 : C1.1 3 = nI (noo + 1)) (b2 : ∀ i, i < noo → ∀ j, j < 8 → C1.2.1 10 (i * 8 + j) = E i j) (b3 : C1.2.1 10 (noo * 8 + 0) = a) (b4 : C1.2.1 10 (noo * 8 + 1) = g) (b5 : C1.2.1 10 (noo * 8 + 6) = nI k0) (b6 : fC C (upd C1.1 3 (C.1 3), wd_u C1.2.1 10 (C.2.1 10), C1.2.2) nv) (hT : tpC C1 n b) (Cf : wd_C) (f1 : fC C1 Cf nv) (c no' : Int32) (p : Nat) (f5 : Cf.1 5 = c) (fc : ¬ c = 0) (f6 : Cf.1 6 = nI p) (hp1 : kh ≤ p) (hpn : p ≤ n) (f7 : Cf.1 7 = no') (nv' u' : Nat) (V' : VT) (g1 : nv ≤ nv') (g2 : u ≤ u') (g3 : vsC Cf nv' u' V') (g4 : vbe nv V V') (post : Option Value → am_W → Prop) (hp : ∀ w', (∃ C' : wd_C, w' = wd C' Y og ∧ obF C C' n b nv u V noo E a g k0 kh (.inl (c, p, no'))) → post none w') (y : Int32) : am_Rn l D cA ad fm (d + 28) m_R_readObject (wd C Y og).length post (89, [some (.ref 16), some (.int (nI k0)), some (.int (nI kh)), some (.int (nI noo)), some (.int (nI nv)), some (.int (nI u)), some (.int y)], [], wd Cf Y og) := by
  have hTf : tpC Cf n b := tpC_f hT f1
  have hn := hTf.2.1
  have hnv := hS.1.2.1
  have hn3 : Cf.1 3 = nI (noo + 1) := f1.1.2.1.trans b1
  refine am_steps_r ok_R_readObject 6 (q' := (100, [some (.ref 16), some (.int (nI k0)), some (.int (nI kh)), some (.int (nI noo)), some (.int (nI nv)), some (.int (nI u)), some (.int (-1))], [.int (nI u), .int (nI nv), .ref 3], wd Cf Y og)) rfl ?_
  refine am_callV_r (As := [.int (nI nv), .int (nI u)]) (rest := []) ok_R_readObject rfl rfl ok_V_cutBack oi_V_cutBack lk_1_45 (Or.inl ⟨_, _, _, rfl, rfl, rfl⟩) rfl rfl (Nat.le_of_ble_eq_true rfl) (c_V_cutBack _ Cf Y og nv' u' g3.1 nv u g1 g2) ?_
  rintro v_ w_ ⟨rfl, rfl⟩ -
  refine am_eq_r (q' := (103, [some (.ref 16), some (.int (nI k0)), some (.int (nI kh)), some (.int (nI noo)), some (.int (nI nv)), some (.int (nI u)), some (.int (-1))], [], wd (upd (upd Cf.1 1 (nI nv)) 2 (nI u), Cf.2) Y og)) rfl ?_
  refine am_steps_r ok_R_readObject 4 (q' := (109, [some (.ref 16), some (.int (nI k0)), some (.int (nI kh)), some (.int (nI noo)), some (.int (nI nv)), some (.int (nI u)), some (.int (-1))], [.int ((upd (upd Cf.1 1 (nI nv)) 2 (nI u), Cf.2).1 6), .ref 16, .ref 16], wd (upd (upd Cf.1 1 (nI nv)) 2 (nI u), Cf.2) Y og)) rfl ?_
  rw [show ((upd (upd Cf.1 1 (nI nv)) 2 (nI u), Cf.2).1 6 : Int32) = nI p from f6]
  refine am_callV_r (As := [.int (nI p)]) (rest := [.ref 16]) ok_R_readObject rfl rfl ok_R_behindNextEnd oi_R_behindNextEnd lk_1_113 (Or.inl ⟨_, _, _, rfl, rfl, rfl⟩) rfl rfl (Nat.le_of_ble_eq_true rfl) (c_R_behindNextEnd _ (upd (upd Cf.1 1 (nI nv)) 2 (nI u), Cf.2) Y og n b hTf hfm p (by omega) hpn) ?_
  rintro v_ w_ ⟨rfl, rfl⟩ -
  refine am_eq_r (q' := (112, [some (.ref 16), some (.int (nI k0)), some (.int (nI kh)), some (.int (nI noo)), some (.int (nI nv)), some (.int (nI u)), some (.int (-1))], [.int (nI (neE b (n - p) p)), .ref 16], wd (upd (upd Cf.1 1 (nI nv)) 2 (nI u), Cf.2) Y og)) rfl ?_
  refine am_steps_r ok_R_readObject 13 (q' := (138, [some (.ref 16), some (.int (nI k0)), some (.int (nI kh)), some (.int (nI noo)), some (.int (nI nv)), some (.int (nI u)), some (.int (-1))], [.int (nI (neE b (n - p) p)), .int ((upd (upd Cf.1 1 (nI nv)) 2 (nI u), Cf.2).1 7), .int ((upd (upd Cf.1 1 (nI nv)) 2 (nI u), Cf.2).1 6), .int ((upd (upd Cf.1 1 (nI nv)) 2 (nI u), Cf.2).1 5), .int (-1), .int (nI noo), .ref 14], wd (upd ((upd (upd Cf.1 1 (nI nv)) 2 (nI u), Cf.2).1) 4 (nI (neE b (n - p) p)), (upd (upd Cf.1 1 (nI nv)) 2 (nI u), Cf.2).2) Y og)) rfl ?_
  rw [show ((upd (upd Cf.1 1 (nI nv)) 2 (nI u), Cf.2).1 6 : Int32) = nI p from f6]
  refine am_callV_r (As := [.int (nI noo), .int (-1), .int ((upd (upd Cf.1 1 (nI nv)) 2 (nI u), Cf.2).1 5), .int (nI p), .int ((upd (upd Cf.1 1 (nI nv)) 2 (nI u), Cf.2).1 7), .int (nI (neE b (n - p) p))]) (rest := []) ok_R_readObject rfl rfl ok_O_end oi_O_end lk_1_116 (Or.inl ⟨_, _, _, rfl, rfl, rfl⟩) rfl rfl (Nat.le_of_ble_eq_true rfl) (c_O_end _ (upd ((upd (upd Cf.1 1 (nI nv)) 2 (nI u), Cf.2).1) 4 (nI (neE b (n - p) p)), (upd (upd Cf.1 1 (nI nv)) 2 (nI u), Cf.2).2) Y og noo hn3 hno (-1) ((upd (upd Cf.1 1 (nI nv)) 2 (nI u), Cf.2).1 5) (nI p) ((upd (upd Cf.1 1 (nI nv)) 2 (nI u), Cf.2).1 7) (nI (neE b (n - p) p))) ?_
  rintro v_ w_ ⟨rfl, C9, rfl, j0, j1, j2, j3, j4, j5, j6, j7, j8, j9, j10, j11⟩ -
  refine am_eq_r (q' := (141, [some (.ref 16), some (.int (nI k0)), some (.int (nI kh)), some (.int (nI noo)), some (.int (nI nv)), some (.int (nI u)), some (.int (-1))], [], wd C9 Y og)) rfl ?_
  refine am_vret_r ok_R_readObject rfl rfl rfl ?_
  have a10 : ∀ m, Cf.2.1 10 m = C1.2.1 10 m := fun m => by rw [f1.2.1.2.1]
  have hcut : vsC (upd (upd Cf.1 1 (nI nv)) 2 (nI u), Cf.2) nv u V := vsC_cut (C' := (upd Cf.1 3 (C.1 3), wd_u Cf.2.1 10 (C.2.1 10), Cf.2.2)) hS (fC_tr b6 (show fC (upd C1.1 3 (C.1 3), wd_u C1.2.1 10 (C.2.1 10), C1.2.2) (upd Cf.1 3 (C.1 3), wd_u Cf.2.1 10 (C.2.1 10), Cf.2.2) nv from ⟨⟨f1.1.1, rfl, f1.1.2.2.1, f1.1.2.2.2.1, f1.1.2.2.2.2.1, f1.1.2.2.2.2.2.1, f1.1.2.2.2.2.2.2.1, f1.1.2.2.2.2.2.2.2⟩, ⟨f1.2.1.1, rfl, f1.2.1.2.2⟩, f1.2.2⟩) (Nat.le_refl _)) (show vsC (upd Cf.1 3 (C.1 3), wd_u Cf.2.1 10 (C.2.1 10), Cf.2.2) nv' u' V' from g3) g4 g1 g2
  have h9s : ∀ j, C9.1 j = (upd (upd (upd Cf.1 1 (nI nv)) 2 (nI u)) 4 (nI (neE b (n - p) p)), Cf.2).1 j := fun j => by rw [j0]
  have h9a : ∀ j, j ≠ 10 → C9.2.1 j = Cf.2.1 j := fun j hj => j1 j hj
  have hvs : vsC C9 nv u V := vsC_ca hcut (h9s 1) (h9s 2) (fun j h1 h2 => h9a j (by omega)) j2
  refine hp _ ⟨C9, rfl, ⟨(h9s 0).trans (hTf.1), hTf.2.1, fun k hk => by rw [h9a 0 (by decide)]; exact hTf.2.2.1 k hk, hTf.2.2.2⟩, ⟨(h9s 8).trans (f1.1.2.2.1.trans b6.1.2.2.1), (h9s 11).trans (f1.1.2.2.2.1.trans b6.1.2.2.2.1), (h9s 12).trans (f1.1.2.2.2.2.1.trans b6.1.2.2.2.2.1), (h9s 13).trans (f1.1.2.2.2.2.2.1.trans b6.1.2.2.2.2.2.1), (h9s 14).trans (f1.1.2.2.2.2.2.2.1.trans b6.1.2.2.2.2.2.2.1), (h9s 15).trans (f1.1.2.2.2.2.2.2.2.trans b6.1.2.2.2.2.2.2.2), (h9a 11 (by decide)).trans (f1.2.1.2.2.trans b6.2.1.2.2)⟩, ⟨(h9s 3).trans (f1.1.2.1.trans b1), by omega, ob_row (fun i hi j hj => (j3 i hi j hj).trans ((a10 _).trans (b2 i hi j hj))) (j4.trans ((a10 _).trans b3)) (j5.trans ((a10 _).trans b4)) j6 (j7.trans f5) j8 (j9.trans f7) (j10.trans ((a10 _).trans b5)) j11⟩, (h9s 4), fc, hp1, hpn, hvs⟩
theorem c_R_readValue0 (d : Nat) (Y : wd_Y) (og : Nat → Int64) (n : Nat) (b : Nat → Int32) (nv0 : Nat) (hfm : fm = .null ∨ fm = .ref 3000) (C : wd_C) (ht : Nat → Nat) (k nv u : Nat) (V : VT) (no : Int32) (hI : rdI C n b nv0 ht k nv u V no) : am_Mt l D cA ad fm (d + 27) m_R_readValue [.ref 16, .int 0] (wd C Y og) (rdP n b C Y og nv0 0 none ht k nv u V no) := by
  have := c_R_readValue (l := l) (D := D) (cA := cA) (ad := ad) (fm := fm) Y og n b nv0 hfm 8 d 0 rfl C ht k nv u V no hI
  rw [show d + 11 + 2 * 8 = d + 27 by omega] at this
  exact this
theorem c_R_readStreamOf (d : Nat) (C : wd_C) (Y : wd_Y) (og : Nat → Int64) (n : Nat) (b : Nat → Int32) (nv0 : Nat) (ht : Nat → Nat) (k nv u : Nat) (V : VT) (no : Int32) (hI : rdI C n b nv0 ht k nv u V no) (x : Nat) (hx : x < nv) (hfx : vfr C nv V x) (noo : Nat) (E : Nat → Nat → Int32) (hO : obC C noo E) (hob : obV nv noo E) (hfm : fm = .null ∨ fm = .ref 3000) (hk1 : 1 ≤ k) : am_Mt l D cA ad fm (d + 7) m_R_readStreamOf [.ref 16, .int (nI x)] (wd C Y og) (soO C Y og n nv0 k nv u V (stmR n b k nv u V no x (tlO (tlN V E noo x)))) := by
  rcases Nat.lt_or_ge nv 300 with h3 | h3
  · exact c_R_readStreamOf_i d C Y og n b nv0 ht k nv u V no hI x hx hfx noo E hO hob hfm hk1 h3
  · exact c_R_readStreamOf_f d C Y og n b nv0 ht k nv u V no hI x hx hfx noo E hO hob hfm hk1 (by have := hI.2.2.2.2.1.1.2.1; omega)
set_option maxHeartbeats 2000000 in
set_option maxRecDepth 100000 in
theorem c_R_readObject (d : Nat) (C : wd_C) (Y : wd_Y) (og : Nat → Int64) (n : Nat) (b : Nat → Int32) (hT : tpC C n b) (ht : Nat → Nat) (nv u : Nat) (V : VT) (hS : vsC C nv u V) (hg : hG nv V ht) (noo : Nat) (E : Nat → Nat → Int32) (hO : obC C noo E) (hob : obV nv noo E) (hno : noo < 20) (a g : Int32) (ha9 : C.1 9 = a) (hg9 : C.1 10 = g) (k0 kh : Nat) (hkh1 : 1 ≤ kh) (hkh : kh ≤ n) (hk0 : k0 ≤ n) (huk : u ≤ kh) (hfm : fm = .null ∨ fm = .ref 3000)  : am_Mt l D cA ad fm (d + 28) m_R_readObject [.ref 16, .int (nI k0), .int (nI kh)] (wd C Y og) (obP C Y og n b nv u V noo E a g k0 kh) := by
  subst ha9
  subst hg9
  have hn := hT.2.1
  have hnv := hS.1.2.1
  have hu2 := hS.1.2.2.2
  refine am_mt ok_R_readObject (by simp [am_arg, Value.category, m_R_readObject, am_ml]) ?_
  refine am_eq_r (q' := (0, [some (.ref 16), some (.int (nI k0)), some (.int (nI kh)), none, none, none, none], [], wd C Y og)) rfl ?_
  refine am_steps_r ok_R_readObject 7 (q' := (13, [some (.ref 16), some (.int (nI k0)), some (.int (nI kh)), none, none, none, none], [.int (nI k0), .int (C.1 10), .int (C.1 9), .ref 14], wd C Y og)) rfl ?_
  refine am_callV_r (As := [.int (C.1 9), .int (C.1 10), .int (nI k0)]) (rest := []) ok_R_readObject rfl rfl ok_O_begin oi_O_begin lk_1_96 (Or.inl ⟨_, _, _, rfl, rfl, rfl⟩) rfl rfl (Nat.le_of_ble_eq_true rfl) (c_O_begin _ C Y og noo hO.1 hno (C.1 9) (C.1 10) (nI k0)) ?_
  rintro v_ w_ ⟨rfl, C1, rfl, p0, p1, p2, p3, p4, p5, p6, p7, p8⟩ -
  have hS1 : vsC C1 nv u V := vsC_ca hS (p0 1 (by decide)) (p0 2 (by decide)) (fun j h1 h2 => p2 j (by omega)) p3
  have hT1 : tpC C1 n b := ⟨(p0 0 (by decide)).trans hT.1, hT.2.1, fun k hk => by rw [p2 0 (by decide)]; exact hT.2.2.1 k hk, hT.2.2.2⟩
  have b2 : ∀ i, i < noo → ∀ j, j < 8 → C1.2.1 10 (i * 8 + j) = E i j := fun i hi j hj => (p4 i hi j hj).trans (hO.2.2 i hi j hj)
  have b6 : fC C (upd C1.1 3 (C.1 3), wd_u C1.2.1 10 (C.2.1 10), C1.2.2) nv := ⟨⟨p0 0 (by decide), rfl, p0 8 (by decide), p0 11 (by decide), p0 12 (by decide), p0 13 (by decide), p0 14 (by decide), p0 15 (by decide)⟩, ⟨p2 0 (by decide), rfl, p2 11 (by decide)⟩, fun w _ => congrFun (p2 2 (by decide)) w⟩
  have hO1 : obC C1 (noo + 1) (fun i j => C1.2.1 10 (i * 8 + j)) := ⟨p1, by omega, fun _ _ _ _ => rfl⟩
  refine am_eq_r (q' := (16, [some (.ref 16), some (.int (nI k0)), some (.int (nI kh)), none, none, none, none], [.int (nI noo)], wd C1 Y og)) rfl ?_
  refine am_steps_r ok_R_readObject 3 (q' := (21, [some (.ref 16), some (.int (nI k0)), some (.int (nI kh)), some (.int (nI noo)), none, none, none], [.ref 3], wd C1 Y og)) rfl ?_
  refine am_callV_r (As := []) (rest := []) ok_R_readObject rfl rfl ok_V_size oi_V_size lk_1_100 (Or.inl ⟨_, _, _, rfl, rfl, rfl⟩) rfl rfl (Nat.le_of_ble_eq_true rfl) (c_V_size _ C1 Y og nv u hS1.1) ?_
  rintro v_ w_ ⟨rfl, rfl⟩ -
  refine am_eq_r (q' := (24, [some (.ref 16), some (.int (nI k0)), some (.int (nI kh)), some (.int (nI noo)), none, none, none], [.int (nI nv)], wd C1 Y og)) rfl ?_
  refine am_steps_r ok_R_readObject 3 (q' := (30, [some (.ref 16), some (.int (nI k0)), some (.int (nI kh)), some (.int (nI noo)), some (.int (nI nv)), none, none], [.ref 3], wd C1 Y og)) rfl ?_
  refine am_callV_r (As := []) (rest := []) ok_R_readObject rfl rfl ok_V_byteSize oi_V_byteSize lk_1_101 (Or.inl ⟨_, _, _, rfl, rfl, rfl⟩) rfl rfl (Nat.le_of_ble_eq_true rfl) (c_V_byteSize _ C1 Y og nv u hS1.1) ?_
  rintro v_ w_ ⟨rfl, rfl⟩ -
  refine am_eq_r (q' := (33, [some (.ref 16), some (.int (nI k0)), some (.int (nI kh)), some (.int (nI noo)), some (.int (nI nv)), none, none], [.int (nI u)], wd C1 Y og)) rfl ?_
  refine am_steps_r ok_R_readObject 15 (q' := (57, [some (.ref 16), some (.int (nI k0)), some (.int (nI kh)), some (.int (nI noo)), some (.int (nI nv)), some (.int (nI u)), none], [.int 0, .ref 16], wd (upd (upd (upd (upd C1.1 5 0) 6 (-1)) 7 0) 4 (nI kh), C1.2) Y og)) rfl ?_
  have hIx : rdI (upd (upd (upd (upd C1.1 5 0) 6 (-1)) 7 0) 4 (nI kh), C1.2) n b nv ht kh nv u V 0 := ⟨hT1, rfl, ⟨rfl, rfl⟩, rfl, hS1, hkh, huk, Nat.le_refl _, hg⟩
  refine am_callV_r (As := [.int 0]) (rest := []) ok_R_readObject rfl rfl ok_R_readValue oi_R_readValue lk_1_104 (Or.inl ⟨_, _, _, rfl, rfl, rfl⟩) rfl rfl (Nat.le_of_ble_eq_true rfl) (c_R_readValue0 _ Y og n b nv hfm (upd (upd (upd (upd C1.1 5 0) 6 (-1)) 7 0) 4 (nI kh), C1.2) ht kh nv u V 0 hIx) ?_
  rintro v_ w_ ⟨r_, hR, hQ⟩ -
  have hlw := Rd_lw hT.2.2.2 hR
  rcases r_ with ⟨c, p, no1⟩ | ⟨x, k2, nv2, u2, V2, no2⟩
  · obtain ⟨rfl, Cf, rfl, f5, fc, f6, fp, f7, ff, nv9, u9, V9, g1, g2, g3, g4⟩ := hQ
    have f1 : fC C1 Cf nv := ff
    have hlo : kh ≤ p := hlw
    have hfx : rdFx n nv u V (.inl (c, p, no1)) := fc
    have hfin : fin2 n b (fin1 n b E noo (.inl (c, p, no1))) = .inl (c, p, no1) := rfl
    refine am_eq_r (q' := (60, [some (.ref 16), some (.int (nI k0)), some (.int (nI kh)), some (.int (nI noo)), some (.int (nI nv)), some (.int (nI u)), none], [.int (-1)], wd Cf Y og)) rfl ?_
    refine am_steps_r ok_R_readObject 7 (q' := (89, [some (.ref 16), some (.int (nI k0)), some (.int (nI kh)), some (.int (nI noo)), some (.int (nI nv)), some (.int (nI u)), some (.int (-1))], [], wd Cf Y og)) rfl ?_
    exact tl_R_readObject_89 d C Y og n b nv u V hS noo hno E hO _ _ k0 kh hkh1 hkh hfm C1 p1 b2 p5 p6 p8 b6 hT1 Cf f1 c no1 p f5 fc f6 hlo fp f7 nv9 u9 V9 g1 g2 g3 g4 _ (fun w' hw => by obtain ⟨C9, e9, hF⟩ := hw; exact ⟨rfl, _, C9, hR, hfx, e9, by rw [hfin]; exact hF⟩) (-1)
  · obtain ⟨rfl, C2, ht2, rfl, hI2, hT2, q1, q2, q3, q4, q5, q6⟩ := rdO_ok (show tpC (upd (upd (upd (upd C1.1 5 0) 6 (-1)) 7 0) 4 (nI kh), C1.2) n b from hT1) (Nat.le_refl _) hQ
    have hn2 := hI2.2.2.2.2.1.1.2.1
    have hfx : rdFx n nv u V (.inr (x, k2, nv2, u2, V2, no2)) := ⟨vsC_ok hI2.2.2.2.2.1, q4, q6.2, hI2.2.2.2.2.2.1, hI2.2.2.2.2.2.2.1, hn2, fun w hw => (hI2.2.2.2.2.2.2.2.2 w hw).2.2.2.2, hT2.2.1, hT2.2.2.2.2.1, fun w hw h7 => hld_even ((hI2.2.2.2.2.1.2.1 w hw).2.2.2.2.2.2.2.1 h7).2.2⟩
    refine am_eq_r (q' := (60, [some (.ref 16), some (.int (nI k0)), some (.int (nI kh)), some (.int (nI noo)), some (.int (nI nv)), some (.int (nI u)), none], [.int (nI x)], wd C2 Y og)) rfl ?_
    refine am_steps_r ok_R_readObject 4 (q' := (bif decide ((nI x) = (-1)) then 76 else 68, [some (.ref 16), some (.int (nI k0)), some (.int (nI kh)), some (.int (nI noo)), some (.int (nI nv)), some (.int (nI u)), some (.int (nI x))], [], wd C2 Y og)) rfl ?_
    refine am_br_r (fun h_3 => ?_) (fun h_3 => ?_)
    · skip
      exact absurd h_3 (nI_nm (show x < 2 ^ 31 by omega))
    · skip
      refine am_steps_r ok_R_readObject 2 (q' := (71, [some (.ref 16), some (.int (nI k0)), some (.int (nI kh)), some (.int (nI noo)), some (.int (nI nv)), some (.int (nI u)), some (.int (nI x))], [.int (nI x), .ref 16], wd C2 Y og)) rfl ?_
      have hn2 := hI2.2.2.2.2.1.1.2.1
      have hk2n := hI2.2.2.2.2.2.1
      have f12 : fC C1 C2 nv := hT2.1
      have hO2 : obC C2 (noo + 1) (fun i j => C1.2.1 10 (i * 8 + j)) := ⟨f12.1.2.1.trans p1, by omega, fun i _ j _ => by rw [f12.2.1.2.1]⟩
      have hob2 : obV nv2 (noo + 1) (fun i j => C1.2.1 10 (i * 8 + j)) := fun i hi => by
        rcases Nat.lt_or_ge i noo with h | h
        · rcases hob i h with z | ⟨w, w1, w2⟩
          · exact Or.inl ((b2 i h 2 (by omega)).trans z)
          · exact Or.inr ⟨w, by have := hT2.2.1; omega, (b2 i h 2 (by omega)).trans w2⟩
        · have e : i = noo := by omega
          subst e
          exact Or.inl p7
      refine am_callV_r (As := [.int (nI x)]) (rest := []) ok_R_readObject rfl rfl ok_R_readStreamOf oi_R_readStreamOf lk_1_107 (Or.inl ⟨_, _, _, rfl, rfl, rfl⟩) rfl rfl (Nat.le_of_ble_eq_true rfl) (c_R_readStreamOf _ C2 Y og n b nv ht2 k2 nv2 u2 V2 no2 hI2 x q4 q6 (noo + 1) (fun i j => C1.2.1 10 (i * 8 + j)) hO2 hob2 hfm (by omega)) ?_
      rintro v_ w_ hso -
      rw [tlN_skip b2 p7] at hso
      have hlw2 := stmR_lw (nv := nv2) (u := u2) (V := V2) (no := no2) (x := x) (tm := tlO (tlN V2 E noo x)) hT.2.2.2 hk2n
      rcases hsm : stmR n b k2 nv2 u2 V2 no2 x (tlO (tlN V2 E noo x)) with ⟨c, p, no1⟩ | ⟨y, k3, nv3, u3, V3, no3⟩
      · rw [hsm] at hso hlw2
        obtain ⟨rfl, Cf, rfl, f5, fc, f6, fp1, fp, f7, ff, nv9, u9, V9, g1, g2, g3, g4⟩ := hso
        have f1 : fC C1 Cf nv := fC_tr f12 ff (Nat.le_refl _)
        have hlo : kh ≤ p := by have h9 : k2 ≤ p := hlw2; omega
        have g4 : vbe nv V V9 := vbe_tr hT2.2.2.2.2.1 g4 (Nat.le_refl _)
        have g1 : nv ≤ nv9 := by have := hT2.2.1; omega
        have g2 : u ≤ u9 := by omega
        have hfin : fin2 n b (fin1 n b E noo (.inr (x, k2, nv2, u2, V2, no2))) = .inl (c, p, no1) := by show fin2 n b (stmR n b k2 nv2 u2 V2 no2 x (tlO (tlN V2 E noo x))) = _; rw [hsm]; rfl
        refine am_eq_r (q' := (74, [some (.ref 16), some (.int (nI k0)), some (.int (nI kh)), some (.int (nI noo)), some (.int (nI nv)), some (.int (nI u)), some (.int (nI x))], [.int (-1)], wd Cf Y og)) rfl ?_
        refine am_steps_r ok_R_readObject 4 (q' := (89, [some (.ref 16), some (.int (nI k0)), some (.int (nI kh)), some (.int (nI noo)), some (.int (nI nv)), some (.int (nI u)), some (.int (-1))], [], wd Cf Y og)) rfl ?_
        exact tl_R_readObject_89 d C Y og n b nv u V hS noo hno E hO _ _ k0 kh hkh1 hkh hfm C1 p1 b2 p5 p6 p8 b6 hT1 Cf f1 c no1 p f5 fc f6 hlo fp f7 nv9 u9 V9 g1 g2 g3 g4 _ (fun w' hw => by obtain ⟨C9, e9, hF⟩ := hw; exact ⟨rfl, _, C9, hR, hfx, e9, by rw [hfin]; exact hF⟩) (-1)
      · rw [hsm] at hso hlw2
        obtain ⟨rfl, C3, rfl, s4, s5, s7, sf, sS, sk, skn, sn, su, suk, sy, sb, ht3, sg⟩ := hso
        have f13 : fC C1 C3 nv := fC_tr f12 sf (Nat.le_refl _)
        have hT3 : tpC C3 n b := tpC_f hT1 f13
        have hsk3 := skW_le n b skn
        have hn30 := sS.1.2.1
        refine am_eq_r (q' := (74, [some (.ref 16), some (.int (nI k0)), some (.int (nI kh)), some (.int (nI noo)), some (.int (nI nv)), some (.int (nI u)), some (.int (nI x))], [.int (nI y)], wd C3 Y og)) rfl ?_
        refine am_steps_r ok_R_readObject 4 (q' := (bif decide ((nI y) = (-1)) then 89 else 82, [some (.ref 16), some (.int (nI k0)), some (.int (nI kh)), some (.int (nI noo)), some (.int (nI nv)), some (.int (nI u)), some (.int (nI y))], [], wd C3 Y og)) rfl ?_
        refine am_br_r (fun h_4 => ?_) (fun h_4 => ?_)
        · skip
          exact absurd h_4 (nI_nm (show y < 2 ^ 31 by omega))
        · skip
          refine am_steps_r ok_R_readObject 1 (q' := (83, [some (.ref 16), some (.int (nI k0)), some (.int (nI kh)), some (.int (nI noo)), some (.int (nI nv)), some (.int (nI u)), some (.int (nI y))], [.ref 16], wd C3 Y og)) rfl ?_
          refine am_callV_r (As := []) (rest := []) ok_R_readObject rfl rfl ok_R_readEnd oi_R_readEnd lk_1_110 (Or.inl ⟨_, _, _, rfl, rfl, rfl⟩) rfl rfl (Nat.le_of_ble_eq_true rfl) (c_R_readEnd _ C3 Y og n b hT3 hfm k3 s4 skn) ?_
          rintro v_ w_ hq_ -
          by_cases hw10 : wdA b st_10 (skW n b k3) = true
          · rw [if_pos hw10] at hq_
            obtain ⟨rfl, rfl⟩ := hq_
            have h10n := wdA10_in hT.2.2.2 hw10
            refine am_eq_r (q' := (86, [some (.ref 16), some (.int (nI k0)), some (.int (nI kh)), some (.int (nI noo)), some (.int (nI nv)), some (.int (nI u)), some (.int (nI y))], [.int 1], wd (upd C3.1 4 (nI (skW n b k3 + 6)), C3.2) Y og)) rfl ?_
            refine am_steps_r ok_R_readObject 13 (q' := (138, [some (.ref 16), some (.int (nI k0)), some (.int (nI kh)), some (.int (nI noo)), some (.int (nI nv)), some (.int (nI u)), some (.int (nI y))], [.int (nI (skW n b k3 + 6)), .int (C3.1 7), .int (C3.1 6), .int (C3.1 5), .int (nI y), .int (nI noo), .ref 14], wd (upd C3.1 4 (nI (skW n b k3 + 6)), C3.2) Y og)) rfl ?_
            have hn3 : C3.1 3 = nI (noo + 1) := f13.1.2.1.trans p1
            refine am_callV_r (As := [.int (nI noo), .int (nI y), .int (C3.1 5), .int (C3.1 6), .int (C3.1 7), .int (nI (skW n b k3 + 6))]) (rest := []) ok_R_readObject rfl rfl ok_O_end oi_O_end lk_1_116 (Or.inl ⟨_, _, _, rfl, rfl, rfl⟩) rfl rfl (Nat.le_of_ble_eq_true rfl) (c_O_end _ (upd C3.1 4 (nI (skW n b k3 + 6)), C3.2) Y og noo hn3 hno (nI y) (C3.1 5) (C3.1 6) (C3.1 7) (nI (skW n b k3 + 6))) ?_
            rintro v_ w_ ⟨rfl, C9, rfl, j0, j1, j2, j3, j4, j5, j6, j7, j8, j9, j10, j11⟩ -
            refine am_eq_r (q' := (141, [some (.ref 16), some (.int (nI k0)), some (.int (nI kh)), some (.int (nI noo)), some (.int (nI nv)), some (.int (nI u)), some (.int (nI y))], [], wd C9 Y og)) rfl ?_
            refine am_vret_r ok_R_readObject rfl rfl rfl ?_
            have hfin : fin2 n b (fin1 n b E noo (.inr (x, k2, nv2, u2, V2, no2))) = .inr (y, skW n b k3 + 6, nv3, u3, V3, no3) := by show fin2 n b (stmR n b k2 nv2 u2 V2 no2 x (tlO (tlN V2 E noo x))) = _; rw [hsm]; exact if_pos hw10
            have h9s : ∀ j, C9.1 j = (upd C3.1 4 (nI (skW n b k3 + 6))) j := fun j => by rw [j0]
            have a10 : ∀ m, C3.2.1 10 m = C1.2.1 10 m := fun m => by rw [f13.2.1.2.1]
            have hvs : vsC C9 nv3 u3 V3 := vsC_ca sS (h9s 1) (h9s 2) (fun j h1 h2 => j1 j (by omega)) j2
            refine ⟨rfl, _, C9, hR, hfx, rfl, ?_⟩
            rw [hfin]
            have hkk : k2 ≤ k3 := hlw2
            exact ⟨⟨(h9s 0).trans hT3.1, hT3.2.1, fun k hk => by rw [j1 0 (by decide)]; exact hT3.2.2.1 k hk, hT3.2.2.2⟩, ⟨(h9s 8).trans (f13.1.2.2.1.trans b6.1.2.2.1), (h9s 11).trans (f13.1.2.2.2.1.trans b6.1.2.2.2.1), (h9s 12).trans (f13.1.2.2.2.2.1.trans b6.1.2.2.2.2.1), (h9s 13).trans (f13.1.2.2.2.2.2.1.trans b6.1.2.2.2.2.2.1), (h9s 14).trans (f13.1.2.2.2.2.2.2.1.trans b6.1.2.2.2.2.2.2.1), (h9s 15).trans (f13.1.2.2.2.2.2.2.2.trans b6.1.2.2.2.2.2.2.2), (j1 11 (by decide)).trans (f13.2.1.2.2.trans b6.2.1.2.2)⟩, ⟨(h9s 3).trans (f13.1.2.1.trans p1), by omega, ob_row (fun i hi j hj => (j3 i hi j hj).trans ((a10 _).trans (b2 i hi j hj))) (j4.trans ((a10 _).trans p5)) (j5.trans ((a10 _).trans p6)) j6 (j7.trans s5.1) (j8.trans s5.2) (j9.trans s7) (j10.trans ((a10 _).trans p8)) j11⟩, h9s 4, hvs, by omega, h10n, by omega, sy, by have := hT2.2.1; omega, vbe_tr hT2.2.2.2.2.1 sb (Nat.le_refl _), ht3, sg⟩
          · rw [if_neg hw10] at hq_
            obtain ⟨rfl, rfl⟩ := hq_
            have hfin : fin2 n b (fin1 n b E noo (.inr (x, k2, nv2, u2, V2, no2))) = .inl (if skW n b k3 < n then 2 else 1, skW n b k3, no3) := by show fin2 n b (stmR n b k2 nv2 u2 V2 no2 x (tlO (tlN V2 E noo x))) = _; rw [hsm]; exact if_neg hw10
            refine am_eq_r (q' := (86, [some (.ref 16), some (.int (nI k0)), some (.int (nI kh)), some (.int (nI noo)), some (.int (nI nv)), some (.int (nI u)), some (.int (nI y))], [.int 0], wd (upd (upd (upd C3.1 4 (nI (skW n b k3))) 5 (if skW n b k3 < n then 2 else 1)) 6 (nI (skW n b k3)), C3.2) Y og)) rfl ?_
            refine am_steps_r ok_R_readObject 1 (q' := (89, [some (.ref 16), some (.int (nI k0)), some (.int (nI kh)), some (.int (nI noo)), some (.int (nI nv)), some (.int (nI u)), some (.int (nI y))], [], wd (upd (upd (upd C3.1 4 (nI (skW n b k3))) 5 (if skW n b k3 < n then 2 else 1)) 6 (nI (skW n b k3)), C3.2) Y og)) rfl ?_
            exact tl_R_readObject_89 d C Y og n b nv u V hS noo hno E hO _ _ k0 kh hkh1 hkh hfm C1 p1 b2 p5 p6 p8 b6 hT1 (upd (upd (upd C3.1 4 (nI (skW n b k3))) 5 (if skW n b k3 < n then 2 else 1)) 6 (nI (skW n b k3)), C3.2) f13 (if skW n b k3 < n then 2 else 1) no3 (skW n b k3) rfl (by split <;> decide) rfl (by have h9 : k2 ≤ k3 := hlw2; omega) hsk3.2 s7 nv3 u3 V3 (by have := hT2.2.1; omega) (by omega) sS (vbe_tr hT2.2.2.2.2.1 sb (Nat.le_refl _)) _ (fun w' hw => by obtain ⟨C9, e9, hF⟩ := hw; exact ⟨rfl, _, C9, hR, hfx, e9, by rw [hfin]; exact hF⟩) (nI y)
end C78
