/-! the component reads an object, and the tape; printed by wip/gen/g78.py -/
section C78
variable {l : Launch} {D : va_G} {cA : Nat → ClassId} {ad : Nat → Nat} {fm : Value}
theorem vsC_ca {C C' : wd_C} {nv u : Nat} {V : VT} (h : vsC C nv u V) (h1 : C'.1 1 = C.1 1) (h2 : C'.1 2 = C.1 2) (ha : ∀ j, 1 ≤ j → j ≤ 9 → C'.2.1 j = C.2.1 j) (hx : C'.2.2 = C.2.2) : vsC C' nv u V := by
  obtain ⟨⟨a1, a2, a3, a4⟩, hr, hv⟩ := h
  refine ⟨⟨h1.trans a1, a2, h2.trans a3, a4⟩, fun w hw => ?_, hv⟩
  have := hr w hw
  unfold vrw vbt vch at this ⊢
  rw [ha 1 (by omega) (by omega), ha 2 (by omega) (by omega), ha 3 (by omega) (by omega), ha 4 (by omega) (by omega), ha 5 (by omega) (by omega), ha 6 (by omega) (by omega), ha 7 (by omega) (by omega), ha 8 (by omega) (by omega), ha 9 (by omega) (by omega), hx]
  exact this
set_option maxHeartbeats 2000000 in
set_option maxRecDepth 100000 in
theorem tl_R_readObject_89 (d : Nat) (C : wd_C) (Y : wd_Y) (og : Nat → Int64) (n : Nat) (b : Nat → Int32) (nv u : Nat) (V : VT) (hS : vsC C nv u V) (noo : Nat) (hno : noo < 20) (E : Nat → Nat → Int32) (hO : obC C noo E) (a g : Int32) (k0 kh : Nat) (hkh1 : 1 ≤ kh) (hkh : kh ≤ n) (hfm : fm = .null ∨ fm = .ref 3000) (C1 : wd_C) (b1 : C1.1 3 = nI (noo + 1)) (b2 : ∀ i, i < noo → ∀ j, j < 8 → C1.2.1 10 (i * 8 + j) = E i j) (b3 : C1.2.1 10 (noo * 8 + 0) = a) (b4 : C1.2.1 10 (noo * 8 + 1) = g) (b5 : C1.2.1 10 (noo * 8 + 6) = nI k0) (b6 : fC C (upd C1.1 3 (C.1 3), wd_u C1.2.1 10 (C.2.1 10), C1.2.2) nv) (hT : tpC C1 n b) (Cf : wd_C) (f1 : fC C1 Cf nv) (c no' : Int32) (p : Nat) (f5 : Cf.1 5 = c) (fc : ¬ c = 0) (f6 : Cf.1 6 = nI p) (hp1 : kh ≤ p) (hpn : p ≤ n) (f7 : Cf.1 7 = no') (nv' u' : Nat) (V' : VT) (g1 : nv ≤ nv') (g2 : u ≤ u') (g3 : vsC Cf nv' u' V') (g4 : vbe nv V V') (post : Option Value → am_W → Prop) (hp : ∀ w', (∃ C' : wd_C, w' = wd C' Y og ∧ obF C C' n b nv u V noo E a g k0 kh (.inl (c, p, no'))) → post none w') (y : Int32) : am_Rn l D cA ad fm (d + 28) m_R_readObject (wd C Y og).length post (89, [some (.ref 16), some (.int (nI k0)), some (.int (nI kh)), some (.int (nI noo)), some (.int (nI nv)), some (.int (nI u)), some (.int y)], [], wd Cf Y og) := by
  have hTf : tpC Cf n b := tpC_f hT f1
  have hn := hTf.2.1
  have hnv := hS.1.2.1
  have hn3 : Cf.1 3 = nI (noo + 1) := f1.1.2.1.trans b1
  refine am_steps_r ok_R_readObject 6 (q' := (100, [some (.ref 16), some (.int (nI k0)), some (.int (nI kh)), some (.int (nI noo)), some (.int (nI nv)), some (.int (nI u)), some (.int (-1))], [.int (nI u), .int (nI nv), .ref 3], wd Cf Y og)) rfl ?_
  refine am_callV_r (As := [.int (nI nv), .int (nI u)]) (rest := []) ok_R_readObject rfl rfl ok_V_cutBack oi_V_cutBack lk_1_45 (Or.inl ⟨_, _, _, rfl, rfl, rfl⟩) rfl rfl (Nat.le_of_ble_eq_true rfl) (c_V_cutBack _ Cf Y og nv' u' g3.1 nv u g1 g2) ?_
  rintro v_ w_ ⟨rfl, rfl⟩ -
  refine am_eq_r (q' := (103, [some (.ref 16), some (.int (nI k0)), some (.int (nI kh)), some (.int (nI noo)), some (.int (nI nv)), some (.int (nI u)), some (.int (-1))], [], wd (upd (upd Cf.1 1 (nI nv)) 2 (nI u), Cf.2) Y og)) rfl ?_
  refine am_steps_r ok_R_readObject 4 (q' := (109, [some (.ref 16), some (.int (nI k0)), some (.int (nI kh)), some (.int (nI noo)), some (.int (nI nv)), some (.int (nI u)), some (.int (-1))], [.int ((upd (upd Cf.1 1 (nI nv)) 2 (nI u), Cf.2).1 6), .ref 16, .ref 16], wd (upd (upd Cf.1 1 (nI nv)) 2 (nI u), Cf.2) Y og)) rfl ?_
  rw [show ((upd (upd Cf.1 1 (nI nv)) 2 (nI u), Cf.2).1 6 : Int32) = nI p from f6]
  refine am_callV_r (As := [.int (nI p)]) (rest := [.ref 16]) ok_R_readObject rfl rfl ok_R_behindNextEnd oi_R_behindNextEnd lk_1_113 (Or.inl ⟨_, _, _, rfl, rfl, rfl⟩) rfl rfl (Nat.le_of_ble_eq_true rfl) (c_R_behindNextEnd _ (upd (upd Cf.1 1 (nI nv)) 2 (nI u), Cf.2) Y og n b hTf hfm p (by omega) hpn) ?_
  rintro v_ w_ ⟨rfl, rfl⟩ -
  refine am_eq_r (q' := (112, [some (.ref 16), some (.int (nI k0)), some (.int (nI kh)), some (.int (nI noo)), some (.int (nI nv)), some (.int (nI u)), some (.int (-1))], [.int (nI (neE b (n - p) p)), .ref 16], wd (upd (upd Cf.1 1 (nI nv)) 2 (nI u), Cf.2) Y og)) rfl ?_
  refine am_steps_r ok_R_readObject 13 (q' := (138, [some (.ref 16), some (.int (nI k0)), some (.int (nI kh)), some (.int (nI noo)), some (.int (nI nv)), some (.int (nI u)), some (.int (-1))], [.int (nI (neE b (n - p) p)), .int ((upd (upd Cf.1 1 (nI nv)) 2 (nI u), Cf.2).1 7), .int ((upd (upd Cf.1 1 (nI nv)) 2 (nI u), Cf.2).1 6), .int ((upd (upd Cf.1 1 (nI nv)) 2 (nI u), Cf.2).1 5), .int (-1), .int (nI noo), .ref 14], wd (upd ((upd (upd Cf.1 1 (nI nv)) 2 (nI u), Cf.2).1) 4 (nI (neE b (n - p) p)), (upd (upd Cf.1 1 (nI nv)) 2 (nI u), Cf.2).2) Y og)) rfl ?_
  rw [show ((upd (upd Cf.1 1 (nI nv)) 2 (nI u), Cf.2).1 6 : Int32) = nI p from f6]
  refine am_callV_r (As := [.int (nI noo), .int (-1), .int ((upd (upd Cf.1 1 (nI nv)) 2 (nI u), Cf.2).1 5), .int (nI p), .int ((upd (upd Cf.1 1 (nI nv)) 2 (nI u), Cf.2).1 7), .int (nI (neE b (n - p) p))]) (rest := []) ok_R_readObject rfl rfl ok_O_end oi_O_end lk_1_116 (Or.inl ⟨_, _, _, rfl, rfl, rfl⟩) rfl rfl (Nat.le_of_ble_eq_true rfl) (c_O_end _ (upd ((upd (upd Cf.1 1 (nI nv)) 2 (nI u), Cf.2).1) 4 (nI (neE b (n - p) p)), (upd (upd Cf.1 1 (nI nv)) 2 (nI u), Cf.2).2) Y og noo hn3 hno (-1) ((upd (upd Cf.1 1 (nI nv)) 2 (nI u), Cf.2).1 5) (nI p) ((upd (upd Cf.1 1 (nI nv)) 2 (nI u), Cf.2).1 7) (nI (neE b (n - p) p))) ?_
  rintro v_ w_ ⟨rfl, C9, rfl, j0, j1, j2, j3, j4, j5, j6, j7, j8, j9, j10, j11⟩ -
  refine am_eq_r (q' := (141, [some (.ref 16), some (.int (nI k0)), some (.int (nI kh)), some (.int (nI noo)), some (.int (nI nv)), some (.int (nI u)), some (.int (-1))], [], wd C9 Y og)) rfl ?_
  refine am_vret_r ok_R_readObject rfl rfl rfl ?_
  have a10 : ∀ m, Cf.2.1 10 m = C1.2.1 10 m := fun m => by rw [f1.2.1.2.1]
  have hcut : vsC (upd (upd Cf.1 1 (nI nv)) 2 (nI u), Cf.2) nv u V := vsC_cut (C' := (upd Cf.1 3 (C.1 3), wd_u Cf.2.1 10 (C.2.1 10), Cf.2.2)) hS (fC_tr b6 (show fC (upd C1.1 3 (C.1 3), wd_u C1.2.1 10 (C.2.1 10), C1.2.2) (upd Cf.1 3 (C.1 3), wd_u Cf.2.1 10 (C.2.1 10), Cf.2.2) nv from ⟨⟨f1.1.1, rfl, f1.1.2.2.1, f1.1.2.2.2.1, f1.1.2.2.2.2.1, f1.1.2.2.2.2.2.1, f1.1.2.2.2.2.2.2.1, f1.1.2.2.2.2.2.2.2⟩, ⟨f1.2.1.1, rfl, f1.2.1.2.2⟩, f1.2.2⟩) (Nat.le_refl _)) (show vsC (upd Cf.1 3 (C.1 3), wd_u Cf.2.1 10 (C.2.1 10), Cf.2.2) nv' u' V' from g3) g4 g1 g2
  have h9s : ∀ j, C9.1 j = (upd (upd (upd Cf.1 1 (nI nv)) 2 (nI u)) 4 (nI (neE b (n - p) p)), Cf.2).1 j := fun j => by rw [j0]
  have h9a : ∀ j, j ≠ 10 → C9.2.1 j = Cf.2.1 j := fun j hj => j1 j hj
  have hvs : vsC C9 nv u V := vsC_ca hcut (h9s 1) (h9s 2) (fun j h1 h2 => h9a j (by omega)) j2
  refine hp _ ⟨C9, rfl, ⟨(h9s 0).trans (hTf.1), hTf.2.1, fun k hk => by rw [h9a 0 (by decide)]; exact hTf.2.2.1 k hk, hTf.2.2.2⟩, ⟨(h9s 8).trans (f1.1.2.2.1.trans b6.1.2.2.1), (h9s 11).trans (f1.1.2.2.2.1.trans b6.1.2.2.2.1), (h9s 12).trans (f1.1.2.2.2.2.1.trans b6.1.2.2.2.2.1), (h9s 13).trans (f1.1.2.2.2.2.2.1.trans b6.1.2.2.2.2.2.1), (h9s 14).trans (f1.1.2.2.2.2.2.2.1.trans b6.1.2.2.2.2.2.2.1), (h9s 15).trans (f1.1.2.2.2.2.2.2.2.trans b6.1.2.2.2.2.2.2.2), (h9a 11 (by decide)).trans (f1.2.1.2.2.trans b6.2.1.2.2)⟩, ⟨(h9s 3).trans (f1.1.2.1.trans b1), by omega, ob_row (fun i hi j hj => (j3 i hi j hj).trans ((a10 _).trans (b2 i hi j hj))) (j4.trans ((a10 _).trans b3)) (j5.trans ((a10 _).trans b4)) j6 (j7.trans f5) j8 (j9.trans f7) (j10.trans ((a10 _).trans b5)) j11⟩, (h9s 4), fc, hp1, hpn, hvs⟩
end C78
