/-! the reference reads an object; printed by wip/gen/g91.py -/
theorem tlN_bd2 {V : VT} {E : Nat → Nat → Int32} {nv no dc : Nat} (hg : ∀ w, w < nv → nbOK (V.1 w) (V.2.1 w)) (ho : vok nv V) (hdc : dc < nv) (hnv : nv ≤ 300) (hob : obV nv no E) : tlN V E no dc = -1 ∨ ∃ m, m < 1000000000 ∧ (tlN V E no dc = lN m ∨ tlN V E no dc = -(lN m)) := by
  have hkid := (ho.1 dc hdc).1
  cases hq : prF (isLn V) (V.2.2.1 dc) with
  | none => exact Or.inl (tlN_0 hq)
  | some z =>
    obtain ⟨t, w⟩ := z
    have hw := hkid w (prF_mem hq).2
    by_cases h2 : V.1 w = 2
    · rw [tlN_2 hq h2]
      exact Or.inr ((hg w hw).1 h2)
    · by_cases h8 : V.1 w = 8
      · cases hf : fnO E (V.2.1 w - V.2.1 w / 1000000000 * 1000000000).toInt32 (V.2.1 w / 1000000000).toInt32 no with
        | none => exact Or.inl (tlN_8n hq h8 hf)
        | some i =>
          obtain ⟨i1, i2⟩ := fnO_some hf
          obtain ⟨w2, w21, w22⟩ := (hob i i1).resolve_left i2
          by_cases h22 : V.1 w2 = 2
          · rw [tlN_82 hq h8 hf w22 (by omega) h22]
            exact Or.inr ((hg w2 w21).1 h22)
          · exact Or.inl (tlN_8x hq h8 hf w22 (by omega) h22)
      · exact Or.inl (tlN_n hq h2 h8)
theorem stR_hi {n : Nat} {b : Nat → Int32} (hb : ∀ k, n ≤ k → b k = -1) {w q : Nat} (hq : q ≤ w) (hw : w + 6 ≤ n) {tm : Option Nat} {bs : List Int32} {e : Nat} {bit : Int32} (h : stR n b w tm = .inr (bs, e, bit)) : e ≤ n ∧ q ≤ e := by
  have hsl := slP_le hb hw
  have hE : ∀ (f len e' : Nat) (bt : Int32), stE b w f len e' bt = .inr (bs, e, bit) → e = e' := fun f len e' bt he => by
    unfold stE at he
    split at he
    · cases he
    · cases he
      rfl
  by_cases h10 : b (slP b w) = 10
  · have hsr : ∀ z, z = (match txF b st_9 (n - (slP b w + 1)) (slP b w + 1) with | none => (.inl (8, w, 0) : StL) | some e => stE b w (slP b w + 1) (blE b (slP b w + 1) e - (slP b w + 1)) (e + 9) 4) → z = .inr (bs, e, bit) → e ≤ n ∧ q ≤ e := fun z hz hc => by
      rw [hz] at hc
      cases htx : txF b st_9 (n - (slP b w + 1)) (slP b w + 1) with
      | none =>
        rw [htx] at hc
        cases hc
      | some e5 =>
        rw [htx] at hc
        have h5 := hE _ _ _ _ hc
        have h6 := txF_some htx
        have h7 := txA_in hb h6.2.2
        omega
    cases tm with
    | none => exact hsr _ (stR_srch h10 (Or.inl rfl)) h
    | some m =>
      cases hq9 : wdA b st_9 (leE b (slP b w + 1 + m)) with
      | true =>
        rw [stR_told h10 rfl hq9] at h
        have h5 := hE _ _ _ _ h
        have h6 := wdA_in hb hq9
        have h7 := leE_ge b (slP b w + 1 + m)
        omega
      | false => exact hsr _ (stR_srch h10 (Or.inr ⟨m, rfl, hq9⟩)) h
  · rw [stR_bad h10] at h
    cases h
section C91
variable {l : Launch} {D : va_G} {cA : Nat → ClassId} {ad : Nat → Nat} {fm : Value}
set_option maxHeartbeats 4000000 in
set_option maxRecDepth 100000 in
theorem tl_M_readObject_172 (d : Nat) (C : wd_C) (Y : wd_Y) (og : Nat → Int64) (n : Nat) (b : Nat → Int32) (k t nv u noo : Nat) (V : VT) (E : Nat → Nat → Int32) (hno : noo < 20) (Yf : wd_Y) (hT : tpY Yf n b) (f2 : Yf.1 2 = nI noo) (f3 : Yf.1 3 = Y.1 3) (f0 : Yf.1 0 = Y.1 0) (fw : wrY Y Yf) (a1 : ∀ i, i < noo → ∀ j, j < 8 → Yf.2.1 1 (8 * i + j) = E i j) (a2 : Yf.2.1 1 (8 * noo) = obA b n k) (a3 : Yf.2.1 1 (8 * noo + 1) = obG b n k) (a4 : Yf.2.1 1 (8 * noo + 6) = nI k) (y k3 nv' u' : Nat) (V' : VT) (no' : Int32) (f7 : Yf.1 7 = 0) (f9 : Yf.1 9 = no') (hk3 : k3 ≤ n) (hk31 : 1 ≤ k3) (f6 : Yf.1 6 = nI (skW n b k3)) (hV : vsY Yf nv' u' V') (hV0 : vsY Y nv u V) (ff : ∀ w, w < nv → Yf.2.1 7 w = Y.2.1 7 w) (hb : vbe nv V V') (hnn : nv ≤ nv') (post : Option Value → am_W → Prop) (hp : ∀ w', (∃ Y' : wd_Y, w' = wd C Y' og ∧ obGY Y Y' n b nv u V noo E k (fin2 n b (.inr (y, k3, nv', u', V', no')))) → post none w') : am_Rn l D cA ad fm (d + 8) m_M_readObject (wd C Y og).length post (172, [some (.ref 19), some (.int (nI t)), some (.int (nI (8 * noo))), some (.int (nI nv)), some (.int (nI u)), some (.int (nI y)), none], [], wd C Yf og) := by
  have hn := hT.2.1
  have hsk := skW_le n b hk3
  refine am_steps_r ok_M_readObject 3 (q' := (bif decide ((Yf.1 7) = 0) then 179 else 225, [some (.ref 19), some (.int (nI t)), some (.int (nI (8 * noo))), some (.int (nI nv)), some (.int (nI u)), some (.int (nI y)), none], [], wd C Yf og)) rfl ?_
  rw [show (Yf.1 7 : Int32) = nI 0 from f7]
  refine am_br_r (fun h_1 => ?_) (fun h_1 => ?_)
  · skip
    have h_1 : 0 = 0 := (nI_eq (show 0 < 2 ^ 31 by omega) (show 0 < 2 ^ 31 by omega)).mp h_1
    refine am_steps_r ok_M_readObject 4 (q' := (185, [some (.ref 19), some (.int (nI t)), some (.int (nI (8 * noo))), some (.int (nI nv)), some (.int (nI u)), some (.int (nI y)), none], [.int 1, .int (Yf.1 6), .ref 19], wd C Yf og)) rfl ?_
    rw [show (Yf.1 6 : Int32) = nI (skW n b k3) from f6]
    refine am_callV_r (As := [.int (nI (skW n b k3)), .int 1]) (rest := []) ok_M_readObject rfl rfl ok_M_isWord oi_M_isWord lk_6_182 (Or.inl ⟨_, _, _, rfl, rfl, rfl⟩) rfl rfl (Nat.le_of_ble_eq_true rfl) (c_M_isWord_1 _ C Yf og n b hT (skW n b k3) (by omega)) ?_
    rintro v_ w_ ⟨rfl, rfl⟩ -
    refine am_eq_r (q' := (188, [some (.ref 19), some (.int (nI t)), some (.int (nI (8 * noo))), some (.int (nI nv)), some (.int (nI u)), some (.int (nI y)), none], [.int (bz (wdA b st_10 (skW n b k3)))], wd C Yf og)) rfl ?_
    refine am_steps_r ok_M_readObject 1 (q' := (bif decide ((bz (wdA b st_10 (skW n b k3))) = 0) then 191 else 225, [some (.ref 19), some (.int (nI t)), some (.int (nI (8 * noo))), some (.int (nI nv)), some (.int (nI u)), some (.int (nI y)), none], [], wd C Yf og)) rfl ?_
    refine am_bz_r (fun h_3 => ?_) (fun h_3 => ?_)
    · skip
      refine am_steps_r ok_M_readObject 3 (q' := (bif decide ((Yf.1 7) = 0) then 232 else 246, [some (.ref 19), some (.int (nI t)), some (.int (nI (8 * noo))), some (.int (nI nv)), some (.int (nI u)), some (.int (nI y)), none], [], wd C Yf og)) rfl ?_
      rw [show (Yf.1 7 : Int32) = nI 0 from f7]
      refine am_br_r (fun h_4 => ?_) (fun h_4 => ?_)
      · skip
        have h_4 : 0 = 0 := (nI_eq (show 0 < 2 ^ 31 by omega) (show 0 < 2 ^ 31 by omega)).mp h_4
        refine am_steps_r ok_M_readObject 7 (q' := (346, [some (.ref 19), some (.int (nI t)), some (.int (nI (8 * noo))), some (.int (nI nv)), some (.int (nI u)), some (.int (nI y)), none], [], wd C (upd Yf.1 6 ((Yf.1 6) + 6), Yf.2) og)) rfl ?_
        rw [show (Yf.1 6 : Int32) = nI (skW n b k3) from f6]
        rw [show ((nI (skW n b k3)) + 6 : Int32) = nI ((skW n b k3) + 6) from nI_add (skW n b k3) 6]
        have hfin : fin2 n b (.inr (y, k3, nv', u', V', no')) = .inr (y, skW n b k3 + 6, nv', u', V', no') := if_pos (show wdA b st_10 (skW n b k3) = true by assumption)
        rw [hfin] at hp
        exact tl_M_readObject_ok d C Y og n b k t nv u noo V E hno (upd Yf.1 6 (nI ((skW n b k3) + 6)), Yf.2) hT f2 f3 f0 fw a1 a2 a3 a4 y (skW n b k3 + 6) nv' u' V' no' f7 f9 rfl (show vsY (upd Yf.1 6 (nI ((skW n b k3) + 6)), Yf.2) nv' u' V' from hV) post hp
      · skip
        have h_4 : ¬ 0 = 0 := fun z => h_4 ((nI_eq (show 0 < 2 ^ 31 by omega) (show 0 < 2 ^ 31 by omega)).mpr z)
        first | contradiction | (exfalso; simp_all; done)
    · skip
      refine am_steps_r ok_M_readObject 5 (q' := (bif decide ((Yf.1 6) < (Yf.1 1)) then 214 else 202, [some (.ref 19), some (.int (nI t)), some (.int (nI (8 * noo))), some (.int (nI nv)), some (.int (nI u)), some (.int (nI y)), none], [], wd C Yf og)) rfl ?_
      rw [show (Yf.1 6 : Int32) = nI (skW n b k3) from f6]
      rw [show (Yf.1 1 : Int32) = nI n from hT.1]
      refine am_br_r (fun h_5 => ?_) (fun h_5 => ?_)
      · skip
        have h_5 : (skW n b k3) < n := (nI_ltI (show (skW n b k3) < 2 ^ 31 by omega) (show n < 2 ^ 31 by omega)).mp h_5
        refine am_steps_r ok_M_readObject 4 (q' := (220, [some (.ref 19), some (.int (nI t)), some (.int (nI (8 * noo))), some (.int (nI nv)), some (.int (nI u)), some (.int (nI y)), none], [.int (Yf.1 6), .int 2, .ref 19], wd C Yf og)) rfl ?_
        rw [show (Yf.1 6 : Int32) = nI (skW n b k3) from f6]
        refine am_callV_r (As := [.int 2, .int (nI (skW n b k3))]) (rest := []) ok_M_readObject rfl rfl ok_M_fails oi_M_fails lk_6_139 (Or.inl ⟨_, _, _, rfl, rfl, rfl⟩) rfl rfl (Nat.le_of_ble_eq_true rfl) (c_M_fails _ C Yf og 2 (nI (skW n b k3))) ?_
        rintro v_ w_ ⟨rfl, rfl⟩ -
        refine am_eq_r (q' := (223, [some (.ref 19), some (.int (nI t)), some (.int (nI (8 * noo))), some (.int (nI nv)), some (.int (nI u)), some (.int (nI y)), none], [.int 0], wd C (upd (upd Yf.1 7 2) 8 (nI (skW n b k3)), Yf.2) og)) rfl ?_
        refine am_steps_r ok_M_readObject 4 (q' := (246, [some (.ref 19), some (.int (nI t)), some (.int (nI (8 * noo))), some (.int (nI nv)), some (.int (nI u)), some (.int (nI y)), some (.int 0)], [], wd C (upd (upd Yf.1 7 2) 8 (nI (skW n b k3)), Yf.2) og)) rfl ?_
        refine am_drop_r [6] (L' := [some (.ref 19), some (.int (nI t)), some (.int (nI (8 * noo))), some (.int (nI nv)), some (.int (nI u)), some (.int (nI y)), none]) rfl ?_
        have hfin : fin2 n b (.inr (y, k3, nv', u', V', no')) = .inl (2, (skW n b k3), no') := by
          show (if wdA b st_10 (skW n b k3) = true then _ else _) = _
          rw [if_neg (by rw [show wdA b st_10 (skW n b k3) = false by assumption]; decide)]
          rw [if_pos (by omega)]
        rw [hfin] at hp
        exact tl_M_readObject_bad d C Y og n b k t nv u noo V E hno (upd (upd Yf.1 7 2) 8 (nI (skW n b k3)), Yf.2) hT f2 f3 f0 fw a1 a2 a3 a4 2 no' (skW n b k3) nv' u' V' rfl (by decide) rfl (by omega) (by omega) f9 hV0 ff (show vsY (upd (upd Yf.1 7 2) 8 (nI (skW n b k3)), Yf.2) nv' u' V' from hV) hb hnn (nI y) post hp
      · skip
        have h_5 : ¬ (skW n b k3) < n := fun z => h_5 ((nI_ltI (show (skW n b k3) < 2 ^ 31 by omega) (show n < 2 ^ 31 by omega)).mpr z)
        refine am_steps_r ok_M_readObject 4 (q' := (208, [some (.ref 19), some (.int (nI t)), some (.int (nI (8 * noo))), some (.int (nI nv)), some (.int (nI u)), some (.int (nI y)), none], [.int (Yf.1 1), .int 1, .ref 19], wd C Yf og)) rfl ?_
        rw [show (Yf.1 1 : Int32) = nI n from hT.1]
        refine am_callV_r (As := [.int 1, .int (nI n)]) (rest := []) ok_M_readObject rfl rfl ok_M_fails oi_M_fails lk_6_139 (Or.inl ⟨_, _, _, rfl, rfl, rfl⟩) rfl rfl (Nat.le_of_ble_eq_true rfl) (c_M_fails _ C Yf og 1 (nI n)) ?_
        rintro v_ w_ ⟨rfl, rfl⟩ -
        refine am_eq_r (q' := (211, [some (.ref 19), some (.int (nI t)), some (.int (nI (8 * noo))), some (.int (nI nv)), some (.int (nI u)), some (.int (nI y)), none], [.int 0], wd C (upd (upd Yf.1 7 1) 8 (nI n), Yf.2) og)) rfl ?_
        refine am_steps_r ok_M_readObject 5 (q' := (246, [some (.ref 19), some (.int (nI t)), some (.int (nI (8 * noo))), some (.int (nI nv)), some (.int (nI u)), some (.int (nI y)), some (.int 0)], [], wd C (upd (upd Yf.1 7 1) 8 (nI n), Yf.2) og)) rfl ?_
        refine am_drop_r [6] (L' := [some (.ref 19), some (.int (nI t)), some (.int (nI (8 * noo))), some (.int (nI nv)), some (.int (nI u)), some (.int (nI y)), none]) rfl ?_
        have hfin : fin2 n b (.inr (y, k3, nv', u', V', no')) = .inl (1, n, no') := by
          show (if wdA b st_10 (skW n b k3) = true then _ else _) = _
          rw [if_neg (by rw [show wdA b st_10 (skW n b k3) = false by assumption]; decide)]
          rw [if_neg (by omega), show skW n b k3 = n by omega]
        rw [hfin] at hp
        exact tl_M_readObject_bad d C Y og n b k t nv u noo V E hno (upd (upd Yf.1 7 1) 8 (nI n), Yf.2) hT f2 f3 f0 fw a1 a2 a3 a4 1 no' n nv' u' V' rfl (by decide) rfl (by omega) (by omega) f9 hV0 ff (show vsY (upd (upd Yf.1 7 1) 8 (nI n), Yf.2) nv' u' V' from hV) hb hnn (nI y) post hp
  · skip
    have h_1 : ¬ 0 = 0 := fun z => h_1 ((nI_eq (show 0 < 2 ^ 31 by omega) (show 0 < 2 ^ 31 by omega)).mpr z)
    exfalso; omega
set_option maxHeartbeats 4000000 in
set_option maxRecDepth 100000 in
theorem md_M_readObject (d : Nat) (C : wd_C) (Y : wd_Y) (og : Nat → Int64) (n : Nat) (b : Nat → Int32) (k noo : Nat) (E : Nat → Nat → Int32) (nv u : Nat) (V : VT) (hV : vsY Y nv u V) (hno : noo < 20) (t : Nat) (ht3 : t + 3 ≤ n) (hgd : gd n nv u (t + 3) V) (hob : obI nv noo E) (r : RR) (hR : Rd n b none 0 (t + 3, nv, u, V, 0) r) (hfx : rdFx n nv u V r) (Yx : wd_Y) (hIx : ryI Yx n b (t + 3) nv u V 0) (z2 : Yx.1 2 = nI noo) (z3 : Yx.1 3 = Y.1 3) (z0 : Yx.1 0 = Y.1 0) (zw : wrY Y Yx) (z7 : ∀ w, w < nv → Yx.2.1 7 w = Y.2.1 7 w) (A1 : ∀ i, i < noo → ∀ j, j < 8 → Yx.2.1 1 (8 * i + j) = E i j) (A2 : Yx.2.1 1 (8 * noo) = obA b n k) (A3 : Yx.2.1 1 (8 * noo + 1) = obG b n k) (A4 : Yx.2.1 1 (8 * noo + 6) = nI k) (post : Option Value → am_W → Prop) (hp : ∀ w', (∃ Y' : wd_Y, w' = wd C Y' og ∧ obGY Y Y' n b nv u V noo E k (fin2 n b (fin1 n b E noo r))) → post none w') (vr : Option Value) (w0 : am_W) (hQ : rvQ Yx C og n b nv V r vr w0) : am_Rn l D cA ad fm (d + 8) m_M_readObject (wd C Y og).length post (93, [some (.ref 19), some (.int (nI t)), some (.int (nI (8 * noo))), some (.int (nI nv)), some (.int (nI u)), none, none], vr.toList ++ [], w0) := by
  have hT : tpY Yx n b := hIx.1
  have hn := hT.2.1
  have hnv := hV.1.2.1
  have hlw := Rd_lw hT.2.2.2.1 hR
  have hup := Rd_up hT.2.2.2.1 hR
  rcases r with ⟨c, p, no1⟩ | ⟨x, k2, nv2, u2, V2, no2⟩
  · obtain ⟨rfl, Yf, rfl, f7, f8, f9, ff, nv9, u9, V9, g1, g2, g3⟩ := hQ
    have hTf : tpY Yf n b := tpY_f hT ff
    have hlo : t + 3 ≤ p := hlw
    have hpn : p ≤ n := hup
    have fc : ¬ c = 0 := hfx
    have hfin : fin2 n b (fin1 n b E noo (.inl (c, p, no1))) = .inl (c, p, no1) := rfl
    refine am_eq_r (q' := (93, [some (.ref 19), some (.int (nI t)), some (.int (nI (8 * noo))), some (.int (nI nv)), some (.int (nI u)), none, none], [.int (-1)], wd C Yf og)) rfl ?_
    refine am_steps_r ok_M_readObject 4 (q' := (bif decide ((Yf.1 7) = 0) then 102 else 172, [some (.ref 19), some (.int (nI t)), some (.int (nI (8 * noo))), some (.int (nI nv)), some (.int (nI u)), some (.int (-1)), none], [], wd C Yf og)) rfl ?_
    refine am_br_r (fun h_1 => ?_) (fun h_1 => ?_)
    · skip
      exact absurd (f7.symm.trans h_1) fc
    · skip
      refine am_steps_r ok_M_readObject 3 (q' := (bif decide ((Yf.1 7) = 0) then 179 else 225, [some (.ref 19), some (.int (nI t)), some (.int (nI (8 * noo))), some (.int (nI nv)), some (.int (nI u)), some (.int (-1)), none], [], wd C Yf og)) rfl ?_
      refine am_br_r (fun h_2 => ?_) (fun h_2 => ?_)
      · skip
        first | contradiction | (exfalso; simp_all; done)
      · skip
        refine am_steps_r ok_M_readObject 3 (q' := (bif decide ((Yf.1 7) = 0) then 232 else 246, [some (.ref 19), some (.int (nI t)), some (.int (nI (8 * noo))), some (.int (nI nv)), some (.int (nI u)), some (.int (-1)), none], [], wd C Yf og)) rfl ?_
        refine am_br_r (fun h_3 => ?_) (fun h_3 => ?_)
        · skip
          first | contradiction | (exfalso; simp_all; done)
        · skip
          exact tl_M_readObject_bad d C Y og n b k t nv u noo V E hno Yf (hTf) (ff.1.2.2.1.trans z2) (ff.1.2.2.2.1.trans z3) (ff.1.1.trans z0) (wrY_tr zw ⟨ff.1.2.2.2.2.1, ff.1.2.2.2.2.2.1, ff.1.2.2.2.2.2.2.1, ff.1.2.2.2.2.2.2.2, ff.2.1.2.2.1, ff.2.1.2.2.2.1, ff.2.1.2.2.2.2⟩) (fun i hi j hj => (congrFun ff.2.1.2.1 _).trans (A1 i hi j hj)) ((congrFun ff.2.1.2.1 _).trans A2) ((congrFun ff.2.1.2.1 _).trans A3) ((congrFun ff.2.1.2.1 _).trans A4) c no1 p nv9 u9 V9 f7 fc f8 (by omega) hpn f9 hV (fun w hw => (ff.2.2 w hw).trans (z7 w hw)) g2 g3 g1 (-1) _ (fun w' hw => by obtain ⟨Y9, e9, hF⟩ := hw; exact hp _ ⟨Y9, e9, by rw [hfin]; exact hF⟩)
  · obtain ⟨rfl, Y1, rfl, hI1, ff, hvb⟩ := hQ
    obtain ⟨x1, x2, x3, x4, x5, x6, x7, x8, x9, x10⟩ := hfx
    have hT := hI1.1
    have hkd := (hI1.2.2.2.2.2 x x2).1
    have hlo : t + 3 ≤ k2 := hlw
    refine am_eq_r (q' := (93, [some (.ref 19), some (.int (nI t)), some (.int (nI (8 * noo))), some (.int (nI nv)), some (.int (nI u)), none, none], [.int (nI x)], wd C Y1 og)) rfl ?_
    refine am_steps_r ok_M_readObject 4 (q' := (bif decide ((Y1.1 7) = 0) then 102 else 172, [some (.ref 19), some (.int (nI t)), some (.int (nI (8 * noo))), some (.int (nI nv)), some (.int (nI u)), some (.int (nI x)), none], [], wd C Y1 og)) rfl ?_
    rw [show (Y1.1 7 : Int32) = nI 0 from hI1.2.2.1]
    refine am_br_r (fun h_4 => ?_) (fun h_4 => ?_)
    · skip
      have h_4 : 0 = 0 := (nI_eq (show 0 < 2 ^ 31 by omega) (show 0 < 2 ^ 31 by omega)).mp h_4
      refine am_steps_r ok_M_readObject 4 (q' := (108, [some (.ref 19), some (.int (nI t)), some (.int (nI (8 * noo))), some (.int (nI nv)), some (.int (nI u)), some (.int (nI x)), none], [.int (Y1.1 6), .ref 19, .ref 19], wd C Y1 og)) rfl ?_
      rw [show (Y1.1 6 : Int32) = nI k2 from hI1.2.1]
      have sk_5 := skW_le n b (k := k2) (by omega)
      refine am_callV_r (As := [.int (nI k2)]) (rest := [.ref 19]) ok_M_readObject rfl rfl ok_M_behindWhite oi_M_behindWhite lk_6_127 (Or.inl ⟨_, _, _, rfl, rfl, rfl⟩) rfl rfl (Nat.le_of_ble_eq_true rfl) (c_M_behindWhite _ C Y1 og n b (show tpY Y1 n b from hT) k2 (by omega)) ?_
      rintro v_ w_ ⟨rfl, rfl⟩ -
      refine am_eq_r (q' := (111, [some (.ref 19), some (.int (nI t)), some (.int (nI (8 * noo))), some (.int (nI nv)), some (.int (nI u)), some (.int (nI x)), none], [.int (nI (skW n b k2)), .ref 19], wd C Y1 og)) rfl ?_
      refine am_steps_r ok_M_readObject 4 (q' := (120, [some (.ref 19), some (.int (nI t)), some (.int (nI (8 * noo))), some (.int (nI nv)), some (.int (nI u)), some (.int (nI x)), none], [.int (nI x), .ref 22], wd C (upd Y1.1 6 (nI (skW n b k2)), Y1.2) og)) rfl ?_
      refine am_iald_r ok_M_readObject rfl (w := wd C (upd Y1.1 6 (nI (skW n b k2)), Y1.2) og) (f := Y1.2.1 2) rfl rfl (pk_in x 300 (by omega)) ?_
      rw [nI_clamp (show x < 2 ^ 31 by omega)]
      rw [hkd]
      refine am_steps_r ok_M_readObject 2 (q' := (bif decide ((V2.1 x) = 7) then 126 else 172, [some (.ref 19), some (.int (nI t)), some (.int (nI (8 * noo))), some (.int (nI nv)), some (.int (nI u)), some (.int (nI x)), none], [], wd C (upd Y1.1 6 (nI (skW n b k2)), Y1.2) og)) rfl ?_
      refine am_br_r (fun h_7 => ?_) (fun h_7 => ?_)
      · skip
        refine am_steps_r ok_M_readObject 4 (q' := (132, [some (.ref 19), some (.int (nI t)), some (.int (nI (8 * noo))), some (.int (nI nv)), some (.int (nI u)), some (.int (nI x)), none], [.int 2, .int (nI (skW n b k2)), .ref 19], wd C (upd Y1.1 6 (nI (skW n b k2)), Y1.2) og)) rfl ?_
        refine am_callV_r (As := [.int (nI (skW n b k2)), .int 2]) (rest := []) ok_M_readObject rfl rfl ok_M_isWord oi_M_isWord lk_6_182 (Or.inl ⟨_, _, _, rfl, rfl, rfl⟩) rfl rfl (Nat.le_of_ble_eq_true rfl) (c_M_isWord_2 _ C (upd Y1.1 6 (nI (skW n b k2)), Y1.2) og n b (show tpY (upd Y1.1 6 (nI (skW n b k2)), Y1.2) n b from hT) (skW n b k2) (by omega)) ?_
        rintro v_ w_ ⟨rfl, rfl⟩ -
        refine am_eq_r (q' := (135, [some (.ref 19), some (.int (nI t)), some (.int (nI (8 * noo))), some (.int (nI nv)), some (.int (nI u)), some (.int (nI x)), none], [.int (bz (wdA b st_7 (skW n b k2)))], wd C (upd Y1.1 6 (nI (skW n b k2)), Y1.2) og)) rfl ?_
        refine am_steps_r ok_M_readObject 1 (q' := (bif decide ((bz (wdA b st_7 (skW n b k2))) = 0) then 172 else 138, [some (.ref 19), some (.int (nI t)), some (.int (nI (8 * noo))), some (.int (nI nv)), some (.int (nI u)), some (.int (nI x)), none], [], wd C (upd Y1.1 6 (nI (skW n b k2)), Y1.2) og)) rfl ?_
        refine am_bz_r (fun h_9 => ?_) (fun h_9 => ?_)
        · skip
          refine am_steps_r ok_M_readObject 2 (q' := (141, [some (.ref 19), some (.int (nI t)), some (.int (nI (8 * noo))), some (.int (nI nv)), some (.int (nI u)), some (.int (nI x)), none], [.int (nI x), .ref 19], wd C (upd Y1.1 6 (nI (skW n b k2)), Y1.2) og)) rfl ?_
          obtain ⟨mm, hmm⟩ := x10 x x2 (by assumption)
          have hob2 : obI nv2 noo E := fun i hi => ⟨(hob i hi).1.imp_right (fun ⟨w, a, c⟩ => ⟨w, by omega, c⟩), (hob i hi).2⟩
          have hO2 : obY (upd Y1.1 6 (nI (skW n b k2)), Y1.2) noo E := ⟨ff.1.2.2.1.trans z2, by omega, fun i hi j hj => (congrFun ff.2.1.2.1 _).trans (A1 i hi j hj)⟩
          have htb := tlN_bd2 x7 x1 x2 x6 (obI_V hob2)
          have h76 := wdA7_in hT.2.2.2.1 (show wdA b st_7 (skW n b k2) = true by assumption)
          refine am_callV_r (As := [.int (nI x)]) (rest := []) ok_M_readObject rfl rfl ok_M_readStream oi_M_readStream lk_6_254 (Or.inl ⟨_, _, _, rfl, rfl, rfl⟩) rfl rfl (Nat.le_of_ble_eq_true rfl) (c_M_readStream _ C (upd Y1.1 6 (nI (skW n b k2)), Y1.2) og n b (skW n b k2) nv2 u2 V2 no2 (show ryI (upd Y1.1 6 (nI (skW n b k2)), Y1.2) n b (skW n b k2) nv2 u2 V2 no2 from ⟨hI1.1, rfl, hI1.2.2.1, hI1.2.2.2.1, hI1.2.2.2.2⟩) x1 x7 noo E hO2 hob2 x x2 (by assumption) mm hmm x3 (by omega) (by assumption) htb) ?_
          rintro v_ w_ hQ -
          have hst1 : fin1 n b E noo (.inr (x, k2, nv2, u2, V2, no2)) = (match (if nv2 = 300 then (.inl (6, skW n b k2, 0) : StL) else stR n b (skW n b k2) (tlO (tlN V2 E noo x))) with | .inl (c, p, bit) => .inl (c, p, no2 ||| bit) | .inr (bs, e, bit) => .inr (nv2, e, nv2 + 1, u2 + bs.length, vtS V2 nv2 x bs, no2 ||| bit)) := by
            show stmR n b k2 nv2 u2 V2 no2 x _ = _
            unfold stmR
            rw [if_pos ⟨by assumption, by assumption⟩]
            by_cases h300 : nv2 = 300
            · rw [if_pos h300, if_pos h300]; show _ = Sum.inl (6, skW n b k2, no2 ||| 0); rw [Int32.or_zero]
            · rw [if_neg h300, if_neg h300]
              rcases stR n b (skW n b k2) (tlO (tlN V2 E noo x)) with ⟨c, p, bit⟩ | ⟨bs, e, bit⟩ <;> rfl
          rcases hst : (if nv2 = 300 then (.inl (6, skW n b k2, 0) : StL) else stR n b (skW n b k2) (tlO (tlN V2 E noo x))) with ⟨c, p, bit⟩ | ⟨bs, e3, bit⟩
          · rw [hst] at hQ hst1
            have hpp : skW n b k2 ≤ p ∧ p ≤ n ∧ ¬ c = 0 := by
              by_cases h300 : nv2 = 300
              · rw [if_pos h300] at hst; cases hst; exact ⟨Nat.le_refl _, by omega, by decide⟩
              · rw [if_neg h300] at hst; exact stR_up hT.2.2.2.1 h76 hst
            obtain ⟨rfl, Yf, rfl, f7, f8, f9, ff2, nv9, V9, g1, g2, g3⟩ := hQ
            have ff3 : fY Yx Yf nv := fY_tr ff ff2 x8
            have hTf : tpY Yf n b := tpY_f hT ff2
            have hlo2 : t + 3 ≤ p := by omega
            have hpn := hpp.2.1
            have fc := hpp.2.2
            have hfin : fin2 n b (fin1 n b E noo (.inr (x, k2, nv2, u2, V2, no2))) = .inl (c, p, no2 ||| bit) := by rw [hst1]; rfl
            refine am_eq_r (q' := (144, [some (.ref 19), some (.int (nI t)), some (.int (nI (8 * noo))), some (.int (nI nv)), some (.int (nI u)), some (.int (nI x)), none], [.int (-1)], wd C Yf og)) rfl ?_
            refine am_steps_r ok_M_readObject 5 (q' := (bif decide ((Yf.1 7) = 0) then 154 else 165, [some (.ref 19), some (.int (nI t)), some (.int (nI (8 * noo))), some (.int (nI nv)), some (.int (nI u)), some (.int (-1)), none], [.ref 19], wd C Yf og)) rfl ?_
            refine am_br_r (fun h_10 => ?_) (fun h_10 => ?_)
            · skip
              exact absurd (f7.symm.trans h_10) fc
            · skip
              refine am_steps_r ok_M_readObject 3 (q' := (172, [some (.ref 19), some (.int (nI t)), some (.int (nI (8 * noo))), some (.int (nI nv)), some (.int (nI u)), some (.int (-1)), none], [], wd C (upd Yf.1 6 (Yf.1 6), Yf.2) og)) rfl ?_
              refine am_steps_r ok_M_readObject 3 (q' := (bif decide ((Yf.1 7) = 0) then 179 else 225, [some (.ref 19), some (.int (nI t)), some (.int (nI (8 * noo))), some (.int (nI nv)), some (.int (nI u)), some (.int (-1)), none], [], wd C (upd Yf.1 6 (Yf.1 6), Yf.2) og)) rfl ?_
              refine am_br_r (fun h_11 => ?_) (fun h_11 => ?_)
              · skip
                first | contradiction | (exfalso; simp_all; done)
              · skip
                refine am_steps_r ok_M_readObject 3 (q' := (bif decide ((Yf.1 7) = 0) then 232 else 246, [some (.ref 19), some (.int (nI t)), some (.int (nI (8 * noo))), some (.int (nI nv)), some (.int (nI u)), some (.int (-1)), none], [], wd C (upd Yf.1 6 (Yf.1 6), Yf.2) og)) rfl ?_
                refine am_br_r (fun h_12 => ?_) (fun h_12 => ?_)
                · skip
                  first | contradiction | (exfalso; simp_all; done)
                · skip
                  exact tl_M_readObject_bad d C Y og n b k t nv u noo V E hno (upd Yf.1 6 (Yf.1 6), Yf.2) (hTf) (ff3.1.2.2.1.trans z2) (ff3.1.2.2.2.1.trans z3) (ff3.1.1.trans z0) (wrY_tr zw ⟨ff3.1.2.2.2.2.1, ff3.1.2.2.2.2.2.1, ff3.1.2.2.2.2.2.2.1, ff3.1.2.2.2.2.2.2.2, ff3.2.1.2.2.1, ff3.2.1.2.2.2.1, ff3.2.1.2.2.2.2⟩) (fun i hi j hj => (congrFun ff3.2.1.2.1 _).trans (A1 i hi j hj)) ((congrFun ff3.2.1.2.1 _).trans A2) ((congrFun ff3.2.1.2.1 _).trans A3) ((congrFun ff3.2.1.2.1 _).trans A4) c (no2 ||| bit) p nv9 u2 V9 f7 fc f8 (by omega) hpn f9 hV (fun w hw => (ff3.2.2 w hw).trans (z7 w hw)) (show vsY (upd Yf.1 6 (Yf.1 6), Yf.2) nv9 u2 V9 from g2) (vbe_tr x9 g3 x8) (by omega) (-1) _ (fun w' hw => by obtain ⟨Y9, e9, hF⟩ := hw; exact hp _ ⟨Y9, e9, by rw [hfin]; exact hF⟩)
          · rw [hst] at hQ hst1
            obtain ⟨rfl, Y2, rfl, hI2, ff2⟩ := hQ
            have ff3 : fY Yx Y2 nv := fY_tr ff ff2 x8
            have hTf : tpY Y2 n b := hI2.1
            have hT := hI2.1
            have he3 : e3 ≤ n ∧ t + 3 ≤ e3 := stR_hi hT.2.2.2.1 (by omega) h76 (by by_cases h300 : nv2 = 300; (rw [if_pos h300] at hst; cases hst); (rw [if_neg h300] at hst; exact hst))
            refine am_eq_r (q' := (144, [some (.ref 19), some (.int (nI t)), some (.int (nI (8 * noo))), some (.int (nI nv)), some (.int (nI u)), some (.int (nI x)), none], [.int (nI nv2)], wd C Y2 og)) rfl ?_
            refine am_steps_r ok_M_readObject 5 (q' := (bif decide ((Y2.1 7) = 0) then 154 else 165, [some (.ref 19), some (.int (nI t)), some (.int (nI (8 * noo))), some (.int (nI nv)), some (.int (nI u)), some (.int (nI nv2)), none], [.ref 19], wd C Y2 og)) rfl ?_
            rw [show (Y2.1 7 : Int32) = nI 0 from hI2.2.2.1]
            refine am_br_r (fun h_13 => ?_) (fun h_13 => ?_)
            · skip
              have h_13 : 0 = 0 := (nI_eq (show 0 < 2 ^ 31 by omega) (show 0 < 2 ^ 31 by omega)).mp h_13
              refine am_steps_r ok_M_readObject 3 (q' := (159, [some (.ref 19), some (.int (nI t)), some (.int (nI (8 * noo))), some (.int (nI nv)), some (.int (nI u)), some (.int (nI nv2)), none], [.int (Y2.1 6), .ref 19, .ref 19], wd C Y2 og)) rfl ?_
              rw [show (Y2.1 6 : Int32) = nI e3 from hI2.2.1]
              have sk_14 := skW_le n b (k := e3) (by omega)
              refine am_callV_r (As := [.int (nI e3)]) (rest := [.ref 19]) ok_M_readObject rfl rfl ok_M_behindWhite oi_M_behindWhite lk_6_127 (Or.inl ⟨_, _, _, rfl, rfl, rfl⟩) rfl rfl (Nat.le_of_ble_eq_true rfl) (c_M_behindWhite _ C Y2 og n b (show tpY Y2 n b from hT) e3 (by omega)) ?_
              rintro v_ w_ ⟨rfl, rfl⟩ -
              refine am_eq_r (q' := (162, [some (.ref 19), some (.int (nI t)), some (.int (nI (8 * noo))), some (.int (nI nv)), some (.int (nI u)), some (.int (nI nv2)), none], [.int (nI (skW n b e3)), .ref 19], wd C Y2 og)) rfl ?_
              refine am_steps_r ok_M_readObject 2 (q' := (172, [some (.ref 19), some (.int (nI t)), some (.int (nI (8 * noo))), some (.int (nI nv)), some (.int (nI u)), some (.int (nI nv2)), none], [], wd C (upd Y2.1 6 (nI (skW n b e3)), Y2.2) og)) rfl ?_
              have hfin : fin1 n b E noo (.inr (x, k2, nv2, u2, V2, no2)) = .inr (nv2, e3, (nv2 + 1), (u2 + bs.length), (vtS V2 nv2 x bs), (no2 ||| bit)) := hst1
              have hTf : tpY (upd Y2.1 6 (nI (skW n b e3)), Y2.2) n b := hT
              exact tl_M_readObject_172 d C Y og n b k t nv u noo V E hno (upd Y2.1 6 (nI (skW n b e3)), Y2.2) (hTf) (ff3.1.2.2.1.trans z2) (ff3.1.2.2.2.1.trans z3) (ff3.1.1.trans z0) (wrY_tr zw ⟨ff3.1.2.2.2.2.1, ff3.1.2.2.2.2.2.1, ff3.1.2.2.2.2.2.2.1, ff3.1.2.2.2.2.2.2.2, ff3.2.1.2.2.1, ff3.2.1.2.2.2.1, ff3.2.1.2.2.2.2⟩) (fun i hi j hj => (congrFun ff3.2.1.2.1 _).trans (A1 i hi j hj)) ((congrFun ff3.2.1.2.1 _).trans A2) ((congrFun ff3.2.1.2.1 _).trans A3) ((congrFun ff3.2.1.2.1 _).trans A4) nv2 e3 (nv2 + 1) (u2 + bs.length) (vtS V2 nv2 x bs) (no2 ||| bit) hI2.2.2.1 hI2.2.2.2.1 (by omega) (by omega) rfl (show vsY (upd Y2.1 6 (nI (skW n b e3)), Y2.2) (nv2 + 1) (u2 + bs.length) (vtS V2 nv2 x bs) from hI2.2.2.2.2) hV (fun w hw => (ff3.2.2 w hw).trans (z7 w hw)) (vbe_tr x9 (vbe_S nv2 V2 x bs) x8) (by omega) _ (fun w' hw => by obtain ⟨Y9, e9, hF⟩ := hw; exact hp _ ⟨Y9, e9, by rw [hfin]; exact hF⟩)
            · skip
              have h_13 : ¬ 0 = 0 := fun z => h_13 ((nI_eq (show 0 < 2 ^ 31 by omega) (show 0 < 2 ^ 31 by omega)).mpr z)
              exfalso; omega
        · skip
          have hns : ¬ (V2.1 x = 7 ∧ wdA b st_7 (skW n b k2) = true) := fun z => by rw [z.2] at h_9; cases h_9
          have hfin : fin1 n b E noo (.inr (x, k2, nv2, u2, V2, no2)) = .inr (x, (skW n b k2), nv2, u2, V2, no2) := if_neg hns
          have hTf : tpY (upd Y1.1 6 (nI (skW n b k2)), Y1.2) n b := hT
          exact tl_M_readObject_172 d C Y og n b k t nv u noo V E hno (upd Y1.1 6 (nI (skW n b k2)), Y1.2) (hTf) (ff.1.2.2.1.trans z2) (ff.1.2.2.2.1.trans z3) (ff.1.1.trans z0) (wrY_tr zw ⟨ff.1.2.2.2.2.1, ff.1.2.2.2.2.2.1, ff.1.2.2.2.2.2.2.1, ff.1.2.2.2.2.2.2.2, ff.2.1.2.2.1, ff.2.1.2.2.2.1, ff.2.1.2.2.2.2⟩) (fun i hi j hj => (congrFun ff.2.1.2.1 _).trans (A1 i hi j hj)) ((congrFun ff.2.1.2.1 _).trans A2) ((congrFun ff.2.1.2.1 _).trans A3) ((congrFun ff.2.1.2.1 _).trans A4) x (skW n b k2) nv2 u2 V2 no2 hI1.2.2.1 hI1.2.2.2.1 (by omega) (by omega) (congrArg nI (skW_id hT.2.2.2.1 (by omega)).symm) (show vsY (upd Y1.1 6 (nI (skW n b k2)), Y1.2) nv2 u2 V2 from hI1.2.2.2.2) hV (fun w hw => (ff.2.2 w hw).trans (z7 w hw)) x9 (by omega) _ (fun w' hw => by obtain ⟨Y9, e9, hF⟩ := hw; exact hp _ ⟨Y9, e9, by rw [hfin]; exact hF⟩)
      · skip
        have hns : ¬ (V2.1 x = 7 ∧ wdA b st_7 (skW n b k2) = true) := fun z => h_7 z.1
        have hfin : fin1 n b E noo (.inr (x, k2, nv2, u2, V2, no2)) = .inr (x, (skW n b k2), nv2, u2, V2, no2) := if_neg hns
        have hTf : tpY (upd Y1.1 6 (nI (skW n b k2)), Y1.2) n b := hT
        exact tl_M_readObject_172 d C Y og n b k t nv u noo V E hno (upd Y1.1 6 (nI (skW n b k2)), Y1.2) (hTf) (ff.1.2.2.1.trans z2) (ff.1.2.2.2.1.trans z3) (ff.1.1.trans z0) (wrY_tr zw ⟨ff.1.2.2.2.2.1, ff.1.2.2.2.2.2.1, ff.1.2.2.2.2.2.2.1, ff.1.2.2.2.2.2.2.2, ff.2.1.2.2.1, ff.2.1.2.2.2.1, ff.2.1.2.2.2.2⟩) (fun i hi j hj => (congrFun ff.2.1.2.1 _).trans (A1 i hi j hj)) ((congrFun ff.2.1.2.1 _).trans A2) ((congrFun ff.2.1.2.1 _).trans A3) ((congrFun ff.2.1.2.1 _).trans A4) x (skW n b k2) nv2 u2 V2 no2 hI1.2.2.1 hI1.2.2.2.1 (by omega) (by omega) (congrArg nI (skW_id hT.2.2.2.1 (by omega)).symm) (show vsY (upd Y1.1 6 (nI (skW n b k2)), Y1.2) nv2 u2 V2 from hI1.2.2.2.2) hV (fun w hw => (ff.2.2 w hw).trans (z7 w hw)) x9 (by omega) _ (fun w' hw => by obtain ⟨Y9, e9, hF⟩ := hw; exact hp _ ⟨Y9, e9, by rw [hfin]; exact hF⟩)
    · skip
      have h_4 : ¬ 0 = 0 := fun z => h_4 ((nI_eq (show 0 < 2 ^ 31 by omega) (show 0 < 2 ^ 31 by omega)).mpr z)
      exfalso; omega
set_option maxHeartbeats 4000000 in
set_option maxRecDepth 100000 in
theorem fr1_M_readObject (d : Nat) (C : wd_C) (Y : wd_Y) (og : Nat → Int64) (n : Nat) (b : Nat → Int32) (k noo : Nat) (E : Nat → Nat → Int32) (nv u : Nat) (V : VT) (sy : Nat) (hB : bsY Y n b (k, noo, E, nv, u, V, sy)) (hno : noo < 20) (t : Nat) (hpr : prW n b st_0 k = some t) (ht3 : t + 3 ≤ n) (hkt : k < t) (hgd : gd n nv u (t + 3) V) (hob : obI nv noo E) (r : RR) (hR : Rd n b none 0 (t + 3, nv, u, V, 0) r) (hfx : rdFx n nv u V r) (post : Option Value → am_W → Prop) (hK : ∀ xa : Int32, xa = obA b n k → am_Rn l D cA ad fm (d + 8) m_M_readObject (wd C Y og).length post (34, [some (.ref 19), some (.int (nI t)), some (.int (nI (8 * noo))), some (.int (nI nv)), some (.int (nI u)), none, none], [], wd C (Y.1, wd_u Y.2.1 1 (upd (Y.2.1 1) (8 * noo) xa), Y.2.2) og)) : am_Rn l D cA ad fm (d + 8) m_M_readObject (wd C Y og).length post (0, [some (.ref 19), some (.int (nI t)), none, none, none, none, none], [], wd C Y og) := by
  have hT : tpY Y n b := hB.1
  have h6 : Y.1 6 = nI k := hB.2.1
  have hO : obY Y noo E := hB.2.2.1
  have hV : vsY Y nv u V := hB.2.2.2.1
  have hn := hT.2.1
  have hnv := hV.1.2.1
  have hu2 := hV.1.2.2.2
  obtain ⟨e1, e2, hq1, hq2, hq3, hq4⟩ := prW_any hpr
  obtain ⟨d1, d2, d3, d4, d5, d6, d7⟩ := fgW_some hT.2.2.2.1 (by omega) hq1
  have wq := skW_le n b d3
  obtain ⟨c1, c2, c3, c4, c5, c6, c7⟩ := fgW_some hT.2.2.2.1 wq.2 hq2
  subst d1
  subst c1
  have nf : ∀ x, isReg x = false → isFig x = false := fun x hx => by
    cases hz : isFig x with
    | false => rfl
    | true => rw [isReg_fig hz] at hx; cases hx
  refine am_steps_r ok_M_readObject 17 (q' := (29, [some (.ref 19), some (.int (nI t)), some (.int (8 * (Y.1 2))), some (.int (Y.1 4)), some (.int (Y.1 5)), none, none], [.int (Y.1 6), .ref 19, .int (8 * (Y.1 2)), .ref 21], wd C Y og)) rfl ?_
  rw [show (Y.1 2 : Int32) = nI noo from hO.1]
  rw [show (8 * (nI noo) : Int32) = nI (8 * noo) from pk_mul 8 noo]
  rw [show (Y.1 4 : Int32) = nI nv from hV.1.1]
  rw [show (Y.1 5 : Int32) = nI u from hV.1.2.2.1]
  rw [show (Y.1 6 : Int32) = nI k from h6]
  refine am_callV_r (As := [.int (nI k)]) (rest := [.int (nI (8 * noo)), .ref 21]) ok_M_readObject rfl rfl ok_M_figuresAt oi_M_figuresAt lk_6_193 (Or.inl ⟨_, _, _, rfl, rfl, rfl⟩) rfl rfl (Nat.le_of_ble_eq_true rfl) (c_M_figuresAt _ C Y og n b (show tpY Y n b from hT) k (wEnd n b k - k) (by omega) (fun j a1 a2 => d7 j a1 (by omega)) (by rw [show k + (wEnd n b k - k) = wEnd n b k by omega]; exact nf _ d5)) ?_
  rintro v_ w_ ⟨rfl, rfl⟩ -
  refine am_eq_r (q' := (32, [some (.ref 19), some (.int (nI t)), some (.int (nI (8 * noo))), some (.int (nI nv)), some (.int (nI u)), none, none], [.long (lN (fgV b k (wEnd n b k - k))), .int (nI (8 * noo)), .ref 21], wd C Y og)) rfl ?_
  refine am_steps_r ok_M_readObject 1 (q' := (33, [some (.ref 19), some (.int (nI t)), some (.int (nI (8 * noo))), some (.int (nI nv)), some (.int (nI u)), none, none], [.int ((lN (fgV b k (wEnd n b k - k))).toInt32), .int (nI (8 * noo)), .ref 21], wd C Y og)) rfl ?_
  rw [show (lN (fgV b k (wEnd n b k - k))).toInt32 = (obA b n k) from lN_i _]
  generalize hxa : obA b n k = xa
  refine am_iast_r ok_M_readObject rfl (w := wd C Y og) (f := Y.2.1 1) rfl rfl (pk_in (8 * noo) 160 (by omega)) ?_
  rw [nI_clamp (show (8 * noo) < 2 ^ 31 by omega)]
  refine am_eq_r (q' := (34, [some (.ref 19), some (.int (nI t)), some (.int (nI (8 * noo))), some (.int (nI nv)), some (.int (nI u)), none, none], [], wd C (Y.1, wd_u Y.2.1 1 (upd (Y.2.1 1) (8 * noo) xa), Y.2.2) og)) rfl ?_
  exact hK xa hxa.symm
set_option maxHeartbeats 4000000 in
set_option maxRecDepth 100000 in
theorem fr2_M_readObject (d : Nat) (C : wd_C) (Y : wd_Y) (og : Nat → Int64) (n : Nat) (b : Nat → Int32) (k noo : Nat) (E : Nat → Nat → Int32) (nv u : Nat) (V : VT) (sy : Nat) (hB : bsY Y n b (k, noo, E, nv, u, V, sy)) (hno : noo < 20) (t : Nat) (hpr : prW n b st_0 k = some t) (ht3 : t + 3 ≤ n) (hkt : k < t) (hgd : gd n nv u (t + 3) V) (hob : obI nv noo E) (r : RR) (hR : Rd n b none 0 (t + 3, nv, u, V, 0) r) (hfx : rdFx n nv u V r) (xa : Int32) (post : Option Value → am_W → Prop) (hK : ∀ xg : Int32, xg = obG b n k → am_Rn l D cA ad fm (d + 8) m_M_readObject (wd C Y og).length post (59, [some (.ref 19), some (.int (nI t)), some (.int (nI (8 * noo))), some (.int (nI nv)), some (.int (nI u)), none, none], [], wd C (Y.1, wd_u Y.2.1 1 (upd (upd (Y.2.1 1) (8 * noo) xa) ((8 * noo) + 1) xg), Y.2.2) og)) : am_Rn l D cA ad fm (d + 8) m_M_readObject (wd C Y og).length post (34, [some (.ref 19), some (.int (nI t)), some (.int (nI (8 * noo))), some (.int (nI nv)), some (.int (nI u)), none, none], [], wd C (Y.1, wd_u Y.2.1 1 (upd (Y.2.1 1) (8 * noo) xa), Y.2.2) og) := by
  have hT : tpY Y n b := hB.1
  have h6 : Y.1 6 = nI k := hB.2.1
  have hO : obY Y noo E := hB.2.2.1
  have hV : vsY Y nv u V := hB.2.2.2.1
  have hn := hT.2.1
  have hnv := hV.1.2.1
  have hu2 := hV.1.2.2.2
  obtain ⟨e1, e2, hq1, hq2, hq3, hq4⟩ := prW_any hpr
  obtain ⟨d1, d2, d3, d4, d5, d6, d7⟩ := fgW_some hT.2.2.2.1 (by omega) hq1
  have wq := skW_le n b d3
  obtain ⟨c1, c2, c3, c4, c5, c6, c7⟩ := fgW_some hT.2.2.2.1 wq.2 hq2
  subst d1
  subst c1
  have nf : ∀ x, isReg x = false → isFig x = false := fun x hx => by
    cases hz : isFig x with
    | false => rfl
    | true => rw [isReg_fig hz] at hx; cases hx
  refine am_steps_r ok_M_readObject 10 (q' := (48, [some (.ref 19), some (.int (nI t)), some (.int (nI (8 * noo))), some (.int (nI nv)), some (.int (nI u)), none, none], [.int (Y.1 6), .ref 19, .ref 19, .ref 19, .int ((nI (8 * noo)) + 1), .ref 21], wd C (Y.1, wd_u Y.2.1 1 (upd (Y.2.1 1) (8 * noo) xa), Y.2.2) og)) rfl ?_
  rw [show ((nI (8 * noo)) + 1 : Int32) = nI ((8 * noo) + 1) from nI_add (8 * noo) 1]
  rw [show (Y.1 6 : Int32) = nI k from h6]
  refine am_callV_r (As := [.int (nI k)]) (rest := [.ref 19, .ref 19, .int (nI ((8 * noo) + 1)), .ref 21]) ok_M_readObject rfl rfl ok_M_behindWord oi_M_behindWord lk_6_117 (Or.inl ⟨_, _, _, rfl, rfl, rfl⟩) rfl rfl (Nat.le_of_ble_eq_true rfl) (c_M_behindWord _ C (Y.1, wd_u Y.2.1 1 (upd (Y.2.1 1) (8 * noo) xa), Y.2.2) og n b (show tpY (Y.1, wd_u Y.2.1 1 (upd (Y.2.1 1) (8 * noo) xa), Y.2.2) n b from hT) k (by omega)) ?_
  rintro v_ w_ ⟨rfl, rfl⟩ -
  refine am_eq_r (q' := (51, [some (.ref 19), some (.int (nI t)), some (.int (nI (8 * noo))), some (.int (nI nv)), some (.int (nI u)), none, none], [.int (nI (wEnd n b k)), .ref 19, .ref 19, .int (nI ((8 * noo) + 1)), .ref 21], wd C (Y.1, wd_u Y.2.1 1 (upd (Y.2.1 1) (8 * noo) xa), Y.2.2) og)) rfl ?_
  have sk_2 := skW_le n b (k := (wEnd n b k)) (by omega)
  refine am_callV_r (As := [.int (nI (wEnd n b k))]) (rest := [.ref 19, .int (nI ((8 * noo) + 1)), .ref 21]) ok_M_readObject rfl rfl ok_M_behindWhite oi_M_behindWhite lk_6_127 (Or.inl ⟨_, _, _, rfl, rfl, rfl⟩) rfl rfl (Nat.le_of_ble_eq_true rfl) (c_M_behindWhite _ C (Y.1, wd_u Y.2.1 1 (upd (Y.2.1 1) (8 * noo) xa), Y.2.2) og n b (show tpY (Y.1, wd_u Y.2.1 1 (upd (Y.2.1 1) (8 * noo) xa), Y.2.2) n b from hT) (wEnd n b k) (by omega)) ?_
  rintro v_ w_ ⟨rfl, rfl⟩ -
  refine am_eq_r (q' := (54, [some (.ref 19), some (.int (nI t)), some (.int (nI (8 * noo))), some (.int (nI nv)), some (.int (nI u)), none, none], [.int (nI (skW n b (wEnd n b k))), .ref 19, .int (nI ((8 * noo) + 1)), .ref 21], wd C (Y.1, wd_u Y.2.1 1 (upd (Y.2.1 1) (8 * noo) xa), Y.2.2) og)) rfl ?_
  refine am_callV_r (As := [.int (nI (skW n b (wEnd n b k)))]) (rest := [.int (nI ((8 * noo) + 1)), .ref 21]) ok_M_readObject rfl rfl ok_M_figuresAt oi_M_figuresAt lk_6_193 (Or.inl ⟨_, _, _, rfl, rfl, rfl⟩) rfl rfl (Nat.le_of_ble_eq_true rfl) (c_M_figuresAt _ C (Y.1, wd_u Y.2.1 1 (upd (Y.2.1 1) (8 * noo) xa), Y.2.2) og n b (show tpY (Y.1, wd_u Y.2.1 1 (upd (Y.2.1 1) (8 * noo) xa), Y.2.2) n b from hT) (skW n b (wEnd n b k)) (wEnd n b (skW n b (wEnd n b k)) - skW n b (wEnd n b k)) (by omega) (fun j a1 a2 => c7 j a1 (by omega)) (by rw [show skW n b (wEnd n b k) + (wEnd n b (skW n b (wEnd n b k)) - skW n b (wEnd n b k)) = wEnd n b (skW n b (wEnd n b k)) by omega]; exact nf _ c5)) ?_
  rintro v_ w_ ⟨rfl, rfl⟩ -
  refine am_eq_r (q' := (57, [some (.ref 19), some (.int (nI t)), some (.int (nI (8 * noo))), some (.int (nI nv)), some (.int (nI u)), none, none], [.long (lN (fgV b (skW n b (wEnd n b k)) (wEnd n b (skW n b (wEnd n b k)) - skW n b (wEnd n b k)))), .int (nI ((8 * noo) + 1)), .ref 21], wd C (Y.1, wd_u Y.2.1 1 (upd (Y.2.1 1) (8 * noo) xa), Y.2.2) og)) rfl ?_
  refine am_steps_r ok_M_readObject 1 (q' := (58, [some (.ref 19), some (.int (nI t)), some (.int (nI (8 * noo))), some (.int (nI nv)), some (.int (nI u)), none, none], [.int ((lN (fgV b (skW n b (wEnd n b k)) (wEnd n b (skW n b (wEnd n b k)) - skW n b (wEnd n b k)))).toInt32), .int (nI ((8 * noo) + 1)), .ref 21], wd C (Y.1, wd_u Y.2.1 1 (upd (Y.2.1 1) (8 * noo) xa), Y.2.2) og)) rfl ?_
  rw [show (lN (fgV b (skW n b (wEnd n b k)) (wEnd n b (skW n b (wEnd n b k)) - skW n b (wEnd n b k)))).toInt32 = (obG b n k) from lN_i _]
  generalize hxg : obG b n k = xg
  refine am_iast_r ok_M_readObject rfl (w := wd C (Y.1, wd_u Y.2.1 1 (upd (Y.2.1 1) (8 * noo) xa), Y.2.2) og) (f := (upd (Y.2.1 1) (8 * noo) xa)) rfl rfl (pk_in ((8 * noo) + 1) 160 (by omega)) ?_
  rw [nI_clamp (show ((8 * noo) + 1) < 2 ^ 31 by omega)]
  refine am_eq_r (q' := (59, [some (.ref 19), some (.int (nI t)), some (.int (nI (8 * noo))), some (.int (nI nv)), some (.int (nI u)), none, none], [], wd C (Y.1, wd_u Y.2.1 1 (upd (upd (Y.2.1 1) (8 * noo) xa) ((8 * noo) + 1) xg), Y.2.2) og)) rfl ?_
  exact hK xg hxg.symm
set_option maxHeartbeats 4000000 in
set_option maxRecDepth 100000 in
theorem fr3_M_readObject (d : Nat) (C : wd_C) (Y : wd_Y) (og : Nat → Int64) (n : Nat) (b : Nat → Int32) (k noo : Nat) (E : Nat → Nat → Int32) (nv u : Nat) (V : VT) (sy : Nat) (hB : bsY Y n b (k, noo, E, nv, u, V, sy)) (hno : noo < 20) (t : Nat) (hpr : prW n b st_0 k = some t) (ht3 : t + 3 ≤ n) (hkt : k < t) (hgd : gd n nv u (t + 3) V) (hob : obI nv noo E) (r : RR) (hR : Rd n b none 0 (t + 3, nv, u, V, 0) r) (hfx : rdFx n nv u V r) (xa xg : Int32) (ea : xa = obA b n k) (eg : xg = obG b n k) (post : Option Value → am_W → Prop) (hp : ∀ w', (∃ Y' : wd_Y, w' = wd C Y' og ∧ obGY Y Y' n b nv u V noo E k (fin2 n b (fin1 n b E noo r))) → post none w') : am_Rn l D cA ad fm (d + 8) m_M_readObject (wd C Y og).length post (59, [some (.ref 19), some (.int (nI t)), some (.int (nI (8 * noo))), some (.int (nI nv)), some (.int (nI u)), none, none], [], wd C (Y.1, wd_u Y.2.1 1 (upd (upd (Y.2.1 1) (8 * noo) xa) ((8 * noo) + 1) xg), Y.2.2) og) := by
  have hT : tpY Y n b := hB.1
  have h6 : Y.1 6 = nI k := hB.2.1
  have hO : obY Y noo E := hB.2.2.1
  have hV : vsY Y nv u V := hB.2.2.2.1
  have hn := hT.2.1
  have hnv := hV.1.2.1
  have hu2 := hV.1.2.2.2
  obtain ⟨e1, e2, hq1, hq2, hq3, hq4⟩ := prW_any hpr
  obtain ⟨d1, d2, d3, d4, d5, d6, d7⟩ := fgW_some hT.2.2.2.1 (by omega) hq1
  have wq := skW_le n b d3
  obtain ⟨c1, c2, c3, c4, c5, c6, c7⟩ := fgW_some hT.2.2.2.1 wq.2 hq2
  subst d1
  subst c1
  have nf : ∀ x, isReg x = false → isFig x = false := fun x hx => by
    cases hz : isFig x with
    | false => rfl
    | true => rw [isReg_fig hz] at hx; cases hx
  refine am_steps_r ok_M_readObject 7 (q' := (71, [some (.ref 19), some (.int (nI t)), some (.int (nI (8 * noo))), some (.int (nI nv)), some (.int (nI u)), none, none], [.int (Y.1 6), .int ((nI (8 * noo)) + 6), .ref 21], wd C (Y.1, wd_u Y.2.1 1 (upd (upd (Y.2.1 1) (8 * noo) xa) ((8 * noo) + 1) xg), Y.2.2) og)) rfl ?_
  rw [show ((nI (8 * noo)) + 6 : Int32) = nI ((8 * noo) + 6) from nI_add (8 * noo) 6]
  rw [show (Y.1 6 : Int32) = nI k from h6]
  refine am_iast_r ok_M_readObject rfl (w := wd C (Y.1, wd_u Y.2.1 1 (upd (upd (Y.2.1 1) (8 * noo) xa) ((8 * noo) + 1) xg), Y.2.2) og) (f := (upd (upd (Y.2.1 1) (8 * noo) xa) ((8 * noo) + 1) xg)) rfl rfl (pk_in ((8 * noo) + 6) 160 (by omega)) ?_
  rw [nI_clamp (show ((8 * noo) + 6) < 2 ^ 31 by omega)]
  refine am_eq_r (q' := (72, [some (.ref 19), some (.int (nI t)), some (.int (nI (8 * noo))), some (.int (nI nv)), some (.int (nI u)), none, none], [], wd C (Y.1, wd_u Y.2.1 1 (upd (upd (upd (Y.2.1 1) (8 * noo) xa) ((8 * noo) + 1) xg) ((8 * noo) + 6) (nI k)), Y.2.2) og)) rfl ?_
  refine am_steps_r ok_M_readObject 12 (q' := (90, [some (.ref 19), some (.int (nI t)), some (.int (nI (8 * noo))), some (.int (nI nv)), some (.int (nI u)), none, none], [.ref 19], wd C (upd (upd (upd Y.1 7 0) 9 0) 6 ((nI t) + 3), wd_u Y.2.1 1 (upd (upd (upd (Y.2.1 1) (8 * noo) xa) ((8 * noo) + 1) xg) ((8 * noo) + 6) (nI k)), Y.2.2) og)) rfl ?_
  rw [show ((nI t) + 3 : Int32) = nI (t + 3) from nI_add t 3]
  have hIx : ryI (upd (upd (upd Y.1 7 0) 9 0) 6 (nI (t + 3)), wd_u Y.2.1 1 (upd (upd (upd (Y.2.1 1) (8 * noo) xa) ((8 * noo) + 1) xg) ((8 * noo) + 6) (nI k)), Y.2.2) n b (t + 3) nv u V 0 := ⟨hT, rfl, rfl, rfl, vsY_ar hV rfl rfl (fun j h1 h2 => wd_u_ne (by omega)) rfl⟩
  have A1 : ∀ i, i < noo → ∀ j, j < 8 → (upd (upd (upd Y.1 7 0) 9 0) 6 (nI (t + 3)), wd_u Y.2.1 1 (upd (upd (upd (Y.2.1 1) (8 * noo) xa) ((8 * noo) + 1) xg) ((8 * noo) + 6) (nI k)), Y.2.2).2.1 1 (8 * i + j) = E i j := fun i hi j hj => by
    show upd (upd (upd (Y.2.1 1) (8 * noo) _) (8 * noo + 1) _) (8 * noo + 6) _ (8 * i + j) = _
    rw [upd_ne (by omega), upd_ne (by omega), upd_ne (by omega)]; exact hO.2.2 i hi j hj
  have A2 : (upd (upd (upd Y.1 7 0) 9 0) 6 (nI (t + 3)), wd_u Y.2.1 1 (upd (upd (upd (Y.2.1 1) (8 * noo) xa) ((8 * noo) + 1) xg) ((8 * noo) + 6) (nI k)), Y.2.2).2.1 1 (8 * noo) = obA b n k := by
    show upd (upd (upd (Y.2.1 1) (8 * noo) _) (8 * noo + 1) _) (8 * noo + 6) _ (8 * noo) = _
    rw [upd_ne (by omega), upd_ne (by omega), upd, if_pos rfl]; exact ea
  have A3 : (upd (upd (upd Y.1 7 0) 9 0) 6 (nI (t + 3)), wd_u Y.2.1 1 (upd (upd (upd (Y.2.1 1) (8 * noo) xa) ((8 * noo) + 1) xg) ((8 * noo) + 6) (nI k)), Y.2.2).2.1 1 (8 * noo + 1) = obG b n k := by
    show upd (upd (upd (Y.2.1 1) (8 * noo) _) (8 * noo + 1) _) (8 * noo + 6) _ (8 * noo + 1) = _
    rw [upd_ne (by omega), upd, if_pos rfl]; exact eg
  have A4 : (upd (upd (upd Y.1 7 0) 9 0) 6 (nI (t + 3)), wd_u Y.2.1 1 (upd (upd (upd (Y.2.1 1) (8 * noo) xa) ((8 * noo) + 1) xg) ((8 * noo) + 6) (nI k)), Y.2.2).2.1 1 (8 * noo + 6) = nI k := by
    show upd (upd (upd (Y.2.1 1) (8 * noo) _) (8 * noo + 1) _) (8 * noo + 6) _ (8 * noo + 6) = _
    rw [upd, if_pos rfl]
  refine am_callV_r (As := []) (rest := []) ok_M_readObject rfl rfl ok_M_readValue oi_M_readValue lk_6_251 (Or.inl ⟨_, _, _, rfl, rfl, rfl⟩) rfl rfl (Nat.le_of_ble_eq_true rfl) (c_M_readValue _ C (upd (upd (upd Y.1 7 0) 9 0) 6 (nI (t + 3)), wd_u Y.2.1 1 (upd (upd (upd (Y.2.1 1) (8 * noo) xa) ((8 * noo) + 1) xg) ((8 * noo) + 6) (nI k)), Y.2.2) og n b (t + 3) nv u V 0 hIx ht3 hgd.2.2.1 r hR hfx) ?_
  rintro v_ w_ hQ -
  exact md_M_readObject d C Y og n b k noo E nv u V hV hno t ht3 hgd hob r hR hfx (upd (upd (upd Y.1 7 0) 9 0) 6 (nI (t + 3)), wd_u Y.2.1 1 (upd (upd (upd (Y.2.1 1) (8 * noo) xa) ((8 * noo) + 1) xg) ((8 * noo) + 6) (nI k)), Y.2.2) hIx hO.1 rfl rfl ⟨rfl, rfl, rfl, rfl, rfl, rfl, rfl⟩ (fun _ _ => rfl) A1 A2 A3 A4 post hp v_ w_ hQ
set_option maxHeartbeats 4000000 in
set_option maxRecDepth 100000 in
theorem c_M_readObject (d : Nat) (C : wd_C) (Y : wd_Y) (og : Nat → Int64) (n : Nat) (b : Nat → Int32) (k noo : Nat) (E : Nat → Nat → Int32) (nv u : Nat) (V : VT) (sy : Nat) (hB : bsY Y n b (k, noo, E, nv, u, V, sy)) (hno : noo < 20) (t : Nat) (hpr : prW n b st_0 k = some t) (ht3 : t + 3 ≤ n) (hkt : k < t) (hgd : gd n nv u (t + 3) V) (hob : obI nv noo E) (r : RR) (hR : Rd n b none 0 (t + 3, nv, u, V, 0) r) (hfx : rdFx n nv u V r)  : am_Mt l D cA ad fm (d + 8) m_M_readObject [.ref 19, .int (nI t)] (wd C Y og) (fun vr w' => vr = none ∧ ∃ Y' : wd_Y, w' = wd C Y' og ∧ obGY Y Y' n b nv u V noo E k (fin2 n b (fin1 n b E noo r))) := by
  refine am_mt ok_M_readObject (by simp [am_arg, Value.category, m_M_readObject, am_ml]) ?_
  refine am_eq_r (q' := (0, [some (.ref 19), some (.int (nI t)), none, none, none, none, none], [], wd C Y og)) rfl ?_
  exact fr1_M_readObject d C Y og n b k noo E nv u V sy hB hno t hpr ht3 hkt hgd hob r hR hfx _ (fun xa ea => fr2_M_readObject d C Y og n b k noo E nv u V sy hB hno t hpr ht3 hkt hgd hob r hR hfx xa _ (fun xg eg => fr3_M_readObject d C Y og n b k noo E nv u V sy hB hno t hpr ht3 hkt hgd hob r hR hfx xa xg ea eg _ (fun w' hw => ⟨rfl, hw⟩)))
end C91
