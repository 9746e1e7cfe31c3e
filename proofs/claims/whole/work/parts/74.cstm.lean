/-! the component reads a stream behind its dictionary; printed by wip/gen/g74.py -/
section C74
variable {l : Launch} {D : va_G} {cA : Nat → ClassId} {ad : Nat → Nat} {fm : Value}
set_option maxHeartbeats 2000000 in
set_option maxRecDepth 100000 in
theorem c_R_readStreamOf_i (d : Nat) (C : wd_C) (Y : wd_Y) (og : Nat → Int64) (n : Nat) (b : Nat → Int32) (nv0 : Nat) (ht : Nat → Nat) (k nv u : Nat) (V : VT) (no : Int32) (hI : rdI C n b nv0 ht k nv u V no) (x : Nat) (hx : x < nv) (hfx : vfr C nv V x) (noo : Nat) (E : Nat → Nat → Int32) (hO : obC C noo E) (hob : obV nv noo E) (hfm : fm = .null ∨ fm = .ref 3000) (hk1 : 1 ≤ k) (h3 : nv < 300) : am_Mt l D cA ad fm (d + 7) m_R_readStreamOf [.ref 16, .int (nI x)] (wd C Y og) (soO C Y og n nv0 k nv u V (stmR n b k nv u V no x (tlO (tlN V E noo x)))) := by
  have hT := hI.1
  have hn := hT.2.1
  have hkn := hI.2.2.2.2.2.1
  have huk := hI.2.2.2.2.2.2.1
  have hS := hI.2.2.2.2.1
  have hnv := hS.1.2.1
  have hsk := skW_le n b hkn
  refine am_mt ok_R_readStreamOf (by simp [am_arg, Value.category, m_R_readStreamOf, am_ml]) ?_
  refine am_eq_r (q' := (0, [some (.ref 16), some (.int (nI x)), none, none, none, none, none, none], [], wd C Y og)) rfl ?_
  refine am_steps_r ok_R_readStreamOf 5 (q' := (9, [some (.ref 16), some (.int (nI x)), none, none, none, none, none, none], [.int (C.1 4), .ref 1, .ref 16], wd C Y og)) rfl ?_
  rw [show (C.1 4 : Int32) = nI k from hI.2.1]
  have w_1 := skW_le n b (k := k) (by omega)
  refine am_callV_r (As := [.int (nI k)]) (rest := [.ref 16]) ok_R_readStreamOf rfl rfl ok_T_behindWhite oi_T_behindWhite lk_1_56 (Or.inl ⟨_, _, _, rfl, rfl, rfl⟩) rfl rfl (Nat.le_of_ble_eq_true rfl) (c_T_behindWhite _ C Y og n b hT k (by omega)) ?_
  rintro v_ w_ ⟨rfl, rfl⟩ -
  refine am_eq_r (q' := (12, [some (.ref 16), some (.int (nI x)), none, none, none, none, none, none], [.int (nI (skW n b k)), .ref 16], wd C Y og)) rfl ?_
  refine am_steps_r ok_R_readStreamOf 4 (q' := (20, [some (.ref 16), some (.int (nI x)), none, none, none, none, none, none], [.int (nI x), .ref 3], wd (upd C.1 4 (nI (skW n b k)), C.2) Y og)) rfl ?_
  refine am_callV_r (As := [.int (nI x)]) (rest := []) ok_R_readStreamOf rfl rfl ok_V_kindOf oi_V_kindOf lk_1_177 (Or.inl ⟨_, _, _, rfl, rfl, rfl⟩) rfl rfl (Nat.le_of_ble_eq_true rfl) (c_V_kindOf_in _ (upd C.1 4 (nI (skW n b k)), C.2) Y og nv u hS.1 x hx) ?_
  rintro v_ w_ ⟨rfl, rfl⟩ -
  rw [(hS.2.1 x hx).1]
  refine am_eq_r (q' := (23, [some (.ref 16), some (.int (nI x)), none, none, none, none, none, none], [.int (V.1 x)], wd (upd C.1 4 (nI (skW n b k)), C.2) Y og)) rfl ?_
  refine am_steps_r ok_R_readStreamOf 2 (q' := (bif decide ((V.1 x) = 7) then 28 else 44, [some (.ref 16), some (.int (nI x)), none, none, none, none, none, none], [], wd (upd C.1 4 (nI (skW n b k)), C.2) Y og)) rfl ?_
  refine am_br_r (fun h_3 => ?_) (fun h_3 => ?_)
  · skip
    have hx7 : V.1 x = 7 := h_3
    refine am_steps_r ok_R_readStreamOf 5 (q' := (38, [some (.ref 16), some (.int (nI x)), none, none, none, none, none, none], [.ref 1007, .int (nI (skW n b k)), .ref 1], wd (upd C.1 4 (nI (skW n b k)), C.2) Y og)) rfl ?_
    refine am_callV_r (As := [.int (nI (skW n b k)), .ref 1007]) (rest := []) ok_R_readStreamOf rfl rfl ok_T_wordStands oi_T_wordStands lk_1_83 (Or.inl ⟨_, _, _, rfl, rfl, rfl⟩) rfl rfl (Nat.le_of_ble_eq_true rfl) (c_T_wordStands _ (upd C.1 4 (nI (skW n b k)), C.2) Y og n b hT 7 _ _ _ st_7 rfl (by decide) hfm (skW n b k) (by omega)) ?_
    rintro v_ w_ ⟨rfl, rfl⟩ -
    refine am_eq_r (q' := (41, [some (.ref 16), some (.int (nI x)), none, none, none, none, none, none], [.int (bz (wdA b st_7 (skW n b k)))], wd (upd C.1 4 (nI (skW n b k)), C.2) Y og)) rfl ?_
    refine am_steps_r ok_R_readStreamOf 1 (q' := (bif decide ((bz (wdA b st_7 (skW n b k))) = 0) then 44 else 46, [some (.ref 16), some (.int (nI x)), none, none, none, none, none, none], [], wd (upd C.1 4 (nI (skW n b k)), C.2) Y og)) rfl ?_
    refine am_bz_r (fun h_5 => ?_) (fun h_5 => ?_)
    · skip
      refine am_steps_r ok_R_readStreamOf 5 (q' := (55, [some (.ref 16), some (.int (nI x)), some (.int (nI (skW n b k))), none, none, none, none, none], [.ref 3], wd (upd C.1 4 (nI (skW n b k)), C.2) Y og)) rfl ?_
      refine am_callV_r (As := []) (rest := []) ok_R_readStreamOf rfl rfl ok_V_add oi_V_add lk_1_134 (Or.inl ⟨_, _, _, rfl, rfl, rfl⟩) rfl rfl (Nat.le_of_ble_eq_true rfl) (c_V_add_in _ (upd C.1 4 (nI (skW n b k)), C.2) Y og nv u hS.1 h3) ?_
      rintro v_ w_ ⟨rfl, rfl⟩ -
      refine am_eq_r (q' := (58, [some (.ref 16), some (.int (nI x)), some (.int (nI (skW n b k))), none, none, none, none, none], [.int (nI nv)], wd (vAdd (upd C.1 4 (nI (skW n b k)), C.2) nv u) Y og)) rfl ?_
      refine am_steps_r ok_R_readStreamOf 4 (q' := (bif decide ((nI nv) = (-1)) then 64 else 72, [some (.ref 16), some (.int (nI x)), some (.int (nI (skW n b k))), some (.int (nI nv)), none, none, none, none], [], wd (vAdd (upd C.1 4 (nI (skW n b k)), C.2) nv u) Y og)) rfl ?_
      refine am_br_r (fun h_7 => ?_) (fun h_7 => ?_)
      · skip
        exact absurd h_7 (nI_nm (show nv < 2 ^ 31 by omega))
      · skip
        refine am_steps_r ok_R_readStreamOf 3 (q' := (76, [some (.ref 16), some (.int (nI x)), some (.int (nI (skW n b k))), some (.int (nI nv)), none, none, none, none], [.ref 1007, .int (nI (skW n b k)), .ref 16], wd (vAdd (upd C.1 4 (nI (skW n b k)), C.2) nv u) Y og)) rfl ?_
        refine am_callV_r (As := []) (rest := [.int (nI (skW n b k)), .ref 16]) ok_R_readStreamOf rfl rfl ok_J_length oi_J_length lk_1_91 (Or.inr ⟨rfl, 7, _, rfl, rfl⟩) rfl rfl (Nat.le_of_ble_eq_true rfl) (c_J_length _ (vAdd (upd C.1 4 (nI (skW n b k)), C.2) nv u) Y og 7 _ _ _ st_7 rfl (by decide)) ?_
        rintro v_ w_ ⟨rfl, rfl⟩ -
        refine am_eq_r (q' := (79, [some (.ref 16), some (.int (nI x)), some (.int (nI (skW n b k))), some (.int (nI nv)), none, none, none, none], [.int (nI 6), .int (nI (skW n b k)), .ref 16], wd (vAdd (upd C.1 4 (nI (skW n b k)), C.2) nv u) Y og)) rfl ?_
        refine am_steps_r ok_R_readStreamOf 1 (q' := (80, [some (.ref 16), some (.int (nI x)), some (.int (nI (skW n b k))), some (.int (nI nv)), none, none, none, none], [.int ((nI (skW n b k)) + (nI 6)), .ref 16], wd (vAdd (upd C.1 4 (nI (skW n b k)), C.2) nv u) Y og)) rfl ?_
        rw [show ((nI (skW n b k)) + (nI 6) : Int32) = nI ((skW n b k) + 6) from nI_add (skW n b k) 6]
        have h76 := wdA7_in hT.2.2.2 (show wdA b st_7 (skW n b k) = true by assumption)
        have hsl := slP_le hT.2.2.2 h76
        refine am_callV_r (As := [.int (nI ((skW n b k) + 6))]) (rest := []) ok_R_readStreamOf rfl rfl ok_R_behindStreamLine oi_R_behindStreamLine lk_1_247 (Or.inl ⟨_, _, _, rfl, rfl, rfl⟩) rfl rfl (Nat.le_of_ble_eq_true rfl) (c_R_behindStreamLine _ (vAdd (upd C.1 4 (nI (skW n b k)), C.2) nv u) Y og n b hT (skW n b k + 6) h76) ?_
        rintro v_ w_ hq_ -
        change (if b (slP b (skW n b k)) = 10 then v_ = some (.int (nI ((slP b (skW n b k)) + 1))) ∧ w_ = wd (vAdd (upd C.1 4 (nI (skW n b k)), C.2) nv u) Y og else v_ = some (.int (-1)) ∧ w_ = wd (upd (upd (vAdd (upd C.1 4 (nI (skW n b k)), C.2) nv u).1 5 (if (slP b (skW n b k)) < n then 2 else 1)) 6 (nI (slP b (skW n b k))), (vAdd (upd C.1 4 (nI (skW n b k)), C.2) nv u).2) Y og) at hq_
        by_cases h10 : b (slP b (skW n b k)) = 10
        · rw [if_pos h10] at hq_
          obtain ⟨rfl, rfl⟩ := hq_
          have hsn : slP b (skW n b k) < n := by rcases Nat.lt_or_ge (slP b (skW n b k)) n with g | g; exact g; exact absurd ((hT.2.2.2 _ g).symm.trans h10) (by decide)
          refine am_eq_r (q' := (83, [some (.ref 16), some (.int (nI x)), some (.int (nI (skW n b k))), some (.int (nI nv)), none, none, none, none], [.int (nI ((slP b (skW n b k)) + 1))], wd (vAdd (upd C.1 4 (nI (skW n b k)), C.2) nv u) Y og)) rfl ?_
          refine am_steps_r ok_R_readStreamOf 4 (q' := (bif decide ((nI ((slP b (skW n b k)) + 1)) = (-1)) then 91 else 93, [some (.ref 16), some (.int (nI x)), some (.int (nI (skW n b k))), some (.int (nI nv)), some (.int (nI ((slP b (skW n b k)) + 1))), none, none, none], [], wd (vAdd (upd C.1 4 (nI (skW n b k)), C.2) nv u) Y og)) rfl ?_
          refine am_br_r (fun h_9 => ?_) (fun h_9 => ?_)
          · skip
            exact absurd h_9 (nI_nm (show ((slP b (skW n b k)) + 1) < 2 ^ 31 by omega))
          · skip
            refine am_steps_r ok_R_readStreamOf 2 (q' := (95, [some (.ref 16), some (.int (nI x)), some (.int (nI (skW n b k))), some (.int (nI nv)), some (.int (nI ((slP b (skW n b k)) + 1))), none, none, none], [.int (nI x), .ref 16], wd (vAdd (upd C.1 4 (nI (skW n b k)), C.2) nv u) Y og)) rfl ?_
            have hS1 := vsC_add (C := (upd C.1 4 (nI (skW n b k)), C.2)) hS h3
            have hk71 : (vtNew V nv).1 x = 7 := by have : x ≠ nv := by omega
                                                   rw [← hx7]; simp [vtNew, upd, this]
            refine am_callV_r (As := [.int (nI x)]) (rest := []) ok_R_readStreamOf rfl rfl ok_R_lengthTold oi_R_lengthTold lk_1_250 (Or.inl ⟨_, _, _, rfl, rfl, rfl⟩) rfl rfl (Nat.le_of_ble_eq_true rfl) (c_R_lengthTold _ (vAdd (upd C.1 4 (nI (skW n b k)), C.2) nv u) Y og (nv + 1) u (vtNew V nv) hS1 noo E hO (fun i hi => (hob i hi).imp_right (fun ⟨w, a, c⟩ => ⟨w, by omega, c⟩)) hfm x (by omega) hk71) ?_
            rintro v_ w_ ⟨rfl, rfl⟩ -
            rw [show tlN (vtNew V nv) E noo x = tlN V E noo x from tlN_new (vsC_ok hS) hx hnv hob 0 []]
            rcases nb_len (tlN_bd hI.2.2.2.2.2.2.2.2 (vsC_ok hS) hx hnv hob) with ⟨m, m1, m2, m3, m4⟩ | ⟨m1, m2, m3⟩
            · rw [m3]
              refine am_eq_r (q' := (98, [some (.ref 16), some (.int (nI x)), some (.int (nI (skW n b k))), some (.int (nI nv)), some (.int (nI ((slP b (skW n b k)) + 1))), none, none, none], [.int (nI m)], wd (vAdd (upd C.1 4 (nI (skW n b k)), C.2) nv u) Y og)) rfl ?_
              refine am_steps_r ok_R_readStreamOf 3 (q' := (bif decide (0 ≤ (nI m)) then 109 else 105, [some (.ref 16), some (.int (nI x)), some (.int (nI (skW n b k))), some (.int (nI nv)), some (.int (nI ((slP b (skW n b k)) + 1))), some (.int (nI m)), none, none], [], wd (vAdd (upd C.1 4 (nI (skW n b k)), C.2) nv u) Y og)) rfl ?_
              refine am_br_r (fun h_10 => ?_) (fun h_10 => ?_)
              · skip
                have h_10 : 0 ≤ m := (nI_leI (show 0 < 2 ^ 31 by omega) (show m < 2 ^ 31 by omega)).mp h_10
                refine am_steps_r ok_R_readStreamOf 4 (q' := (115, [some (.ref 16), some (.int (nI x)), some (.int (nI (skW n b k))), some (.int (nI nv)), some (.int (nI ((slP b (skW n b k)) + 1))), some (.int (nI m)), none, none], [.int ((nI ((slP b (skW n b k)) + 1)) + (nI m)), .ref 16], wd (vAdd (upd C.1 4 (nI (skW n b k)), C.2) nv u) Y og)) rfl ?_
                rw [show ((nI ((slP b (skW n b k)) + 1)) + (nI m) : Int32) = nI (((slP b (skW n b k)) + 1) + m) from nI_add ((slP b (skW n b k)) + 1) m]
                refine am_callV_r (As := [.int (nI (((slP b (skW n b k)) + 1) + m))]) (rest := []) ok_R_readStreamOf rfl rfl ok_R_behindEndstream oi_R_behindEndstream lk_1_253 (Or.inl ⟨_, _, _, rfl, rfl, rfl⟩) rfl rfl (Nat.le_of_ble_eq_true rfl) (c_R_behindEndstream _ (vAdd (upd C.1 4 (nI (skW n b k)), C.2) nv u) Y og n b hT hfm ((slP b (skW n b k)) + 1 + m) (by omega)) ?_
                rintro v_ w_ ⟨rfl, rfl⟩ -
                by_cases h9 : wdA b st_9 (leE b ((slP b (skW n b k)) + 1 + m)) = true
                · rw [if_pos h9]
                  have h9n := wdA_in hT.2.2.2 h9
                  have hle := leE_ge b ((slP b (skW n b k)) + 1 + m)
                  refine am_eq_r (q' := (118, [some (.ref 16), some (.int (nI x)), some (.int (nI (skW n b k))), some (.int (nI nv)), some (.int (nI ((slP b (skW n b k)) + 1))), some (.int (nI m)), none, none], [.int (nI ((leE b ((slP b (skW n b k)) + 1 + m)) + 9))], wd (vAdd (upd C.1 4 (nI (skW n b k)), C.2) nv u) Y og)) rfl ?_
                  refine am_steps_r ok_R_readStreamOf 4 (q' := (bif decide ((nI ((leE b ((slP b (skW n b k)) + 1 + m)) + 9)) = (-1)) then 126 else 188, [some (.ref 16), some (.int (nI x)), some (.int (nI (skW n b k))), some (.int (nI nv)), some (.int (nI ((slP b (skW n b k)) + 1))), some (.int (nI m)), some (.int (nI ((leE b ((slP b (skW n b k)) + 1 + m)) + 9))), none], [], wd (vAdd (upd C.1 4 (nI (skW n b k)), C.2) nv u) Y og)) rfl ?_
                  refine am_br_r (fun h_11 => ?_) (fun h_11 => ?_)
                  · skip
                    exact absurd h_11 (nI_nm (show ((leE b ((slP b (skW n b k)) + 1 + m)) + 9) < 2 ^ 31 by omega))
                  · skip
                    refine am_steps_r ok_R_readStreamOf 5 (q' := (196, [some (.ref 16), some (.int (nI x)), some (.int (nI (skW n b k))), some (.int (nI nv)), some (.int (nI ((slP b (skW n b k)) + 1))), some (.int (nI m)), some (.int (nI ((leE b ((slP b (skW n b k)) + 1 + m)) + 9))), none], [.long 0, .int 9, .int (nI nv), .ref 3], wd (vAdd (upd C.1 4 (nI (skW n b k)), C.2) nv u) Y og)) rfl ?_
                    refine am_callV_r (As := [.int (nI nv), .int 9, .long 0]) (rest := []) ok_R_readStreamOf rfl rfl ok_V_setKind oi_V_setKind lk_1_155 (Or.inl ⟨_, _, _, rfl, rfl, rfl⟩) rfl rfl (Nat.le_of_ble_eq_true rfl) (c_V_setKind _ (vAdd (upd C.1 4 (nI (skW n b k)), C.2) nv u) Y og (nv + 1) u hS1.1 nv (by omega) 9 0) ?_
                    rintro v_ w_ ⟨rfl, rfl⟩ -
                    refine am_eq_r (q' := (199, [some (.ref 16), some (.int (nI x)), some (.int (nI (skW n b k))), some (.int (nI nv)), some (.int (nI ((slP b (skW n b k)) + 1))), some (.int (nI m)), some (.int (nI ((leE b ((slP b (skW n b k)) + 1 + m)) + 9))), none], [], wd (vKind (vAdd (upd C.1 4 (nI (skW n b k)), C.2) nv u) nv 9 0) Y og)) rfl ?_
                    refine am_steps_r ok_R_readStreamOf 4 (q' := (205, [some (.ref 16), some (.int (nI x)), some (.int (nI (skW n b k))), some (.int (nI nv)), some (.int (nI ((slP b (skW n b k)) + 1))), some (.int (nI m)), some (.int (nI ((leE b ((slP b (skW n b k)) + 1 + m)) + 9))), none], [.int (nI x), .int (nI nv), .ref 3], wd (vKind (vAdd (upd C.1 4 (nI (skW n b k)), C.2) nv u) nv 9 0) Y og)) rfl ?_
                    refine am_callV_r (As := [.int (nI nv), .int (nI x)]) (rest := []) ok_R_readStreamOf rfl rfl ok_V_addPart oi_V_addPart lk_1_159 (Or.inl ⟨_, _, _, rfl, rfl, rfl⟩) rfl rfl (Nat.le_of_ble_eq_true rfl) (c_V_addPart_n _ (vKind (vAdd (upd C.1 4 (nI (skW n b k)), C.2) nv u) nv 9 0) Y og (nv + 1) u hS1.1 nv x (by omega) (by omega) (by simp [vKind, vAdd, wd_u, upd])) ?_
                    rintro v_ w_ ⟨rfl, rfl⟩ -
                    refine am_eq_r (q' := (208, [some (.ref 16), some (.int (nI x)), some (.int (nI (skW n b k))), some (.int (nI nv)), some (.int (nI ((slP b (skW n b k)) + 1))), some (.int (nI m)), some (.int (nI ((leE b ((slP b (skW n b k)) + 1 + m)) + 9))), none], [], wd (vPart (vKind (vAdd (upd C.1 4 (nI (skW n b k)), C.2) nv u) nv 9 0) nv x none) Y og)) rfl ?_
                    refine am_steps_r ok_R_readStreamOf 8 (q' := (221, [some (.ref 16), some (.int (nI x)), some (.int (nI (skW n b k))), some (.int (nI nv)), some (.int (nI ((slP b (skW n b k)) + 1))), some (.int (nI m)), some (.int (nI ((leE b ((slP b (skW n b k)) + 1 + m)) + 9))), none], [.int (nI (skW n b k)), .int (nI m), .int (nI ((slP b (skW n b k)) + 1)), .int (nI nv), .ref 16], wd (upd ((vPart (vKind (vAdd (upd C.1 4 (nI (skW n b k)), C.2) nv u) nv 9 0) nv x none).1) 4 (nI ((leE b ((slP b (skW n b k)) + 1 + m)) + 9)), (vPart (vKind (vAdd (upd C.1 4 (nI (skW n b k)), C.2) nv u) nv 9 0) nv x none).2) Y og)) rfl ?_
                    have hM0 : smC (upd ((vPart (vKind (vAdd (upd C.1 4 (nI (skW n b k)), C.2) nv u) nv 9 0) nv x none).1) 4 (nI ((leE b ((slP b (skW n b k)) + 1 + m)) + 9)), (vPart (vKind (vAdd (upd C.1 4 (nI (skW n b k)), C.2) nv u) nv 9 0) nv x none).2) (upd ((vPart (vKind (vAdd (upd C.1 4 (nI (skW n b k)), C.2) nv u) nv 9 0) nv x none).1) 4 (nI ((leE b ((slP b (skW n b k)) + 1 + m)) + 9)), (vPart (vKind (vAdd (upd C.1 4 (nI (skW n b k)), C.2) nv u) nv 9 0) nv x none).2) nv u V x [] := smC0 (C := C) hS h3 hx hfx _ rfl hS.1.2.2.1
                    refine am_callV_r (As := [.int (nI nv), .int (nI ((slP b (skW n b k)) + 1)), .int (nI m), .int (nI (skW n b k))]) (rest := []) ok_R_readStreamOf rfl rfl ok_R_copyStream oi_R_copyStream lk_1_264 (Or.inl ⟨_, _, _, rfl, rfl, rfl⟩) rfl rfl (Nat.le_of_ble_eq_true rfl) (c_R_copyStream _ (upd ((vPart (vKind (vAdd (upd C.1 4 (nI (skW n b k)), C.2) nv u) nv 9 0) nv x none).1) 4 (nI ((leE b ((slP b (skW n b k)) + 1 + m)) + 9)), (vPart (vKind (vAdd (upd C.1 4 (nI (skW n b k)), C.2) nv u) nv 9 0) nv x none).2) Y og n b hT nv u V x ((slP b (skW n b k)) + 1) m (skW n b k) (by omega) (by omega) hM0) ?_
                    rintro v_ w_ (⟨hl4, rfl, C9, rfl, hM⟩ | ⟨hl4, rfl, rfl⟩) -
                    · skip
                      refine am_eq_r (q' := (224, [some (.ref 16), some (.int (nI x)), some (.int (nI (skW n b k))), some (.int (nI nv)), some (.int (nI ((slP b (skW n b k)) + 1))), some (.int (nI m)), some (.int (nI ((leE b ((slP b (skW n b k)) + 1 + m)) + 9))), none], [.int 1], wd C9 Y og)) rfl ?_
                      refine am_steps_r ok_R_readStreamOf 3 (q' := (232, [some (.ref 16), some (.int (nI x)), some (.int (nI (skW n b k))), some (.int (nI nv)), some (.int (nI ((slP b (skW n b k)) + 1))), some (.int (nI m)), some (.int (nI ((leE b ((slP b (skW n b k)) + 1 + m)) + 9))), none], [.int (nI nv)], wd C9 Y og)) rfl ?_
                      refine am_iret_r ok_R_readStreamOf rfl rfl rfl ?_
                      rw [stmR, if_pos ⟨hx7, show wdA b st_7 (skW n b k) = true by assumption⟩, if_neg (by omega)]
                      have hst : stR n b (skW n b k) (tlO (tlN V E noo x)) = stE b (skW n b k) ((slP b (skW n b k)) + 1) (m) (leE b ((slP b (skW n b k)) + 1 + m) + 9) 0 := by
                        unfold stR
                        rw [if_pos h10, m4]
                        simp only [h9, if_true]
                      rw [hst, stE, if_neg (by omega)]
                      show soO C Y og n nv0 k nv u V (.inr (nv, _, nv + 1, u + (tpL b ((slP b (skW n b k)) + 1) (m)).length, vtS V nv x (tpL b ((slP b (skW n b k)) + 1) (m)), no ||| 0)) _ _
                      exact soO_stm hI h3 hx hx7 hM rfl hI.2.2.1 (by rw [Int32.or_zero]; exact hI.2.2.2.1) (fun j hj => by rcases hj with h | h | h | h | h | h | h | h <;> subst h <;> rfl) ⟨rfl, rfl, rfl⟩ (fun w hw => by have hne : w ≠ nv := (by omega); simp [vPart, vChain, vKind, vAdd, wd_u, upd, hne]) (by omega) (by omega) (by rw [tpL_len]; omega)
                    · skip
                      refine am_eq_r (q' := (224, [some (.ref 16), some (.int (nI x)), some (.int (nI (skW n b k))), some (.int (nI nv)), some (.int (nI ((slP b (skW n b k)) + 1))), some (.int (nI m)), some (.int (nI ((leE b ((slP b (skW n b k)) + 1 + m)) + 9))), none], [.int 0], wd (upd (upd (upd ((vPart (vKind (vAdd (upd C.1 4 (nI (skW n b k)), C.2) nv u) nv 9 0) nv x none).1) 4 (nI ((leE b ((slP b (skW n b k)) + 1 + m)) + 9))) 5 8) 6 (nI (skW n b k)), (vPart (vKind (vAdd (upd C.1 4 (nI (skW n b k)), C.2) nv u) nv 9 0) nv x none).2) Y og)) rfl ?_
                      refine am_steps_r ok_R_readStreamOf 2 (q' := (232, [some (.ref 16), some (.int (nI x)), some (.int (nI (skW n b k))), some (.int (nI nv)), some (.int (nI ((slP b (skW n b k)) + 1))), some (.int (nI m)), some (.int (nI ((leE b ((slP b (skW n b k)) + 1 + m)) + 9))), none], [.int (-1)], wd (upd (upd (upd ((vPart (vKind (vAdd (upd C.1 4 (nI (skW n b k)), C.2) nv u) nv 9 0) nv x none).1) 4 (nI ((leE b ((slP b (skW n b k)) + 1 + m)) + 9))) 5 8) 6 (nI (skW n b k)), (vPart (vKind (vAdd (upd C.1 4 (nI (skW n b k)), C.2) nv u) nv 9 0) nv x none).2) Y og)) rfl ?_
                      refine am_iret_r ok_R_readStreamOf rfl rfl rfl ?_
                      rw [stmR, if_pos ⟨hx7, show wdA b st_7 (skW n b k) = true by assumption⟩, if_neg (by omega)]
                      have hst : stR n b (skW n b k) (tlO (tlN V E noo x)) = stE b (skW n b k) ((slP b (skW n b k)) + 1) (m) (leE b ((slP b (skW n b k)) + 1 + m) + 9) 0 := by
                        unfold stR
                        rw [if_pos h10, m4]
                        simp only [h9, if_true]
                      rw [hst, stE, if_pos (by omega)]
                      show soO C Y og n nv0 k nv u V (.inl (8, _, no ||| 0)) _ _
                      exact soO_bad rfl (by decide) rfl (by omega) (by omega) (by rw [Int32.or_zero]; exact hI.2.2.2.1) (fun j hj => by rcases hj with h | h | h | h | h | h | h | h <;> subst h <;> rfl) ⟨rfl, rfl, rfl⟩ (fun w hw => by have hne : w ≠ nv := (by omega); simp [vPart, vChain, vKind, vAdd, wd_u, upd, hne]) hI.2.2.2.2.2.2.2.1 (show vsC _ (nv + 1) u (vtS V nv x []) from hM0.1) (by omega) (by omega) (vbe_S nv V x [])
                · rw [if_neg h9]
                  refine am_eq_r (q' := (118, [some (.ref 16), some (.int (nI x)), some (.int (nI (skW n b k))), some (.int (nI nv)), some (.int (nI ((slP b (skW n b k)) + 1))), some (.int (nI m)), none, none], [.int (-1)], wd (vAdd (upd C.1 4 (nI (skW n b k)), C.2) nv u) Y og)) rfl ?_
                  refine am_steps_r ok_R_readStreamOf 8 (q' := (135, [some (.ref 16), some (.int (nI x)), some (.int (nI (skW n b k))), some (.int (nI nv)), some (.int (nI ((slP b (skW n b k)) + 1))), some (.int (nI m)), some (.int (-1)), none], [.ref 1009, .int (nI ((slP b (skW n b k)) + 1)), .ref 1], wd (vAdd (upd C.1 4 (nI (skW n b k)), C.2) nv u) Y og)) rfl ?_
                  refine am_callV_r (As := [.int (nI ((slP b (skW n b k)) + 1)), .ref 1009]) (rest := []) ok_R_readStreamOf rfl rfl ok_T_firstText oi_T_firstText lk_1_258 (Or.inl ⟨_, _, _, rfl, rfl, rfl⟩) rfl rfl (Nat.le_of_ble_eq_true rfl) (c_T_firstText _ (vAdd (upd C.1 4 (nI (skW n b k)), C.2) nv u) Y og n b hT 9 _ _ _ st_9 rfl (by decide) hfm ((slP b (skW n b k)) + 1) (by omega)) ?_
                  rintro v_ w_ ⟨rfl, rfl⟩ -
                  rcases htx : txF b st_9 (n - ((slP b (skW n b k)) + 1)) ((slP b (skW n b k)) + 1) with _ | e
                  · skip
                    refine am_eq_r (q' := (138, [some (.ref 16), some (.int (nI x)), some (.int (nI (skW n b k))), some (.int (nI nv)), some (.int (nI ((slP b (skW n b k)) + 1))), some (.int (nI m)), some (.int (-1)), none], [.int (-1)], wd (vAdd (upd C.1 4 (nI (skW n b k)), C.2) nv u) Y og)) rfl ?_
                    refine am_steps_r ok_R_readStreamOf 7 (q' := (150, [some (.ref 16), some (.int (nI x)), some (.int (nI (skW n b k))), some (.int (nI nv)), some (.int (nI ((slP b (skW n b k)) + 1))), some (.int (nI m)), some (.int (-1)), some (.int (-1))], [.int (nI (skW n b k)), .int 8, .ref 16], wd (vAdd (upd C.1 4 (nI (skW n b k)), C.2) nv u) Y og)) rfl ?_
                    refine am_callV_r (As := [.int 8, .int (nI (skW n b k))]) (rest := []) ok_R_readStreamOf rfl rfl ok_R_fail oi_R_fail lk_1_122 (Or.inl ⟨_, _, _, rfl, rfl, rfl⟩) rfl rfl (Nat.le_of_ble_eq_true rfl) (c_R_fail _ (vAdd (upd C.1 4 (nI (skW n b k)), C.2) nv u) Y og 8 (nI (skW n b k))) ?_
                    rintro v_ w_ ⟨rfl, rfl⟩ -
                    refine am_eq_r (q' := (153, [some (.ref 16), some (.int (nI x)), some (.int (nI (skW n b k))), some (.int (nI nv)), some (.int (nI ((slP b (skW n b k)) + 1))), some (.int (nI m)), some (.int (-1)), some (.int (-1))], [.int (-1)], wd (upd (upd ((vAdd (upd C.1 4 (nI (skW n b k)), C.2) nv u).1) 5 8) 6 (nI (skW n b k)), (vAdd (upd C.1 4 (nI (skW n b k)), C.2) nv u).2) Y og)) rfl ?_
                    refine am_iret_r ok_R_readStreamOf rfl rfl rfl ?_
                    rw [stmR, if_pos ⟨hx7, show wdA b st_7 (skW n b k) = true by assumption⟩, if_neg (by omega)]
                    have hst : stR n b (skW n b k) (tlO (tlN V E noo x)) = .inl (8, skW n b k, 0) := by
                      unfold stR
                      rw [if_pos h10, m4]
                      simp only [h9, Bool.false_eq_true, if_false, htx]
                    rw [hst]
                    show soO C Y og n nv0 k nv u V (.inl (_, _, no ||| 0)) _ _
                    rw [Int32.or_zero]
                    exact soO_bad rfl (by decide) rfl (by omega) (by omega) (hI.2.2.2.1) (fun j hj => by rcases hj with h | h | h | h | h | h | h | h <;> subst h <;> rfl) ⟨rfl, rfl, rfl⟩ (fun w hw => by have hne : w ≠ nv := (by omega); simp [vAdd, upd, hne]) hI.2.2.2.2.2.2.2.1 hS1 (by omega) (by omega) (vbe_leaf nv V _ _ _)
                  · skip
                    obtain ⟨t1, t2, t3⟩ := txF_some htx
                    have t4 := txA_in hT.2.2.2 t3
                    have hbl := blE_bd b ((slP b (skW n b k)) + 1) e t1
                    refine am_eq_r (q' := (138, [some (.ref 16), some (.int (nI x)), some (.int (nI (skW n b k))), some (.int (nI nv)), some (.int (nI ((slP b (skW n b k)) + 1))), some (.int (nI m)), some (.int (-1)), none], [.int (nI e)], wd (vAdd (upd C.1 4 (nI (skW n b k)), C.2) nv u) Y og)) rfl ?_
                    refine am_steps_r ok_R_readStreamOf 4 (q' := (bif decide ((nI e) = (-1)) then 146 else 154, [some (.ref 16), some (.int (nI x)), some (.int (nI (skW n b k))), some (.int (nI nv)), some (.int (nI ((slP b (skW n b k)) + 1))), some (.int (nI m)), some (.int (-1)), some (.int (nI e))], [], wd (vAdd (upd C.1 4 (nI (skW n b k)), C.2) nv u) Y og)) rfl ?_
                    refine am_br_r (fun h_15 => ?_) (fun h_15 => ?_)
                    · skip
                      exact absurd h_15 (nI_nm (show e < 2 ^ 31 by omega))
                    · skip
                      refine am_steps_r ok_R_readStreamOf 9 (q' := (169, [some (.ref 16), some (.int (nI x)), some (.int (nI (skW n b k))), some (.int (nI nv)), some (.int (nI ((slP b (skW n b k)) + 1))), some (.int (nI m)), some (.int (-1)), some (.int (nI e))], [.int (nI e), .int (nI ((slP b (skW n b k)) + 1)), .ref 16], wd (upd ((vAdd (upd C.1 4 (nI (skW n b k)), C.2) nv u).1) 7 (((vAdd (upd C.1 4 (nI (skW n b k)), C.2) nv u).1 7) ||| 4), (vAdd (upd C.1 4 (nI (skW n b k)), C.2) nv u).2) Y og)) rfl ?_
                      refine am_callV_r (As := [.int (nI ((slP b (skW n b k)) + 1)), .int (nI e)]) (rest := []) ok_R_readStreamOf rfl rfl ok_R_beforeLineEnd oi_R_beforeLineEnd lk_1_261 (Or.inl ⟨_, _, _, rfl, rfl, rfl⟩) rfl rfl (Nat.le_of_ble_eq_true rfl) (c_R_beforeLineEnd _ (upd ((vAdd (upd C.1 4 (nI (skW n b k)), C.2) nv u).1) 7 (((vAdd (upd C.1 4 (nI (skW n b k)), C.2) nv u).1 7) ||| 4), (vAdd (upd C.1 4 (nI (skW n b k)), C.2) nv u).2) Y og n b hT ((slP b (skW n b k)) + 1) e t1 (by omega) (by omega)) ?_
                      rintro v_ w_ ⟨rfl, rfl⟩ -
                      refine am_eq_r (q' := (172, [some (.ref 16), some (.int (nI x)), some (.int (nI (skW n b k))), some (.int (nI nv)), some (.int (nI ((slP b (skW n b k)) + 1))), some (.int (nI m)), some (.int (-1)), some (.int (nI e))], [.int (nI (blE b ((slP b (skW n b k)) + 1) e))], wd (upd ((vAdd (upd C.1 4 (nI (skW n b k)), C.2) nv u).1) 7 (((vAdd (upd C.1 4 (nI (skW n b k)), C.2) nv u).1 7) ||| 4), (vAdd (upd C.1 4 (nI (skW n b k)), C.2) nv u).2) Y og)) rfl ?_
                      refine am_steps_r ok_R_readStreamOf 5 (q' := (182, [some (.ref 16), some (.int (nI x)), some (.int (nI (skW n b k))), some (.int (nI nv)), some (.int (nI ((slP b (skW n b k)) + 1))), some (.int ((nI (blE b ((slP b (skW n b k)) + 1) e)) - (nI ((slP b (skW n b k)) + 1)))), some (.int (-1)), some (.int (nI e))], [.ref 1009, .int (nI e)], wd (upd ((vAdd (upd C.1 4 (nI (skW n b k)), C.2) nv u).1) 7 (((vAdd (upd C.1 4 (nI (skW n b k)), C.2) nv u).1 7) ||| 4), (vAdd (upd C.1 4 (nI (skW n b k)), C.2) nv u).2) Y og)) rfl ?_
                      rw [show ((nI (blE b ((slP b (skW n b k)) + 1) e)) - (nI ((slP b (skW n b k)) + 1)) : Int32) = nI ((blE b ((slP b (skW n b k)) + 1) e) - ((slP b (skW n b k)) + 1)) from pk_sub (a := (blE b ((slP b (skW n b k)) + 1) e)) (b := (slP b (skW n b k)) + 1) (by omega)]
                      refine am_callV_r (As := []) (rest := [.int (nI e)]) ok_R_readStreamOf rfl rfl ok_J_length oi_J_length lk_1_91 (Or.inr ⟨rfl, 9, _, rfl, rfl⟩) rfl rfl (Nat.le_of_ble_eq_true rfl) (c_J_length _ (upd ((vAdd (upd C.1 4 (nI (skW n b k)), C.2) nv u).1) 7 (((vAdd (upd C.1 4 (nI (skW n b k)), C.2) nv u).1 7) ||| 4), (vAdd (upd C.1 4 (nI (skW n b k)), C.2) nv u).2) Y og 9 _ _ _ st_9 rfl (by decide)) ?_
                      rintro v_ w_ ⟨rfl, rfl⟩ -
                      refine am_eq_r (q' := (185, [some (.ref 16), some (.int (nI x)), some (.int (nI (skW n b k))), some (.int (nI nv)), some (.int (nI ((slP b (skW n b k)) + 1))), some (.int (nI ((blE b ((slP b (skW n b k)) + 1) e) - ((slP b (skW n b k)) + 1)))), some (.int (-1)), some (.int (nI e))], [.int (nI 9), .int (nI e)], wd (upd ((vAdd (upd C.1 4 (nI (skW n b k)), C.2) nv u).1) 7 (((vAdd (upd C.1 4 (nI (skW n b k)), C.2) nv u).1 7) ||| 4), (vAdd (upd C.1 4 (nI (skW n b k)), C.2) nv u).2) Y og)) rfl ?_
                      refine am_steps_r ok_R_readStreamOf 7 (q' := (196, [some (.ref 16), some (.int (nI x)), some (.int (nI (skW n b k))), some (.int (nI nv)), some (.int (nI ((slP b (skW n b k)) + 1))), some (.int (nI ((blE b ((slP b (skW n b k)) + 1) e) - ((slP b (skW n b k)) + 1)))), some (.int ((nI e) + (nI 9))), some (.int (nI e))], [.long 0, .int 9, .int (nI nv), .ref 3], wd (upd ((vAdd (upd C.1 4 (nI (skW n b k)), C.2) nv u).1) 7 (((vAdd (upd C.1 4 (nI (skW n b k)), C.2) nv u).1 7) ||| 4), (vAdd (upd C.1 4 (nI (skW n b k)), C.2) nv u).2) Y og)) rfl ?_
                      rw [show ((nI e) + (nI 9) : Int32) = nI (e + 9) from nI_add e 9]
                      refine am_callV_r (As := [.int (nI nv), .int 9, .long 0]) (rest := []) ok_R_readStreamOf rfl rfl ok_V_setKind oi_V_setKind lk_1_155 (Or.inl ⟨_, _, _, rfl, rfl, rfl⟩) rfl rfl (Nat.le_of_ble_eq_true rfl) (c_V_setKind _ (upd ((vAdd (upd C.1 4 (nI (skW n b k)), C.2) nv u).1) 7 (((vAdd (upd C.1 4 (nI (skW n b k)), C.2) nv u).1 7) ||| 4), (vAdd (upd C.1 4 (nI (skW n b k)), C.2) nv u).2) Y og (nv + 1) u hS1.1 nv (by omega) 9 0) ?_
                      rintro v_ w_ ⟨rfl, rfl⟩ -
                      refine am_eq_r (q' := (199, [some (.ref 16), some (.int (nI x)), some (.int (nI (skW n b k))), some (.int (nI nv)), some (.int (nI ((slP b (skW n b k)) + 1))), some (.int (nI ((blE b ((slP b (skW n b k)) + 1) e) - ((slP b (skW n b k)) + 1)))), some (.int (nI (e + 9))), some (.int (nI e))], [], wd (vKind (upd ((vAdd (upd C.1 4 (nI (skW n b k)), C.2) nv u).1) 7 (((vAdd (upd C.1 4 (nI (skW n b k)), C.2) nv u).1 7) ||| 4), (vAdd (upd C.1 4 (nI (skW n b k)), C.2) nv u).2) nv 9 0) Y og)) rfl ?_
                      refine am_steps_r ok_R_readStreamOf 4 (q' := (205, [some (.ref 16), some (.int (nI x)), some (.int (nI (skW n b k))), some (.int (nI nv)), some (.int (nI ((slP b (skW n b k)) + 1))), some (.int (nI ((blE b ((slP b (skW n b k)) + 1) e) - ((slP b (skW n b k)) + 1)))), some (.int (nI (e + 9))), some (.int (nI e))], [.int (nI x), .int (nI nv), .ref 3], wd (vKind (upd ((vAdd (upd C.1 4 (nI (skW n b k)), C.2) nv u).1) 7 (((vAdd (upd C.1 4 (nI (skW n b k)), C.2) nv u).1 7) ||| 4), (vAdd (upd C.1 4 (nI (skW n b k)), C.2) nv u).2) nv 9 0) Y og)) rfl ?_
                      refine am_callV_r (As := [.int (nI nv), .int (nI x)]) (rest := []) ok_R_readStreamOf rfl rfl ok_V_addPart oi_V_addPart lk_1_159 (Or.inl ⟨_, _, _, rfl, rfl, rfl⟩) rfl rfl (Nat.le_of_ble_eq_true rfl) (c_V_addPart_n _ (vKind (upd ((vAdd (upd C.1 4 (nI (skW n b k)), C.2) nv u).1) 7 (((vAdd (upd C.1 4 (nI (skW n b k)), C.2) nv u).1 7) ||| 4), (vAdd (upd C.1 4 (nI (skW n b k)), C.2) nv u).2) nv 9 0) Y og (nv + 1) u hS1.1 nv x (by omega) (by omega) (by simp [vKind, vAdd, wd_u, upd])) ?_
                      rintro v_ w_ ⟨rfl, rfl⟩ -
                      refine am_eq_r (q' := (208, [some (.ref 16), some (.int (nI x)), some (.int (nI (skW n b k))), some (.int (nI nv)), some (.int (nI ((slP b (skW n b k)) + 1))), some (.int (nI ((blE b ((slP b (skW n b k)) + 1) e) - ((slP b (skW n b k)) + 1)))), some (.int (nI (e + 9))), some (.int (nI e))], [], wd (vPart (vKind (upd ((vAdd (upd C.1 4 (nI (skW n b k)), C.2) nv u).1) 7 (((vAdd (upd C.1 4 (nI (skW n b k)), C.2) nv u).1 7) ||| 4), (vAdd (upd C.1 4 (nI (skW n b k)), C.2) nv u).2) nv 9 0) nv x none) Y og)) rfl ?_
                      refine am_steps_r ok_R_readStreamOf 8 (q' := (221, [some (.ref 16), some (.int (nI x)), some (.int (nI (skW n b k))), some (.int (nI nv)), some (.int (nI ((slP b (skW n b k)) + 1))), some (.int (nI ((blE b ((slP b (skW n b k)) + 1) e) - ((slP b (skW n b k)) + 1)))), some (.int (nI (e + 9))), some (.int (nI e))], [.int (nI (skW n b k)), .int (nI ((blE b ((slP b (skW n b k)) + 1) e) - ((slP b (skW n b k)) + 1))), .int (nI ((slP b (skW n b k)) + 1)), .int (nI nv), .ref 16], wd (upd ((vPart (vKind (upd ((vAdd (upd C.1 4 (nI (skW n b k)), C.2) nv u).1) 7 (((vAdd (upd C.1 4 (nI (skW n b k)), C.2) nv u).1 7) ||| 4), (vAdd (upd C.1 4 (nI (skW n b k)), C.2) nv u).2) nv 9 0) nv x none).1) 4 (nI (e + 9)), (vPart (vKind (upd ((vAdd (upd C.1 4 (nI (skW n b k)), C.2) nv u).1) 7 (((vAdd (upd C.1 4 (nI (skW n b k)), C.2) nv u).1 7) ||| 4), (vAdd (upd C.1 4 (nI (skW n b k)), C.2) nv u).2) nv 9 0) nv x none).2) Y og)) rfl ?_
                      have hM0 : smC (upd ((vPart (vKind (upd ((vAdd (upd C.1 4 (nI (skW n b k)), C.2) nv u).1) 7 (((vAdd (upd C.1 4 (nI (skW n b k)), C.2) nv u).1 7) ||| 4), (vAdd (upd C.1 4 (nI (skW n b k)), C.2) nv u).2) nv 9 0) nv x none).1) 4 (nI (e + 9)), (vPart (vKind (upd ((vAdd (upd C.1 4 (nI (skW n b k)), C.2) nv u).1) 7 (((vAdd (upd C.1 4 (nI (skW n b k)), C.2) nv u).1 7) ||| 4), (vAdd (upd C.1 4 (nI (skW n b k)), C.2) nv u).2) nv 9 0) nv x none).2) (upd ((vPart (vKind (upd ((vAdd (upd C.1 4 (nI (skW n b k)), C.2) nv u).1) 7 (((vAdd (upd C.1 4 (nI (skW n b k)), C.2) nv u).1 7) ||| 4), (vAdd (upd C.1 4 (nI (skW n b k)), C.2) nv u).2) nv 9 0) nv x none).1) 4 (nI (e + 9)), (vPart (vKind (upd ((vAdd (upd C.1 4 (nI (skW n b k)), C.2) nv u).1) 7 (((vAdd (upd C.1 4 (nI (skW n b k)), C.2) nv u).1 7) ||| 4), (vAdd (upd C.1 4 (nI (skW n b k)), C.2) nv u).2) nv 9 0) nv x none).2) nv u V x [] := smC0 (C := C) hS h3 hx hfx _ rfl hS.1.2.2.1
                      refine am_callV_r (As := [.int (nI nv), .int (nI ((slP b (skW n b k)) + 1)), .int (nI ((blE b ((slP b (skW n b k)) + 1) e) - ((slP b (skW n b k)) + 1))), .int (nI (skW n b k))]) (rest := []) ok_R_readStreamOf rfl rfl ok_R_copyStream oi_R_copyStream lk_1_264 (Or.inl ⟨_, _, _, rfl, rfl, rfl⟩) rfl rfl (Nat.le_of_ble_eq_true rfl) (c_R_copyStream _ (upd ((vPart (vKind (upd ((vAdd (upd C.1 4 (nI (skW n b k)), C.2) nv u).1) 7 (((vAdd (upd C.1 4 (nI (skW n b k)), C.2) nv u).1 7) ||| 4), (vAdd (upd C.1 4 (nI (skW n b k)), C.2) nv u).2) nv 9 0) nv x none).1) 4 (nI (e + 9)), (vPart (vKind (upd ((vAdd (upd C.1 4 (nI (skW n b k)), C.2) nv u).1) 7 (((vAdd (upd C.1 4 (nI (skW n b k)), C.2) nv u).1 7) ||| 4), (vAdd (upd C.1 4 (nI (skW n b k)), C.2) nv u).2) nv 9 0) nv x none).2) Y og n b hT nv u V x ((slP b (skW n b k)) + 1) ((blE b ((slP b (skW n b k)) + 1) e) - ((slP b (skW n b k)) + 1)) (skW n b k) (by omega) (by omega) hM0) ?_
                      rintro v_ w_ (⟨hl4, rfl, C9, rfl, hM⟩ | ⟨hl4, rfl, rfl⟩) -
                      · skip
                        refine am_eq_r (q' := (224, [some (.ref 16), some (.int (nI x)), some (.int (nI (skW n b k))), some (.int (nI nv)), some (.int (nI ((slP b (skW n b k)) + 1))), some (.int (nI ((blE b ((slP b (skW n b k)) + 1) e) - ((slP b (skW n b k)) + 1)))), some (.int (nI (e + 9))), some (.int (nI e))], [.int 1], wd C9 Y og)) rfl ?_
                        refine am_steps_r ok_R_readStreamOf 3 (q' := (232, [some (.ref 16), some (.int (nI x)), some (.int (nI (skW n b k))), some (.int (nI nv)), some (.int (nI ((slP b (skW n b k)) + 1))), some (.int (nI ((blE b ((slP b (skW n b k)) + 1) e) - ((slP b (skW n b k)) + 1)))), some (.int (nI (e + 9))), some (.int (nI e))], [.int (nI nv)], wd C9 Y og)) rfl ?_
                        refine am_iret_r ok_R_readStreamOf rfl rfl rfl ?_
                        rw [stmR, if_pos ⟨hx7, show wdA b st_7 (skW n b k) = true by assumption⟩, if_neg (by omega)]
                        have hst : stR n b (skW n b k) (tlO (tlN V E noo x)) = stE b (skW n b k) ((slP b (skW n b k)) + 1) (blE b ((slP b (skW n b k)) + 1) e - ((slP b (skW n b k)) + 1)) (e + 9) 4 := by
                          unfold stR
                          rw [if_pos h10, m4]
                          simp only [h9, Bool.false_eq_true, if_false, htx]
                        rw [hst, stE, if_neg (by omega)]
                        show soO C Y og n nv0 k nv u V (.inr (nv, _, nv + 1, u + (tpL b ((slP b (skW n b k)) + 1) (blE b ((slP b (skW n b k)) + 1) e - ((slP b (skW n b k)) + 1))).length, vtS V nv x (tpL b ((slP b (skW n b k)) + 1) (blE b ((slP b (skW n b k)) + 1) e - ((slP b (skW n b k)) + 1))), no ||| 4)) _ _
                        exact soO_stm hI h3 hx hx7 hM rfl hI.2.2.1 (by show C.1 7 ||| 4 = _; rw [hI.2.2.2.1]) (fun j hj => by rcases hj with h | h | h | h | h | h | h | h <;> subst h <;> rfl) ⟨rfl, rfl, rfl⟩ (fun w hw => by have hne : w ≠ nv := (by omega); simp [vPart, vChain, vKind, vAdd, wd_u, upd, hne]) (by omega) (by omega) (by rw [tpL_len]; omega)
                      · skip
                        refine am_eq_r (q' := (224, [some (.ref 16), some (.int (nI x)), some (.int (nI (skW n b k))), some (.int (nI nv)), some (.int (nI ((slP b (skW n b k)) + 1))), some (.int (nI ((blE b ((slP b (skW n b k)) + 1) e) - ((slP b (skW n b k)) + 1)))), some (.int (nI (e + 9))), some (.int (nI e))], [.int 0], wd (upd (upd (upd ((vPart (vKind (upd ((vAdd (upd C.1 4 (nI (skW n b k)), C.2) nv u).1) 7 (((vAdd (upd C.1 4 (nI (skW n b k)), C.2) nv u).1 7) ||| 4), (vAdd (upd C.1 4 (nI (skW n b k)), C.2) nv u).2) nv 9 0) nv x none).1) 4 (nI (e + 9))) 5 8) 6 (nI (skW n b k)), (vPart (vKind (upd ((vAdd (upd C.1 4 (nI (skW n b k)), C.2) nv u).1) 7 (((vAdd (upd C.1 4 (nI (skW n b k)), C.2) nv u).1 7) ||| 4), (vAdd (upd C.1 4 (nI (skW n b k)), C.2) nv u).2) nv 9 0) nv x none).2) Y og)) rfl ?_
                        refine am_steps_r ok_R_readStreamOf 2 (q' := (232, [some (.ref 16), some (.int (nI x)), some (.int (nI (skW n b k))), some (.int (nI nv)), some (.int (nI ((slP b (skW n b k)) + 1))), some (.int (nI ((blE b ((slP b (skW n b k)) + 1) e) - ((slP b (skW n b k)) + 1)))), some (.int (nI (e + 9))), some (.int (nI e))], [.int (-1)], wd (upd (upd (upd ((vPart (vKind (upd ((vAdd (upd C.1 4 (nI (skW n b k)), C.2) nv u).1) 7 (((vAdd (upd C.1 4 (nI (skW n b k)), C.2) nv u).1 7) ||| 4), (vAdd (upd C.1 4 (nI (skW n b k)), C.2) nv u).2) nv 9 0) nv x none).1) 4 (nI (e + 9))) 5 8) 6 (nI (skW n b k)), (vPart (vKind (upd ((vAdd (upd C.1 4 (nI (skW n b k)), C.2) nv u).1) 7 (((vAdd (upd C.1 4 (nI (skW n b k)), C.2) nv u).1 7) ||| 4), (vAdd (upd C.1 4 (nI (skW n b k)), C.2) nv u).2) nv 9 0) nv x none).2) Y og)) rfl ?_
                        refine am_iret_r ok_R_readStreamOf rfl rfl rfl ?_
                        rw [stmR, if_pos ⟨hx7, show wdA b st_7 (skW n b k) = true by assumption⟩, if_neg (by omega)]
                        have hst : stR n b (skW n b k) (tlO (tlN V E noo x)) = stE b (skW n b k) ((slP b (skW n b k)) + 1) (blE b ((slP b (skW n b k)) + 1) e - ((slP b (skW n b k)) + 1)) (e + 9) 4 := by
                          unfold stR
                          rw [if_pos h10, m4]
                          simp only [h9, Bool.false_eq_true, if_false, htx]
                        rw [hst, stE, if_pos (by omega)]
                        show soO C Y og n nv0 k nv u V (.inl (8, _, no ||| 4)) _ _
                        exact soO_bad rfl (by decide) rfl (by omega) (by omega) (by show C.1 7 ||| 4 = _; rw [hI.2.2.2.1]) (fun j hj => by rcases hj with h | h | h | h | h | h | h | h <;> subst h <;> rfl) ⟨rfl, rfl, rfl⟩ (fun w hw => by have hne : w ≠ nv := (by omega); simp [vPart, vChain, vKind, vAdd, wd_u, upd, hne]) hI.2.2.2.2.2.2.2.1 (show vsC _ (nv + 1) u (vtS V nv x []) from hM0.1) (by omega) (by omega) (vbe_S nv V x [])
              · skip
                have h_10 : ¬ 0 ≤ m := fun z => h_10 ((nI_leI (show 0 < 2 ^ 31 by omega) (show m < 2 ^ 31 by omega)).mpr z)
                exfalso; omega
            · skip
              refine am_eq_r (q' := (98, [some (.ref 16), some (.int (nI x)), some (.int (nI (skW n b k))), some (.int (nI nv)), some (.int (nI ((slP b (skW n b k)) + 1))), none, none, none], [.int ((tlN V E noo x).toInt32)], wd (vAdd (upd C.1 4 (nI (skW n b k)), C.2) nv u) Y og)) rfl ?_
              refine am_steps_r ok_R_readStreamOf 3 (q' := (bif decide (0 ≤ (tlN V E noo x).toInt32) then 109 else 105, [some (.ref 16), some (.int (nI x)), some (.int (nI (skW n b k))), some (.int (nI nv)), some (.int (nI ((slP b (skW n b k)) + 1))), some (.int ((tlN V E noo x).toInt32)), none, none], [], wd (vAdd (upd C.1 4 (nI (skW n b k)), C.2) nv u) Y og)) rfl ?_
              refine am_br_r (fun h_20 => ?_) (fun h_20 => ?_)
              · skip
                exact absurd m2 (Int32.not_lt.mpr h_20)
              · skip
                refine am_steps_r ok_R_readStreamOf 10 (q' := (135, [some (.ref 16), some (.int (nI x)), some (.int (nI (skW n b k))), some (.int (nI nv)), some (.int (nI ((slP b (skW n b k)) + 1))), some (.int ((tlN V E noo x).toInt32)), some (.int (-1)), none], [.ref 1009, .int (nI ((slP b (skW n b k)) + 1)), .ref 1], wd (vAdd (upd C.1 4 (nI (skW n b k)), C.2) nv u) Y og)) rfl ?_
                refine am_callV_r (As := [.int (nI ((slP b (skW n b k)) + 1)), .ref 1009]) (rest := []) ok_R_readStreamOf rfl rfl ok_T_firstText oi_T_firstText lk_1_258 (Or.inl ⟨_, _, _, rfl, rfl, rfl⟩) rfl rfl (Nat.le_of_ble_eq_true rfl) (c_T_firstText _ (vAdd (upd C.1 4 (nI (skW n b k)), C.2) nv u) Y og n b hT 9 _ _ _ st_9 rfl (by decide) hfm ((slP b (skW n b k)) + 1) (by omega)) ?_
                rintro v_ w_ ⟨rfl, rfl⟩ -
                rcases htx : txF b st_9 (n - ((slP b (skW n b k)) + 1)) ((slP b (skW n b k)) + 1) with _ | e
                · skip
                  refine am_eq_r (q' := (138, [some (.ref 16), some (.int (nI x)), some (.int (nI (skW n b k))), some (.int (nI nv)), some (.int (nI ((slP b (skW n b k)) + 1))), some (.int ((tlN V E noo x).toInt32)), some (.int (-1)), none], [.int (-1)], wd (vAdd (upd C.1 4 (nI (skW n b k)), C.2) nv u) Y og)) rfl ?_
                  refine am_steps_r ok_R_readStreamOf 7 (q' := (150, [some (.ref 16), some (.int (nI x)), some (.int (nI (skW n b k))), some (.int (nI nv)), some (.int (nI ((slP b (skW n b k)) + 1))), some (.int ((tlN V E noo x).toInt32)), some (.int (-1)), some (.int (-1))], [.int (nI (skW n b k)), .int 8, .ref 16], wd (vAdd (upd C.1 4 (nI (skW n b k)), C.2) nv u) Y og)) rfl ?_
                  refine am_callV_r (As := [.int 8, .int (nI (skW n b k))]) (rest := []) ok_R_readStreamOf rfl rfl ok_R_fail oi_R_fail lk_1_122 (Or.inl ⟨_, _, _, rfl, rfl, rfl⟩) rfl rfl (Nat.le_of_ble_eq_true rfl) (c_R_fail _ (vAdd (upd C.1 4 (nI (skW n b k)), C.2) nv u) Y og 8 (nI (skW n b k))) ?_
                  rintro v_ w_ ⟨rfl, rfl⟩ -
                  refine am_eq_r (q' := (153, [some (.ref 16), some (.int (nI x)), some (.int (nI (skW n b k))), some (.int (nI nv)), some (.int (nI ((slP b (skW n b k)) + 1))), some (.int ((tlN V E noo x).toInt32)), some (.int (-1)), some (.int (-1))], [.int (-1)], wd (upd (upd ((vAdd (upd C.1 4 (nI (skW n b k)), C.2) nv u).1) 5 8) 6 (nI (skW n b k)), (vAdd (upd C.1 4 (nI (skW n b k)), C.2) nv u).2) Y og)) rfl ?_
                  refine am_iret_r ok_R_readStreamOf rfl rfl rfl ?_
                  rw [stmR, if_pos ⟨hx7, show wdA b st_7 (skW n b k) = true by assumption⟩, if_neg (by omega)]
                  have hst : stR n b (skW n b k) (tlO (tlN V E noo x)) = .inl (8, skW n b k, 0) := by
                    unfold stR
                    rw [if_pos h10, m3]
                    simp only [htx]
                  rw [hst]
                  show soO C Y og n nv0 k nv u V (.inl (_, _, no ||| 0)) _ _
                  rw [Int32.or_zero]
                  exact soO_bad rfl (by decide) rfl (by omega) (by omega) (hI.2.2.2.1) (fun j hj => by rcases hj with h | h | h | h | h | h | h | h <;> subst h <;> rfl) ⟨rfl, rfl, rfl⟩ (fun w hw => by have hne : w ≠ nv := (by omega); simp [vAdd, upd, hne]) hI.2.2.2.2.2.2.2.1 hS1 (by omega) (by omega) (vbe_leaf nv V _ _ _)
                · skip
                  obtain ⟨t1, t2, t3⟩ := txF_some htx
                  have t4 := txA_in hT.2.2.2 t3
                  have hbl := blE_bd b ((slP b (skW n b k)) + 1) e t1
                  refine am_eq_r (q' := (138, [some (.ref 16), some (.int (nI x)), some (.int (nI (skW n b k))), some (.int (nI nv)), some (.int (nI ((slP b (skW n b k)) + 1))), some (.int ((tlN V E noo x).toInt32)), some (.int (-1)), none], [.int (nI e)], wd (vAdd (upd C.1 4 (nI (skW n b k)), C.2) nv u) Y og)) rfl ?_
                  refine am_steps_r ok_R_readStreamOf 4 (q' := (bif decide ((nI e) = (-1)) then 146 else 154, [some (.ref 16), some (.int (nI x)), some (.int (nI (skW n b k))), some (.int (nI nv)), some (.int (nI ((slP b (skW n b k)) + 1))), some (.int ((tlN V E noo x).toInt32)), some (.int (-1)), some (.int (nI e))], [], wd (vAdd (upd C.1 4 (nI (skW n b k)), C.2) nv u) Y og)) rfl ?_
                  refine am_br_r (fun h_22 => ?_) (fun h_22 => ?_)
                  · skip
                    exact absurd h_22 (nI_nm (show e < 2 ^ 31 by omega))
                  · skip
                    refine am_steps_r ok_R_readStreamOf 9 (q' := (169, [some (.ref 16), some (.int (nI x)), some (.int (nI (skW n b k))), some (.int (nI nv)), some (.int (nI ((slP b (skW n b k)) + 1))), some (.int ((tlN V E noo x).toInt32)), some (.int (-1)), some (.int (nI e))], [.int (nI e), .int (nI ((slP b (skW n b k)) + 1)), .ref 16], wd (upd ((vAdd (upd C.1 4 (nI (skW n b k)), C.2) nv u).1) 7 (((vAdd (upd C.1 4 (nI (skW n b k)), C.2) nv u).1 7) ||| 4), (vAdd (upd C.1 4 (nI (skW n b k)), C.2) nv u).2) Y og)) rfl ?_
                    refine am_callV_r (As := [.int (nI ((slP b (skW n b k)) + 1)), .int (nI e)]) (rest := []) ok_R_readStreamOf rfl rfl ok_R_beforeLineEnd oi_R_beforeLineEnd lk_1_261 (Or.inl ⟨_, _, _, rfl, rfl, rfl⟩) rfl rfl (Nat.le_of_ble_eq_true rfl) (c_R_beforeLineEnd _ (upd ((vAdd (upd C.1 4 (nI (skW n b k)), C.2) nv u).1) 7 (((vAdd (upd C.1 4 (nI (skW n b k)), C.2) nv u).1 7) ||| 4), (vAdd (upd C.1 4 (nI (skW n b k)), C.2) nv u).2) Y og n b hT ((slP b (skW n b k)) + 1) e t1 (by omega) (by omega)) ?_
                    rintro v_ w_ ⟨rfl, rfl⟩ -
                    refine am_eq_r (q' := (172, [some (.ref 16), some (.int (nI x)), some (.int (nI (skW n b k))), some (.int (nI nv)), some (.int (nI ((slP b (skW n b k)) + 1))), some (.int ((tlN V E noo x).toInt32)), some (.int (-1)), some (.int (nI e))], [.int (nI (blE b ((slP b (skW n b k)) + 1) e))], wd (upd ((vAdd (upd C.1 4 (nI (skW n b k)), C.2) nv u).1) 7 (((vAdd (upd C.1 4 (nI (skW n b k)), C.2) nv u).1 7) ||| 4), (vAdd (upd C.1 4 (nI (skW n b k)), C.2) nv u).2) Y og)) rfl ?_
                    refine am_steps_r ok_R_readStreamOf 5 (q' := (182, [some (.ref 16), some (.int (nI x)), some (.int (nI (skW n b k))), some (.int (nI nv)), some (.int (nI ((slP b (skW n b k)) + 1))), some (.int ((nI (blE b ((slP b (skW n b k)) + 1) e)) - (nI ((slP b (skW n b k)) + 1)))), some (.int (-1)), some (.int (nI e))], [.ref 1009, .int (nI e)], wd (upd ((vAdd (upd C.1 4 (nI (skW n b k)), C.2) nv u).1) 7 (((vAdd (upd C.1 4 (nI (skW n b k)), C.2) nv u).1 7) ||| 4), (vAdd (upd C.1 4 (nI (skW n b k)), C.2) nv u).2) Y og)) rfl ?_
                    rw [show ((nI (blE b ((slP b (skW n b k)) + 1) e)) - (nI ((slP b (skW n b k)) + 1)) : Int32) = nI ((blE b ((slP b (skW n b k)) + 1) e) - ((slP b (skW n b k)) + 1)) from pk_sub (a := (blE b ((slP b (skW n b k)) + 1) e)) (b := (slP b (skW n b k)) + 1) (by omega)]
                    refine am_callV_r (As := []) (rest := [.int (nI e)]) ok_R_readStreamOf rfl rfl ok_J_length oi_J_length lk_1_91 (Or.inr ⟨rfl, 9, _, rfl, rfl⟩) rfl rfl (Nat.le_of_ble_eq_true rfl) (c_J_length _ (upd ((vAdd (upd C.1 4 (nI (skW n b k)), C.2) nv u).1) 7 (((vAdd (upd C.1 4 (nI (skW n b k)), C.2) nv u).1 7) ||| 4), (vAdd (upd C.1 4 (nI (skW n b k)), C.2) nv u).2) Y og 9 _ _ _ st_9 rfl (by decide)) ?_
                    rintro v_ w_ ⟨rfl, rfl⟩ -
                    refine am_eq_r (q' := (185, [some (.ref 16), some (.int (nI x)), some (.int (nI (skW n b k))), some (.int (nI nv)), some (.int (nI ((slP b (skW n b k)) + 1))), some (.int (nI ((blE b ((slP b (skW n b k)) + 1) e) - ((slP b (skW n b k)) + 1)))), some (.int (-1)), some (.int (nI e))], [.int (nI 9), .int (nI e)], wd (upd ((vAdd (upd C.1 4 (nI (skW n b k)), C.2) nv u).1) 7 (((vAdd (upd C.1 4 (nI (skW n b k)), C.2) nv u).1 7) ||| 4), (vAdd (upd C.1 4 (nI (skW n b k)), C.2) nv u).2) Y og)) rfl ?_
                    refine am_steps_r ok_R_readStreamOf 7 (q' := (196, [some (.ref 16), some (.int (nI x)), some (.int (nI (skW n b k))), some (.int (nI nv)), some (.int (nI ((slP b (skW n b k)) + 1))), some (.int (nI ((blE b ((slP b (skW n b k)) + 1) e) - ((slP b (skW n b k)) + 1)))), some (.int ((nI e) + (nI 9))), some (.int (nI e))], [.long 0, .int 9, .int (nI nv), .ref 3], wd (upd ((vAdd (upd C.1 4 (nI (skW n b k)), C.2) nv u).1) 7 (((vAdd (upd C.1 4 (nI (skW n b k)), C.2) nv u).1 7) ||| 4), (vAdd (upd C.1 4 (nI (skW n b k)), C.2) nv u).2) Y og)) rfl ?_
                    rw [show ((nI e) + (nI 9) : Int32) = nI (e + 9) from nI_add e 9]
                    refine am_callV_r (As := [.int (nI nv), .int 9, .long 0]) (rest := []) ok_R_readStreamOf rfl rfl ok_V_setKind oi_V_setKind lk_1_155 (Or.inl ⟨_, _, _, rfl, rfl, rfl⟩) rfl rfl (Nat.le_of_ble_eq_true rfl) (c_V_setKind _ (upd ((vAdd (upd C.1 4 (nI (skW n b k)), C.2) nv u).1) 7 (((vAdd (upd C.1 4 (nI (skW n b k)), C.2) nv u).1 7) ||| 4), (vAdd (upd C.1 4 (nI (skW n b k)), C.2) nv u).2) Y og (nv + 1) u hS1.1 nv (by omega) 9 0) ?_
                    rintro v_ w_ ⟨rfl, rfl⟩ -
                    refine am_eq_r (q' := (199, [some (.ref 16), some (.int (nI x)), some (.int (nI (skW n b k))), some (.int (nI nv)), some (.int (nI ((slP b (skW n b k)) + 1))), some (.int (nI ((blE b ((slP b (skW n b k)) + 1) e) - ((slP b (skW n b k)) + 1)))), some (.int (nI (e + 9))), some (.int (nI e))], [], wd (vKind (upd ((vAdd (upd C.1 4 (nI (skW n b k)), C.2) nv u).1) 7 (((vAdd (upd C.1 4 (nI (skW n b k)), C.2) nv u).1 7) ||| 4), (vAdd (upd C.1 4 (nI (skW n b k)), C.2) nv u).2) nv 9 0) Y og)) rfl ?_
                    refine am_steps_r ok_R_readStreamOf 4 (q' := (205, [some (.ref 16), some (.int (nI x)), some (.int (nI (skW n b k))), some (.int (nI nv)), some (.int (nI ((slP b (skW n b k)) + 1))), some (.int (nI ((blE b ((slP b (skW n b k)) + 1) e) - ((slP b (skW n b k)) + 1)))), some (.int (nI (e + 9))), some (.int (nI e))], [.int (nI x), .int (nI nv), .ref 3], wd (vKind (upd ((vAdd (upd C.1 4 (nI (skW n b k)), C.2) nv u).1) 7 (((vAdd (upd C.1 4 (nI (skW n b k)), C.2) nv u).1 7) ||| 4), (vAdd (upd C.1 4 (nI (skW n b k)), C.2) nv u).2) nv 9 0) Y og)) rfl ?_
                    refine am_callV_r (As := [.int (nI nv), .int (nI x)]) (rest := []) ok_R_readStreamOf rfl rfl ok_V_addPart oi_V_addPart lk_1_159 (Or.inl ⟨_, _, _, rfl, rfl, rfl⟩) rfl rfl (Nat.le_of_ble_eq_true rfl) (c_V_addPart_n _ (vKind (upd ((vAdd (upd C.1 4 (nI (skW n b k)), C.2) nv u).1) 7 (((vAdd (upd C.1 4 (nI (skW n b k)), C.2) nv u).1 7) ||| 4), (vAdd (upd C.1 4 (nI (skW n b k)), C.2) nv u).2) nv 9 0) Y og (nv + 1) u hS1.1 nv x (by omega) (by omega) (by simp [vKind, vAdd, wd_u, upd])) ?_
                    rintro v_ w_ ⟨rfl, rfl⟩ -
                    refine am_eq_r (q' := (208, [some (.ref 16), some (.int (nI x)), some (.int (nI (skW n b k))), some (.int (nI nv)), some (.int (nI ((slP b (skW n b k)) + 1))), some (.int (nI ((blE b ((slP b (skW n b k)) + 1) e) - ((slP b (skW n b k)) + 1)))), some (.int (nI (e + 9))), some (.int (nI e))], [], wd (vPart (vKind (upd ((vAdd (upd C.1 4 (nI (skW n b k)), C.2) nv u).1) 7 (((vAdd (upd C.1 4 (nI (skW n b k)), C.2) nv u).1 7) ||| 4), (vAdd (upd C.1 4 (nI (skW n b k)), C.2) nv u).2) nv 9 0) nv x none) Y og)) rfl ?_
                    refine am_steps_r ok_R_readStreamOf 8 (q' := (221, [some (.ref 16), some (.int (nI x)), some (.int (nI (skW n b k))), some (.int (nI nv)), some (.int (nI ((slP b (skW n b k)) + 1))), some (.int (nI ((blE b ((slP b (skW n b k)) + 1) e) - ((slP b (skW n b k)) + 1)))), some (.int (nI (e + 9))), some (.int (nI e))], [.int (nI (skW n b k)), .int (nI ((blE b ((slP b (skW n b k)) + 1) e) - ((slP b (skW n b k)) + 1))), .int (nI ((slP b (skW n b k)) + 1)), .int (nI nv), .ref 16], wd (upd ((vPart (vKind (upd ((vAdd (upd C.1 4 (nI (skW n b k)), C.2) nv u).1) 7 (((vAdd (upd C.1 4 (nI (skW n b k)), C.2) nv u).1 7) ||| 4), (vAdd (upd C.1 4 (nI (skW n b k)), C.2) nv u).2) nv 9 0) nv x none).1) 4 (nI (e + 9)), (vPart (vKind (upd ((vAdd (upd C.1 4 (nI (skW n b k)), C.2) nv u).1) 7 (((vAdd (upd C.1 4 (nI (skW n b k)), C.2) nv u).1 7) ||| 4), (vAdd (upd C.1 4 (nI (skW n b k)), C.2) nv u).2) nv 9 0) nv x none).2) Y og)) rfl ?_
                    have hM0 : smC (upd ((vPart (vKind (upd ((vAdd (upd C.1 4 (nI (skW n b k)), C.2) nv u).1) 7 (((vAdd (upd C.1 4 (nI (skW n b k)), C.2) nv u).1 7) ||| 4), (vAdd (upd C.1 4 (nI (skW n b k)), C.2) nv u).2) nv 9 0) nv x none).1) 4 (nI (e + 9)), (vPart (vKind (upd ((vAdd (upd C.1 4 (nI (skW n b k)), C.2) nv u).1) 7 (((vAdd (upd C.1 4 (nI (skW n b k)), C.2) nv u).1 7) ||| 4), (vAdd (upd C.1 4 (nI (skW n b k)), C.2) nv u).2) nv 9 0) nv x none).2) (upd ((vPart (vKind (upd ((vAdd (upd C.1 4 (nI (skW n b k)), C.2) nv u).1) 7 (((vAdd (upd C.1 4 (nI (skW n b k)), C.2) nv u).1 7) ||| 4), (vAdd (upd C.1 4 (nI (skW n b k)), C.2) nv u).2) nv 9 0) nv x none).1) 4 (nI (e + 9)), (vPart (vKind (upd ((vAdd (upd C.1 4 (nI (skW n b k)), C.2) nv u).1) 7 (((vAdd (upd C.1 4 (nI (skW n b k)), C.2) nv u).1 7) ||| 4), (vAdd (upd C.1 4 (nI (skW n b k)), C.2) nv u).2) nv 9 0) nv x none).2) nv u V x [] := smC0 (C := C) hS h3 hx hfx _ rfl hS.1.2.2.1
                    refine am_callV_r (As := [.int (nI nv), .int (nI ((slP b (skW n b k)) + 1)), .int (nI ((blE b ((slP b (skW n b k)) + 1) e) - ((slP b (skW n b k)) + 1))), .int (nI (skW n b k))]) (rest := []) ok_R_readStreamOf rfl rfl ok_R_copyStream oi_R_copyStream lk_1_264 (Or.inl ⟨_, _, _, rfl, rfl, rfl⟩) rfl rfl (Nat.le_of_ble_eq_true rfl) (c_R_copyStream _ (upd ((vPart (vKind (upd ((vAdd (upd C.1 4 (nI (skW n b k)), C.2) nv u).1) 7 (((vAdd (upd C.1 4 (nI (skW n b k)), C.2) nv u).1 7) ||| 4), (vAdd (upd C.1 4 (nI (skW n b k)), C.2) nv u).2) nv 9 0) nv x none).1) 4 (nI (e + 9)), (vPart (vKind (upd ((vAdd (upd C.1 4 (nI (skW n b k)), C.2) nv u).1) 7 (((vAdd (upd C.1 4 (nI (skW n b k)), C.2) nv u).1 7) ||| 4), (vAdd (upd C.1 4 (nI (skW n b k)), C.2) nv u).2) nv 9 0) nv x none).2) Y og n b hT nv u V x ((slP b (skW n b k)) + 1) ((blE b ((slP b (skW n b k)) + 1) e) - ((slP b (skW n b k)) + 1)) (skW n b k) (by omega) (by omega) hM0) ?_
                    rintro v_ w_ (⟨hl4, rfl, C9, rfl, hM⟩ | ⟨hl4, rfl, rfl⟩) -
                    · skip
                      refine am_eq_r (q' := (224, [some (.ref 16), some (.int (nI x)), some (.int (nI (skW n b k))), some (.int (nI nv)), some (.int (nI ((slP b (skW n b k)) + 1))), some (.int (nI ((blE b ((slP b (skW n b k)) + 1) e) - ((slP b (skW n b k)) + 1)))), some (.int (nI (e + 9))), some (.int (nI e))], [.int 1], wd C9 Y og)) rfl ?_
                      refine am_steps_r ok_R_readStreamOf 3 (q' := (232, [some (.ref 16), some (.int (nI x)), some (.int (nI (skW n b k))), some (.int (nI nv)), some (.int (nI ((slP b (skW n b k)) + 1))), some (.int (nI ((blE b ((slP b (skW n b k)) + 1) e) - ((slP b (skW n b k)) + 1)))), some (.int (nI (e + 9))), some (.int (nI e))], [.int (nI nv)], wd C9 Y og)) rfl ?_
                      refine am_iret_r ok_R_readStreamOf rfl rfl rfl ?_
                      rw [stmR, if_pos ⟨hx7, show wdA b st_7 (skW n b k) = true by assumption⟩, if_neg (by omega)]
                      have hst : stR n b (skW n b k) (tlO (tlN V E noo x)) = stE b (skW n b k) ((slP b (skW n b k)) + 1) (blE b ((slP b (skW n b k)) + 1) e - ((slP b (skW n b k)) + 1)) (e + 9) 4 := by
                        unfold stR
                        rw [if_pos h10, m3]
                        simp only [htx]
                      rw [hst, stE, if_neg (by omega)]
                      show soO C Y og n nv0 k nv u V (.inr (nv, _, nv + 1, u + (tpL b ((slP b (skW n b k)) + 1) (blE b ((slP b (skW n b k)) + 1) e - ((slP b (skW n b k)) + 1))).length, vtS V nv x (tpL b ((slP b (skW n b k)) + 1) (blE b ((slP b (skW n b k)) + 1) e - ((slP b (skW n b k)) + 1))), no ||| 4)) _ _
                      exact soO_stm hI h3 hx hx7 hM rfl hI.2.2.1 (by show C.1 7 ||| 4 = _; rw [hI.2.2.2.1]) (fun j hj => by rcases hj with h | h | h | h | h | h | h | h <;> subst h <;> rfl) ⟨rfl, rfl, rfl⟩ (fun w hw => by have hne : w ≠ nv := (by omega); simp [vPart, vChain, vKind, vAdd, wd_u, upd, hne]) (by omega) (by omega) (by rw [tpL_len]; omega)
                    · skip
                      refine am_eq_r (q' := (224, [some (.ref 16), some (.int (nI x)), some (.int (nI (skW n b k))), some (.int (nI nv)), some (.int (nI ((slP b (skW n b k)) + 1))), some (.int (nI ((blE b ((slP b (skW n b k)) + 1) e) - ((slP b (skW n b k)) + 1)))), some (.int (nI (e + 9))), some (.int (nI e))], [.int 0], wd (upd (upd (upd ((vPart (vKind (upd ((vAdd (upd C.1 4 (nI (skW n b k)), C.2) nv u).1) 7 (((vAdd (upd C.1 4 (nI (skW n b k)), C.2) nv u).1 7) ||| 4), (vAdd (upd C.1 4 (nI (skW n b k)), C.2) nv u).2) nv 9 0) nv x none).1) 4 (nI (e + 9))) 5 8) 6 (nI (skW n b k)), (vPart (vKind (upd ((vAdd (upd C.1 4 (nI (skW n b k)), C.2) nv u).1) 7 (((vAdd (upd C.1 4 (nI (skW n b k)), C.2) nv u).1 7) ||| 4), (vAdd (upd C.1 4 (nI (skW n b k)), C.2) nv u).2) nv 9 0) nv x none).2) Y og)) rfl ?_
                      refine am_steps_r ok_R_readStreamOf 2 (q' := (232, [some (.ref 16), some (.int (nI x)), some (.int (nI (skW n b k))), some (.int (nI nv)), some (.int (nI ((slP b (skW n b k)) + 1))), some (.int (nI ((blE b ((slP b (skW n b k)) + 1) e) - ((slP b (skW n b k)) + 1)))), some (.int (nI (e + 9))), some (.int (nI e))], [.int (-1)], wd (upd (upd (upd ((vPart (vKind (upd ((vAdd (upd C.1 4 (nI (skW n b k)), C.2) nv u).1) 7 (((vAdd (upd C.1 4 (nI (skW n b k)), C.2) nv u).1 7) ||| 4), (vAdd (upd C.1 4 (nI (skW n b k)), C.2) nv u).2) nv 9 0) nv x none).1) 4 (nI (e + 9))) 5 8) 6 (nI (skW n b k)), (vPart (vKind (upd ((vAdd (upd C.1 4 (nI (skW n b k)), C.2) nv u).1) 7 (((vAdd (upd C.1 4 (nI (skW n b k)), C.2) nv u).1 7) ||| 4), (vAdd (upd C.1 4 (nI (skW n b k)), C.2) nv u).2) nv 9 0) nv x none).2) Y og)) rfl ?_
                      refine am_iret_r ok_R_readStreamOf rfl rfl rfl ?_
                      rw [stmR, if_pos ⟨hx7, show wdA b st_7 (skW n b k) = true by assumption⟩, if_neg (by omega)]
                      have hst : stR n b (skW n b k) (tlO (tlN V E noo x)) = stE b (skW n b k) ((slP b (skW n b k)) + 1) (blE b ((slP b (skW n b k)) + 1) e - ((slP b (skW n b k)) + 1)) (e + 9) 4 := by
                        unfold stR
                        rw [if_pos h10, m3]
                        simp only [htx]
                      rw [hst, stE, if_pos (by omega)]
                      show soO C Y og n nv0 k nv u V (.inl (8, _, no ||| 4)) _ _
                      exact soO_bad rfl (by decide) rfl (by omega) (by omega) (by show C.1 7 ||| 4 = _; rw [hI.2.2.2.1]) (fun j hj => by rcases hj with h | h | h | h | h | h | h | h <;> subst h <;> rfl) ⟨rfl, rfl, rfl⟩ (fun w hw => by have hne : w ≠ nv := (by omega); simp [vPart, vChain, vKind, vAdd, wd_u, upd, hne]) hI.2.2.2.2.2.2.2.1 (show vsC _ (nv + 1) u (vtS V nv x []) from hM0.1) (by omega) (by omega) (vbe_S nv V x [])
        · rw [if_neg h10] at hq_
          obtain ⟨rfl, rfl⟩ := hq_
          refine am_eq_r (q' := (83, [some (.ref 16), some (.int (nI x)), some (.int (nI (skW n b k))), some (.int (nI nv)), none, none, none, none], [.int (-1)], wd (upd (upd ((vAdd (upd C.1 4 (nI (skW n b k)), C.2) nv u).1) 5 (if (slP b (skW n b k)) < n then 2 else 1)) 6 (nI (slP b (skW n b k))), (vAdd (upd C.1 4 (nI (skW n b k)), C.2) nv u).2) Y og)) rfl ?_
          refine am_steps_r ok_R_readStreamOf 5 (q' := (92, [some (.ref 16), some (.int (nI x)), some (.int (nI (skW n b k))), some (.int (nI nv)), some (.int (-1)), none, none, none], [.int (-1)], wd (upd (upd ((vAdd (upd C.1 4 (nI (skW n b k)), C.2) nv u).1) 5 (if (slP b (skW n b k)) < n then 2 else 1)) 6 (nI (slP b (skW n b k))), (vAdd (upd C.1 4 (nI (skW n b k)), C.2) nv u).2) Y og)) rfl ?_
          refine am_iret_r ok_R_readStreamOf rfl rfl rfl ?_
          rw [stmR, if_pos ⟨hx7, show wdA b st_7 (skW n b k) = true by assumption⟩, if_neg (by omega)]
          have hst : stR n b (skW n b k) (tlO (tlN V E noo x)) = .inl (if slP b (skW n b k) < n then 2 else 1, slP b (skW n b k), 0) := if_neg h10
          rw [hst]
          show soO C Y og n nv0 k nv u V (.inl (_, _, no ||| 0)) _ _
          rw [Int32.or_zero]
          exact soO_bad rfl (by split <;> decide) rfl (by omega) (by omega) (hI.2.2.2.1) (fun j hj => by rcases hj with h | h | h | h | h | h | h | h <;> subst h <;> rfl) ⟨rfl, rfl, rfl⟩ (fun w hw => by have hne : w ≠ nv := (by omega); simp [vAdd, upd, hne]) hI.2.2.2.2.2.2.2.1 (vsC_add (C := (upd C.1 4 (nI (skW n b k)), C.2)) hS h3) (by omega) (by omega) (vbe_leaf nv V _ _ _)
    · skip
      refine am_steps_r ok_R_readStreamOf 1 (q' := (45, [some (.ref 16), some (.int (nI x)), none, none, none, none, none, none], [.int (nI x)], wd (upd C.1 4 (nI (skW n b k)), C.2) Y og)) rfl ?_
      refine am_iret_r ok_R_readStreamOf rfl rfl rfl ?_
      rw [stmR, if_neg (fun z => by first | exact absurd z.1 (by assumption) | exact absurd z.2 (by rw [show wdA b st_7 (skW n b k) = false by assumption]; decide))]
      exact ⟨rfl, _, rfl, rfl, hI.2.2.1, hI.2.2.2.1, fC_rf _ _, hS, hsk.1, hsk.2, Nat.le_refl _, Nat.le_refl _, by omega, hx, vbe_rf _ _, ht, hI.2.2.2.2.2.2.2.2⟩
  · skip
    refine am_steps_r ok_R_readStreamOf 1 (q' := (45, [some (.ref 16), some (.int (nI x)), none, none, none, none, none, none], [.int (nI x)], wd (upd C.1 4 (nI (skW n b k)), C.2) Y og)) rfl ?_
    refine am_iret_r ok_R_readStreamOf rfl rfl rfl ?_
    rw [stmR, if_neg (fun z => by first | exact absurd z.1 (by assumption) | exact absurd z.2 (by rw [show wdA b st_7 (skW n b k) = false by assumption]; decide))]
    exact ⟨rfl, _, rfl, rfl, hI.2.2.1, hI.2.2.2.1, fC_rf _ _, hS, hsk.1, hsk.2, Nat.le_refl _, Nat.le_refl _, by omega, hx, vbe_rf _ _, ht, hI.2.2.2.2.2.2.2.2⟩
set_option maxHeartbeats 2000000 in
set_option maxRecDepth 100000 in
theorem c_R_readStreamOf_f (d : Nat) (C : wd_C) (Y : wd_Y) (og : Nat → Int64) (n : Nat) (b : Nat → Int32) (nv0 : Nat) (ht : Nat → Nat) (k nv u : Nat) (V : VT) (no : Int32) (hI : rdI C n b nv0 ht k nv u V no) (x : Nat) (hx : x < nv) (hfx : vfr C nv V x) (noo : Nat) (E : Nat → Nat → Int32) (hO : obC C noo E) (hob : obV nv noo E) (hfm : fm = .null ∨ fm = .ref 3000) (hk1 : 1 ≤ k) (h3 : nv = 300) : am_Mt l D cA ad fm (d + 7) m_R_readStreamOf [.ref 16, .int (nI x)] (wd C Y og) (soO C Y og n nv0 k nv u V (stmR n b k nv u V no x (tlO (tlN V E noo x)))) := by
  have hT := hI.1
  have hn := hT.2.1
  have hkn := hI.2.2.2.2.2.1
  have huk := hI.2.2.2.2.2.2.1
  have hS := hI.2.2.2.2.1
  have hnv := hS.1.2.1
  have hsk := skW_le n b hkn
  refine am_mt ok_R_readStreamOf (by simp [am_arg, Value.category, m_R_readStreamOf, am_ml]) ?_
  refine am_eq_r (q' := (0, [some (.ref 16), some (.int (nI x)), none, none, none, none, none, none], [], wd C Y og)) rfl ?_
  refine am_steps_r ok_R_readStreamOf 5 (q' := (9, [some (.ref 16), some (.int (nI x)), none, none, none, none, none, none], [.int (C.1 4), .ref 1, .ref 16], wd C Y og)) rfl ?_
  rw [show (C.1 4 : Int32) = nI k from hI.2.1]
  have w_1 := skW_le n b (k := k) (by omega)
  refine am_callV_r (As := [.int (nI k)]) (rest := [.ref 16]) ok_R_readStreamOf rfl rfl ok_T_behindWhite oi_T_behindWhite lk_1_56 (Or.inl ⟨_, _, _, rfl, rfl, rfl⟩) rfl rfl (Nat.le_of_ble_eq_true rfl) (c_T_behindWhite _ C Y og n b hT k (by omega)) ?_
  rintro v_ w_ ⟨rfl, rfl⟩ -
  refine am_eq_r (q' := (12, [some (.ref 16), some (.int (nI x)), none, none, none, none, none, none], [.int (nI (skW n b k)), .ref 16], wd C Y og)) rfl ?_
  refine am_steps_r ok_R_readStreamOf 4 (q' := (20, [some (.ref 16), some (.int (nI x)), none, none, none, none, none, none], [.int (nI x), .ref 3], wd (upd C.1 4 (nI (skW n b k)), C.2) Y og)) rfl ?_
  refine am_callV_r (As := [.int (nI x)]) (rest := []) ok_R_readStreamOf rfl rfl ok_V_kindOf oi_V_kindOf lk_1_177 (Or.inl ⟨_, _, _, rfl, rfl, rfl⟩) rfl rfl (Nat.le_of_ble_eq_true rfl) (c_V_kindOf_in _ (upd C.1 4 (nI (skW n b k)), C.2) Y og nv u hS.1 x hx) ?_
  rintro v_ w_ ⟨rfl, rfl⟩ -
  rw [(hS.2.1 x hx).1]
  refine am_eq_r (q' := (23, [some (.ref 16), some (.int (nI x)), none, none, none, none, none, none], [.int (V.1 x)], wd (upd C.1 4 (nI (skW n b k)), C.2) Y og)) rfl ?_
  refine am_steps_r ok_R_readStreamOf 2 (q' := (bif decide ((V.1 x) = 7) then 28 else 44, [some (.ref 16), some (.int (nI x)), none, none, none, none, none, none], [], wd (upd C.1 4 (nI (skW n b k)), C.2) Y og)) rfl ?_
  refine am_br_r (fun h_3 => ?_) (fun h_3 => ?_)
  · skip
    have hx7 : V.1 x = 7 := h_3
    refine am_steps_r ok_R_readStreamOf 5 (q' := (38, [some (.ref 16), some (.int (nI x)), none, none, none, none, none, none], [.ref 1007, .int (nI (skW n b k)), .ref 1], wd (upd C.1 4 (nI (skW n b k)), C.2) Y og)) rfl ?_
    refine am_callV_r (As := [.int (nI (skW n b k)), .ref 1007]) (rest := []) ok_R_readStreamOf rfl rfl ok_T_wordStands oi_T_wordStands lk_1_83 (Or.inl ⟨_, _, _, rfl, rfl, rfl⟩) rfl rfl (Nat.le_of_ble_eq_true rfl) (c_T_wordStands _ (upd C.1 4 (nI (skW n b k)), C.2) Y og n b hT 7 _ _ _ st_7 rfl (by decide) hfm (skW n b k) (by omega)) ?_
    rintro v_ w_ ⟨rfl, rfl⟩ -
    refine am_eq_r (q' := (41, [some (.ref 16), some (.int (nI x)), none, none, none, none, none, none], [.int (bz (wdA b st_7 (skW n b k)))], wd (upd C.1 4 (nI (skW n b k)), C.2) Y og)) rfl ?_
    refine am_steps_r ok_R_readStreamOf 1 (q' := (bif decide ((bz (wdA b st_7 (skW n b k))) = 0) then 44 else 46, [some (.ref 16), some (.int (nI x)), none, none, none, none, none, none], [], wd (upd C.1 4 (nI (skW n b k)), C.2) Y og)) rfl ?_
    refine am_bz_r (fun h_5 => ?_) (fun h_5 => ?_)
    · skip
      refine am_steps_r ok_R_readStreamOf 5 (q' := (55, [some (.ref 16), some (.int (nI x)), some (.int (nI (skW n b k))), none, none, none, none, none], [.ref 3], wd (upd C.1 4 (nI (skW n b k)), C.2) Y og)) rfl ?_
      refine am_callV_r (As := []) (rest := []) ok_R_readStreamOf rfl rfl ok_V_add oi_V_add lk_1_134 (Or.inl ⟨_, _, _, rfl, rfl, rfl⟩) rfl rfl (Nat.le_of_ble_eq_true rfl) (c_V_add_full _ (upd C.1 4 (nI (skW n b k)), C.2) Y og nv u hS.1 h3) ?_
      rintro v_ w_ ⟨rfl, rfl⟩ -
      refine am_eq_r (q' := (58, [some (.ref 16), some (.int (nI x)), some (.int (nI (skW n b k))), none, none, none, none, none], [.int (-1)], wd (upd C.1 4 (nI (skW n b k)), C.2) Y og)) rfl ?_
      refine am_steps_r ok_R_readStreamOf 7 (q' := (68, [some (.ref 16), some (.int (nI x)), some (.int (nI (skW n b k))), some (.int (-1)), none, none, none, none], [.int (nI (skW n b k)), .int 6, .ref 16], wd (upd C.1 4 (nI (skW n b k)), C.2) Y og)) rfl ?_
      refine am_callV_r (As := [.int 6, .int (nI (skW n b k))]) (rest := []) ok_R_readStreamOf rfl rfl ok_R_fail oi_R_fail lk_1_122 (Or.inl ⟨_, _, _, rfl, rfl, rfl⟩) rfl rfl (Nat.le_of_ble_eq_true rfl) (c_R_fail _ (upd C.1 4 (nI (skW n b k)), C.2) Y og 6 (nI (skW n b k))) ?_
      rintro v_ w_ ⟨rfl, rfl⟩ -
      refine am_eq_r (q' := (71, [some (.ref 16), some (.int (nI x)), some (.int (nI (skW n b k))), some (.int (-1)), none, none, none, none], [.int (-1)], wd (upd (upd (upd C.1 4 (nI (skW n b k))) 5 6) 6 (nI (skW n b k)), C.2) Y og)) rfl ?_
      refine am_iret_r ok_R_readStreamOf rfl rfl rfl ?_
      rw [stmR, if_pos ⟨hx7, show wdA b st_7 (skW n b k) = true by assumption⟩, if_pos h3]
      exact soO_bad rfl (by decide) rfl (by omega) (by omega) hI.2.2.2.1 (fun j hj => by rcases hj with h | h | h | h | h | h | h | h <;> subst h <;> rfl) ⟨rfl, rfl, rfl⟩ (fun w hw => rfl) hI.2.2.2.2.2.2.2.1 hS (Nat.le_refl _) (Nat.le_refl _) (vbe_rf _ _)
    · skip
      refine am_steps_r ok_R_readStreamOf 1 (q' := (45, [some (.ref 16), some (.int (nI x)), none, none, none, none, none, none], [.int (nI x)], wd (upd C.1 4 (nI (skW n b k)), C.2) Y og)) rfl ?_
      refine am_iret_r ok_R_readStreamOf rfl rfl rfl ?_
      rw [stmR, if_neg (fun z => by first | exact absurd z.1 (by assumption) | exact absurd z.2 (by rw [show wdA b st_7 (skW n b k) = false by assumption]; decide))]
      exact ⟨rfl, _, rfl, rfl, hI.2.2.1, hI.2.2.2.1, fC_rf _ _, hS, hsk.1, hsk.2, Nat.le_refl _, Nat.le_refl _, by omega, hx, vbe_rf _ _, ht, hI.2.2.2.2.2.2.2.2⟩
  · skip
    refine am_steps_r ok_R_readStreamOf 1 (q' := (45, [some (.ref 16), some (.int (nI x)), none, none, none, none, none, none], [.int (nI x)], wd (upd C.1 4 (nI (skW n b k)), C.2) Y og)) rfl ?_
    refine am_iret_r ok_R_readStreamOf rfl rfl rfl ?_
    rw [stmR, if_neg (fun z => by first | exact absurd z.1 (by assumption) | exact absurd z.2 (by rw [show wdA b st_7 (skW n b k) = false by assumption]; decide))]
    exact ⟨rfl, _, rfl, rfl, hI.2.2.1, hI.2.2.2.1, fC_rf _ _, hS, hsk.1, hsk.2, Nat.le_refl _, Nat.le_refl _, by omega, hx, vbe_rf _ _, ht, hI.2.2.2.2.2.2.2.2⟩
end C74
