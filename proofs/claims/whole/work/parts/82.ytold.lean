/-! the reference: what Length tells; printed by wip/gen/g82.py -/
section C82
variable {l : Launch} {D : va_G} {cA : Nat → ClassId} {ad : Nat → Nat} {fm : Value}
set_option maxHeartbeats 2000000 in
set_option maxRecDepth 100000 in
theorem c_M_toldLength (d : Nat) (C : wd_C) (Y : wd_Y) (og : Nat → Int64) (nv u : Nat) (V : VT) (hY : vsY Y nv u V) (hok : vok nv V) (hnb : ∀ w, w < nv → nbOK (V.1 w) (V.2.1 w)) (no : Nat) (E : Nat → Nat → Int32) (hO : obY Y no E) (hob : obI nv no E) (dc : Nat) (hdc : dc < nv) (m : Nat) (hm : (V.2.2.1 dc).length = 2 * m)  : am_Mt l D cA ad fm (d + 3) m_M_toldLength [.ref 19, .int (nI dc)] (wd C Y og) (fun vr w' => vr = some (.long (tlN V E no dc)) ∧ w' = wd C Y og) := by
  have hv1 := hY.1.2.1
  refine am_mt ok_M_toldLength (by simp [am_arg, Value.category, m_M_toldLength, am_ml]) ?_
  refine am_eq_r (q' := (0, [some (.ref 19), some (.int (nI dc)), none, none, none], [], wd C Y og)) rfl ?_
  refine am_steps_r ok_M_toldLength 2 (q' := (2, [some (.ref 19), some (.int (nI dc)), none, none, none], [.int (nI dc), .ref 19], wd C Y og)) rfl ?_
  refine am_callV_r (As := [.int (nI dc)]) (rest := []) ok_M_toldLength rfl rfl ok_M_lengthOf oi_M_lengthOf lk_6_239 (Or.inl ⟨_, _, _, rfl, rfl, rfl⟩) rfl rfl (Nat.le_of_ble_eq_true rfl) (c_M_lengthOf _ C Y og nv u V hY hok dc hdc m hm) ?_
  rintro v_ w_ ⟨rfl, rfl⟩ -
  rcases hpf : prF (isLn V) (V.2.2.1 dc) with _ | ⟨t, w⟩
  · skip
    refine am_eq_r (q' := (5, [some (.ref 19), some (.int (nI dc)), none, none, none], [.int (-1)], wd C Y og)) rfl ?_
    refine am_steps_r ok_M_toldLength 5 (q' := (14, [some (.ref 19), some (.int (nI dc)), some (.int (-1)), none, none], [.long (-1)], wd C Y og)) rfl ?_
    refine am_lret_r ok_M_toldLength rfl rfl rfl ?_
    refine ⟨?_, rfl⟩
    first | rw [tlN_0 hpf] | rw [tlN_2 hpf (by assumption)] | rw [tlN_n hpf (by assumption) (by assumption)] | rw [tlN_8n hpf (by assumption) hfn2] | rw [tlN_82 hpf (by assumption) hfn2 w22 (by omega) (by assumption)] | rw [tlN_8x hpf (by assumption) hfn2 w22 (by omega) (by assumption)]
  · skip
    have hwn := (hok.1 dc hdc).1 w (prF_mem hpf).2
    obtain ⟨rw1, rw2, -⟩ := hY.2 w hwn
    refine am_eq_r (q' := (5, [some (.ref 19), some (.int (nI dc)), none, none, none], [.int (nI w)], wd C Y og)) rfl ?_
    refine am_steps_r ok_M_toldLength 4 (q' := (bif decide ((nI w) = (-1)) then 11 else 15, [some (.ref 19), some (.int (nI dc)), some (.int (nI w)), none, none], [], wd C Y og)) rfl ?_
    refine am_br_r (fun h_1 => ?_) (fun h_1 => ?_)
    · skip
      exact absurd h_1 (nI_nm (show w < 2 ^ 31 by omega))
    · skip
      refine am_steps_r ok_M_toldLength 3 (q' := (20, [some (.ref 19), some (.int (nI dc)), some (.int (nI w)), none, none], [.int (nI w), .ref 22], wd C Y og)) rfl ?_
      refine am_iald_r ok_M_toldLength rfl (w := wd C Y og) (f := Y.2.1 2) rfl rfl (pk_in w 300 (by omega)) ?_
      rw [nI_clamp (show w < 2 ^ 31 by omega)]
      rw [rw1]
      refine am_steps_r ok_M_toldLength 2 (q' := (bif decide ((V.1 w) = 2) then 25 else 32, [some (.ref 19), some (.int (nI dc)), some (.int (nI w)), none, none], [], wd C Y og)) rfl ?_
      refine am_br_r (fun h_2 => ?_) (fun h_2 => ?_)
      · skip
        refine am_steps_r ok_M_toldLength 3 (q' := (30, [some (.ref 19), some (.int (nI dc)), some (.int (nI w)), none, none], [.int (nI w), .ref 23], wd C Y og)) rfl ?_
        refine am_lald_r ok_M_toldLength rfl (w := wd C Y og) (f := Y.2.2.1) rfl rfl (pk_in w 300 (by omega)) ?_
        rw [nI_clamp (show w < 2 ^ 31 by omega)]
        rw [rw2]
        refine am_lret_r ok_M_toldLength rfl rfl rfl ?_
        refine ⟨?_, rfl⟩
        first | rw [tlN_0 hpf] | rw [tlN_2 hpf (by assumption)] | rw [tlN_n hpf (by assumption) (by assumption)] | rw [tlN_8n hpf (by assumption) hfn2] | rw [tlN_82 hpf (by assumption) hfn2 w22 (by omega) (by assumption)] | rw [tlN_8x hpf (by assumption) hfn2 w22 (by omega) (by assumption)]
      · skip
        refine am_steps_r ok_M_toldLength 3 (q' := (37, [some (.ref 19), some (.int (nI dc)), some (.int (nI w)), none, none], [.int (nI w), .ref 22], wd C Y og)) rfl ?_
        refine am_iald_r ok_M_toldLength rfl (w := wd C Y og) (f := Y.2.1 2) rfl rfl (pk_in w 300 (by omega)) ?_
        rw [nI_clamp (show w < 2 ^ 31 by omega)]
        rw [rw1]
        refine am_steps_r ok_M_toldLength 2 (q' := (bif decide ((V.1 w) = 8) then 47 else 43, [some (.ref 19), some (.int (nI dc)), some (.int (nI w)), none, none], [], wd C Y og)) rfl ?_
        refine am_br_r (fun h_3 => ?_) (fun h_3 => ?_)
        · skip
          refine am_steps_r ok_M_toldLength 4 (q' := (53, [some (.ref 19), some (.int (nI dc)), some (.int (nI w)), none, none], [.int (nI w), .ref 23, .ref 19], wd C Y og)) rfl ?_
          refine am_lald_r ok_M_toldLength rfl (w := wd C Y og) (f := Y.2.2.1) rfl rfl (pk_in w 300 (by omega)) ?_
          rw [nI_clamp (show w < 2 ^ 31 by omega)]
          rw [rw2]
          refine am_steps_r ok_M_toldLength 5 (q' := (63, [some (.ref 19), some (.int (nI dc)), some (.int (nI w)), none, none], [.int (nI w), .ref 23, .long ((V.2.1 w) - (V.2.1 w) / 1000000000 * 1000000000), .ref 19], wd C Y og)) rfl ?_
          refine am_lald_r ok_M_toldLength rfl (w := wd C Y og) (f := Y.2.2.1) rfl rfl (pk_in w 300 (by omega)) ?_
          rw [nI_clamp (show w < 2 ^ 31 by omega)]
          rw [rw2]
          refine am_steps_r ok_M_toldLength 2 (q' := (68, [some (.ref 19), some (.int (nI dc)), some (.int (nI w)), none, none], [.long ((V.2.1 w) / 1000000000), .long ((V.2.1 w) - (V.2.1 w) / 1000000000 * 1000000000), .ref 19], wd C Y og)) rfl ?_
          obtain ⟨a0, g0, ha0, hg0, hx0⟩ := (hnb w hwn).2.2.1 (by assumption)
          have eR : (V.2.1 w - V.2.1 w / 1000000000 * 1000000000) = (nI a0).toInt64 := by rw [hx0, (rf_parts ha0 hg0).2, nI_l (by omega)]
          have eD : (V.2.1 w / 1000000000) = (nI g0).toInt64 := by rw [hx0, (rf_parts ha0 hg0).1, nI_l (by omega)]
          have eR2 : (V.2.1 w - V.2.1 w / 1000000000 * 1000000000).toInt32 = nI a0 := by rw [eR]; simp
          have eD2 : (V.2.1 w / 1000000000).toInt32 = nI g0 := by rw [eD]; simp
          refine am_eq_r (q' := (68, [some (.ref 19), some (.int (nI dc)), some (.int (nI w)), none, none], [.long ((nI g0).toInt64), .long ((nI a0).toInt64), .ref 19], wd C Y og)) (by rw [eR, eD]) ?_
          refine am_callV_r (As := [.long ((nI a0).toInt64), .long ((nI g0).toInt64)]) (rest := []) ok_M_toldLength rfl rfl ok_M_findObject oi_M_findObject lk_6_244 (Or.inl ⟨_, _, _, rfl, rfl, rfl⟩) rfl rfl (Nat.le_of_ble_eq_true rfl) (c_M_findObject _ C Y og no E hO nv hob hv1 (nI a0) (nI g0)) ?_
          rintro v_ w_ ⟨rfl, rfl⟩ -
          rcases hfn : fnO E (nI a0) (nI g0) no with _ | i
          · skip
            have hfn2 : fnO E (V.2.1 w - V.2.1 w / 1000000000 * 1000000000).toInt32 (V.2.1 w / 1000000000).toInt32 no = none := by rw [eR2, eD2]; exact hfn
            refine am_eq_r (q' := (71, [some (.ref 19), some (.int (nI dc)), some (.int (nI w)), none, none], [.int (-1)], wd C Y og)) rfl ?_
            refine am_steps_r ok_M_toldLength 11 (q' := (124, [some (.ref 19), some (.int (nI dc)), some (.int (nI w)), some (.int (-1)), some (.int (-1))], [.long (-1)], wd C Y og)) rfl ?_
            refine am_lret_r ok_M_toldLength rfl rfl rfl ?_
            refine ⟨?_, rfl⟩
            first | rw [tlN_0 hpf] | rw [tlN_2 hpf (by assumption)] | rw [tlN_n hpf (by assumption) (by assumption)] | rw [tlN_8n hpf (by assumption) hfn2] | rw [tlN_82 hpf (by assumption) hfn2 w22 (by omega) (by assumption)] | rw [tlN_8x hpf (by assumption) hfn2 w22 (by omega) (by assumption)]
          · skip
            have hfn2 : fnO E (V.2.1 w - V.2.1 w / 1000000000 * 1000000000).toInt32 (V.2.1 w / 1000000000).toInt32 no = some i := by rw [eR2, eD2]; exact hfn
            obtain ⟨i1, i2⟩ := fnO_some hfn
            have hi20 := hO.2.1
            obtain ⟨w2, w21, w22⟩ := (obI_V hob i i1).resolve_left i2
            have er := (hO.2.2 i i1 2 (by omega)).trans w22
            obtain ⟨rv1, rv2, -⟩ := hY.2 w2 w21
            refine am_eq_r (q' := (71, [some (.ref 19), some (.int (nI dc)), some (.int (nI w)), none, none], [.int (nI i)], wd C Y og)) rfl ?_
            refine am_steps_r ok_M_toldLength 4 (q' := (bif decide ((nI i) = (-1)) then 77 else 81, [some (.ref 19), some (.int (nI dc)), some (.int (nI w)), some (.int (nI i)), none], [], wd C Y og)) rfl ?_
            refine am_br_r (fun h_4 => ?_) (fun h_4 => ?_)
            · skip
              exact absurd h_4 (nI_nm (show i < 2 ^ 31 by omega))
            · skip
              refine am_steps_r ok_M_toldLength 7 (q' := (91, [some (.ref 19), some (.int (nI dc)), some (.int (nI w)), some (.int (nI i)), none], [.int ((8 * (nI i)) + 2), .ref 21], wd C Y og)) rfl ?_
              rw [show (8 * (nI i) : Int32) = nI (8 * i) from pk_mul 8 i]
              rw [show ((nI (8 * i)) + 2 : Int32) = nI ((8 * i) + 2) from nI_add (8 * i) 2]
              refine am_iald_r ok_M_toldLength rfl (w := wd C Y og) (f := Y.2.1 1) rfl rfl (pk_in ((8 * i) + 2) 160 (by omega)) ?_
              rw [nI_clamp (show ((8 * i) + 2) < 2 ^ 31 by omega)]
              rw [er]
              refine am_steps_r ok_M_toldLength 4 (q' := (bif decide ((nI w2) = (-1)) then 121 else 100, [some (.ref 19), some (.int (nI dc)), some (.int (nI w)), some (.int (nI i)), some (.int (nI w2))], [], wd C Y og)) rfl ?_
              refine am_br_r (fun h_5 => ?_) (fun h_5 => ?_)
              · skip
                exact absurd h_5 (nI_nm (show w2 < 2 ^ 31 by omega))
              · skip
                refine am_steps_r ok_M_toldLength 3 (q' := (106, [some (.ref 19), some (.int (nI dc)), some (.int (nI w)), some (.int (nI i)), some (.int (nI w2))], [.int (nI w2), .ref 22], wd C Y og)) rfl ?_
                refine am_iald_r ok_M_toldLength rfl (w := wd C Y og) (f := Y.2.1 2) rfl rfl (pk_in w2 300 (by omega)) ?_
                rw [nI_clamp (show w2 < 2 ^ 31 by omega)]
                rw [rv1]
                refine am_steps_r ok_M_toldLength 2 (q' := (bif decide ((V.1 w2) = 2) then 111 else 121, [some (.ref 19), some (.int (nI dc)), some (.int (nI w)), some (.int (nI i)), some (.int (nI w2))], [], wd C Y og)) rfl ?_
                refine am_br_r (fun h_6 => ?_) (fun h_6 => ?_)
                · skip
                  refine am_steps_r ok_M_toldLength 3 (q' := (117, [some (.ref 19), some (.int (nI dc)), some (.int (nI w)), some (.int (nI i)), some (.int (nI w2))], [.int (nI w2), .ref 23], wd C Y og)) rfl ?_
                  refine am_lald_r ok_M_toldLength rfl (w := wd C Y og) (f := Y.2.2.1) rfl rfl (pk_in w2 300 (by omega)) ?_
                  rw [nI_clamp (show w2 < 2 ^ 31 by omega)]
                  rw [rv2]
                  refine am_steps_r ok_M_toldLength 1 (q' := (124, [some (.ref 19), some (.int (nI dc)), some (.int (nI w)), some (.int (nI i)), some (.int (nI w2))], [.long (V.2.1 w2)], wd C Y og)) rfl ?_
                  refine am_lret_r ok_M_toldLength rfl rfl rfl ?_
                  refine ⟨?_, rfl⟩
                  first | rw [tlN_0 hpf] | rw [tlN_2 hpf (by assumption)] | rw [tlN_n hpf (by assumption) (by assumption)] | rw [tlN_8n hpf (by assumption) hfn2] | rw [tlN_82 hpf (by assumption) hfn2 w22 (by omega) (by assumption)] | rw [tlN_8x hpf (by assumption) hfn2 w22 (by omega) (by assumption)]
                · skip
                  refine am_steps_r ok_M_toldLength 1 (q' := (124, [some (.ref 19), some (.int (nI dc)), some (.int (nI w)), some (.int (nI i)), some (.int (nI w2))], [.long (-1)], wd C Y og)) rfl ?_
                  refine am_lret_r ok_M_toldLength rfl rfl rfl ?_
                  refine ⟨?_, rfl⟩
                  first | rw [tlN_0 hpf] | rw [tlN_2 hpf (by assumption)] | rw [tlN_n hpf (by assumption) (by assumption)] | rw [tlN_8n hpf (by assumption) hfn2] | rw [tlN_82 hpf (by assumption) hfn2 w22 (by omega) (by assumption)] | rw [tlN_8x hpf (by assumption) hfn2 w22 (by omega) (by assumption)]
        · skip
          refine am_steps_r ok_M_toldLength 1 (q' := (46, [some (.ref 19), some (.int (nI dc)), some (.int (nI w)), none, none], [.long (-1)], wd C Y og)) rfl ?_
          refine am_lret_r ok_M_toldLength rfl rfl rfl ?_
          refine ⟨?_, rfl⟩
          first | rw [tlN_0 hpf] | rw [tlN_2 hpf (by assumption)] | rw [tlN_n hpf (by assumption) (by assumption)] | rw [tlN_8n hpf (by assumption) hfn2] | rw [tlN_82 hpf (by assumption) hfn2 w22 (by omega) (by assumption)] | rw [tlN_8x hpf (by assumption) hfn2 w22 (by omega) (by assumption)]
end C82
