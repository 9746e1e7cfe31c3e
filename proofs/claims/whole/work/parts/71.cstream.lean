/-! the component reads streams; printed by wip/gen/g71.py -/
section C71
variable {l : Launch} {D : va_G} {cA : Nat → ClassId} {ad : Nat → Nat} {fm : Value}
set_option maxHeartbeats 1000000 in
set_option maxRecDepth 100000 in
theorem c_R_lengthTold (d : Nat) (C : wd_C) (Y : wd_Y) (og : Nat → Int64) (nv u : Nat) (V : VT) (hS : vsC C nv u V) (no : Nat) (E : Nat → Nat → Int32) (hO : obC C no E) (hob : obV nv no E) (hfm : fm = .null ∨ fm = .ref 3000) (dc : Nat) (hdc : dc < nv) (hk7 : V.1 dc = 7) : am_Mt l D cA ad fm (d + 6) m_R_lengthTold [.ref 16, .int (nI dc)] (wd C Y og) (fun vr w' => vr = some (.int (tlN V E no dc).toInt32) ∧ w' = wd C Y og) := by
  have hv1 := hS.1.2.1
  obtain ⟨r1, r2, r3, r4, r5, r6, r8, r7⟩ := hS.2.1 dc hdc
  have hhl := (r7.1 hk7).2.2
  refine am_mt ok_R_lengthTold (by simp [am_arg, Value.category, m_R_lengthTold, am_ml]) ?_
  refine am_eq_r (q' := (0, [some (.ref 16), some (.int (nI dc)), none, none, none, none], [], wd C Y og)) rfl ?_
  refine am_steps_r ok_R_lengthTold 6 (q' := (12, [some (.ref 16), some (.int (nI dc)), none, none, none, none], [.ref 1008, .int (nI dc), .ref 3, .ref 3], wd C Y og)) rfl ?_
  refine am_callV_r (As := [.int (nI dc), .ref 1008]) (rest := [.ref 3]) ok_R_lengthTold rfl rfl ok_V_keySpelled oi_V_keySpelled lk_1_269 (Or.inl ⟨_, _, _, rfl, rfl, rfl⟩) rfl rfl (Nat.le_of_ble_eq_true rfl) (c_V_keySpelled _ C Y og nv u V hS dc hdc hk7 8 _ _ _ st_8 rfl (by decide) hfm) ?_
  rintro v_ w_ ⟨rfl, rfl⟩ -
  rw [show vtSpl V dc st_8 = (prF (isLn V) (V.2.2.1 dc)).map (fun z => z.1) from prF_find hhl]
  rcases hpf : prF (isLn V) (V.2.2.1 dc) with _ | ⟨t, w⟩
  · skip
    refine am_eq_r (q' := (15, [some (.ref 16), some (.int (nI dc)), none, none, none, none], [.int (-1), .ref 3], wd C Y og)) rfl ?_
    refine am_callV_r (As := [.int (-1)]) (rest := []) ok_R_lengthTold rfl rfl ok_V_heldBy oi_V_heldBy lk_1_272 (Or.inl ⟨_, _, _, rfl, rfl, rfl⟩) rfl rfl (Nat.le_of_ble_eq_true rfl) (c_V_heldBy_m _ C Y og nv u hS.1) ?_
    rintro v_ w_ ⟨rfl, rfl⟩ -
    refine am_eq_r (q' := (18, [some (.ref 16), some (.int (nI dc)), none, none, none, none], [.int (-1)], wd C Y og)) rfl ?_
    refine am_steps_r ok_R_lengthTold 4 (q' := (24, [some (.ref 16), some (.int (nI dc)), some (.int (-1)), none, none, none], [.int (-1), .ref 3], wd C Y og)) rfl ?_
    refine am_callV_r (As := [.int (-1)]) (rest := []) ok_R_lengthTold rfl rfl ok_V_kindOf oi_V_kindOf lk_1_177 (Or.inl ⟨_, _, _, rfl, rfl, rfl⟩) rfl rfl (Nat.le_of_ble_eq_true rfl) (c_V_kindOf_m _ C Y og nv u hS.1) ?_
    rintro v_ w_ ⟨rfl, rfl⟩ -
    refine am_eq_r (q' := (27, [some (.ref 16), some (.int (nI dc)), some (.int (-1)), none, none, none], [.int (-1)], wd C Y og)) rfl ?_
    refine am_steps_r ok_R_lengthTold 5 (q' := (77, [some (.ref 16), some (.int (nI dc)), some (.int (-1)), none, none, none], [.int (-1), .ref 3], wd C Y og)) rfl ?_
    refine am_callV_r (As := [.int (-1)]) (rest := []) ok_R_lengthTold rfl rfl ok_V_kindOf oi_V_kindOf lk_1_177 (Or.inl ⟨_, _, _, rfl, rfl, rfl⟩) rfl rfl (Nat.le_of_ble_eq_true rfl) (c_V_kindOf_m _ C Y og nv u hS.1) ?_
    rintro v_ w_ ⟨rfl, rfl⟩ -
    refine am_eq_r (q' := (80, [some (.ref 16), some (.int (nI dc)), some (.int (-1)), none, none, none], [.int (-1)], wd C Y og)) rfl ?_
    refine am_steps_r ok_R_lengthTold 3 (q' := (97, [some (.ref 16), some (.int (nI dc)), some (.int (-1)), none, none, none], [.int (-1)], wd C Y og)) rfl ?_
    refine am_iret_r ok_R_lengthTold rfl rfl rfl ?_
    refine ⟨?_, rfl⟩
    first | (rw [tlN_0 hpf]; rfl) | (rw [tlN_2 hpf (by assumption)]; done) | (rw [tlN_n hpf (by assumption) (by assumption)]; rfl) | (rw [tlN_8n hpf (by assumption) hfn]; rfl) | (rw [tlN_82 hpf (by assumption) hfn w22 (by omega) (by assumption)]; done) | (rw [tlN_8x hpf (by assumption) hfn w22 (by omega) (by assumption)]; rfl)
  · skip
    obtain ⟨p1, p2, p3, p4, p5⟩ := prF_hld hhl hpf
    have htn := r4 t p2
    have hwn := r4 w p3
    refine am_eq_r (q' := (15, [some (.ref 16), some (.int (nI dc)), none, none, none, none], [.int (nI t), .ref 3], wd C Y og)) rfl ?_
    refine am_callV_r (As := [.int (nI t)]) (rest := []) ok_R_lengthTold rfl rfl ok_V_heldBy oi_V_heldBy lk_1_272 (Or.inl ⟨_, _, _, rfl, rfl, rfl⟩) rfl rfl (Nat.le_of_ble_eq_true rfl) (c_V_heldBy_in _ C Y og nv u hS.1 t (by omega)) ?_
    rintro v_ w_ ⟨rfl, rfl⟩ -
    rw [p1]
    refine am_eq_r (q' := (18, [some (.ref 16), some (.int (nI dc)), none, none, none, none], [.int (nI w)], wd C Y og)) rfl ?_
    refine am_steps_r ok_R_lengthTold 4 (q' := (24, [some (.ref 16), some (.int (nI dc)), some (.int (nI w)), none, none, none], [.int (nI w), .ref 3], wd C Y og)) rfl ?_
    refine am_callV_r (As := [.int (nI w)]) (rest := []) ok_R_lengthTold rfl rfl ok_V_kindOf oi_V_kindOf lk_1_177 (Or.inl ⟨_, _, _, rfl, rfl, rfl⟩) rfl rfl (Nat.le_of_ble_eq_true rfl) (c_V_kindOf_in _ C Y og nv u hS.1 w (by omega)) ?_
    rintro v_ w_ ⟨rfl, rfl⟩ -
    rw [(hS.2.1 w (by omega)).1]
    refine am_eq_r (q' := (27, [some (.ref 16), some (.int (nI dc)), some (.int (nI w)), none, none, none], [.int (V.1 w)], wd C Y og)) rfl ?_
    refine am_steps_r ok_R_lengthTold 2 (q' := (bif decide ((V.1 w) = 8) then 32 else 72, [some (.ref 16), some (.int (nI dc)), some (.int (nI w)), none, none, none], [], wd C Y og)) rfl ?_
    refine am_br_r (fun h_4 => ?_) (fun h_4 => ?_)
    · skip
      refine am_steps_r ok_R_lengthTold 3 (q' := (37, [some (.ref 16), some (.int (nI dc)), some (.int (nI w)), none, none, none], [.int (nI w), .ref 3], wd C Y og)) rfl ?_
      refine am_callV_r (As := [.int (nI w)]) (rest := []) ok_R_lengthTold rfl rfl ok_V_numberOf oi_V_numberOf lk_1_275 (Or.inl ⟨_, _, _, rfl, rfl, rfl⟩) rfl rfl (Nat.le_of_ble_eq_true rfl) (c_V_numberOf_in _ C Y og nv u hS.1 w (by omega)) ?_
      rintro v_ w_ ⟨rfl, rfl⟩ -
      rw [(hS.2.1 w (by omega)).2.1]
      refine am_eq_r (q' := (40, [some (.ref 16), some (.int (nI dc)), some (.int (nI w)), none, none, none], [.long (V.2.1 w)], wd C Y og)) rfl ?_
      refine am_steps_r ok_R_lengthTold 11 (q' := (57, [some (.ref 16), some (.int (nI dc)), some (.int (nI w)), some (.long (V.2.1 w)), none, none], [.int (((V.2.1 w) / 1000000000).toInt32), .int (((V.2.1 w) - (V.2.1 w) / 1000000000 * 1000000000).toInt32), .ref 14], wd C Y og)) rfl ?_
      refine am_callV_r (As := [.int (((V.2.1 w) - (V.2.1 w) / 1000000000 * 1000000000).toInt32), .int (((V.2.1 w) / 1000000000).toInt32)]) (rest := []) ok_R_lengthTold rfl rfl ok_O_latest oi_O_latest lk_1_279 (Or.inl ⟨_, _, _, rfl, rfl, rfl⟩) rfl rfl (Nat.le_of_ble_eq_true rfl) (c_O_latest _ C Y og no E hO (V.2.1 w - V.2.1 w / 1000000000 * 1000000000).toInt32 (V.2.1 w / 1000000000).toInt32) ?_
      rintro v_ w_ ⟨rfl, rfl⟩ -
      rcases hfn : fnO E (V.2.1 w - V.2.1 w / 1000000000 * 1000000000).toInt32 (V.2.1 w / 1000000000).toInt32 no with _ | i
      · skip
        refine am_eq_r (q' := (60, [some (.ref 16), some (.int (nI dc)), some (.int (nI w)), some (.long (V.2.1 w)), none, none], [.int (-1)], wd C Y og)) rfl ?_
        refine am_steps_r ok_R_lengthTold 4 (q' := (68, [some (.ref 16), some (.int (nI dc)), some (.int (nI w)), some (.long (V.2.1 w)), none, some (.int (-1))], [.int (-1), .ref 14], wd C Y og)) rfl ?_
        refine am_callV_r (As := [.int (-1)]) (rest := []) ok_R_lengthTold rfl rfl ok_O_valueOf oi_O_valueOf lk_1_282 (Or.inl ⟨_, _, _, rfl, rfl, rfl⟩) rfl rfl (Nat.le_of_ble_eq_true rfl) (c_O_valueOf_m _ C Y og no E hO) ?_
        rintro v_ w_ ⟨rfl, rfl⟩ -
        refine am_eq_r (q' := (71, [some (.ref 16), some (.int (nI dc)), some (.int (nI w)), some (.long (V.2.1 w)), none, some (.int (-1))], [.int (-1)], wd C Y og)) rfl ?_
        refine am_steps_r ok_R_lengthTold 4 (q' := (77, [some (.ref 16), some (.int (nI dc)), some (.int (-1)), some (.long (V.2.1 w)), none, some (.int (-1))], [.int (-1), .ref 3], wd C Y og)) rfl ?_
        refine am_callV_r (As := [.int (-1)]) (rest := []) ok_R_lengthTold rfl rfl ok_V_kindOf oi_V_kindOf lk_1_177 (Or.inl ⟨_, _, _, rfl, rfl, rfl⟩) rfl rfl (Nat.le_of_ble_eq_true rfl) (c_V_kindOf_m _ C Y og nv u hS.1) ?_
        rintro v_ w_ ⟨rfl, rfl⟩ -
        refine am_eq_r (q' := (80, [some (.ref 16), some (.int (nI dc)), some (.int (-1)), some (.long (V.2.1 w)), none, some (.int (-1))], [.int (-1)], wd C Y og)) rfl ?_
        refine am_steps_r ok_R_lengthTold 3 (q' := (97, [some (.ref 16), some (.int (nI dc)), some (.int (-1)), some (.long (V.2.1 w)), none, some (.int (-1))], [.int (-1)], wd C Y og)) rfl ?_
        refine am_iret_r ok_R_lengthTold rfl rfl rfl ?_
        refine ⟨?_, rfl⟩
        first | (rw [tlN_0 hpf]; rfl) | (rw [tlN_2 hpf (by assumption)]; done) | (rw [tlN_n hpf (by assumption) (by assumption)]; rfl) | (rw [tlN_8n hpf (by assumption) hfn]; rfl) | (rw [tlN_82 hpf (by assumption) hfn w22 (by omega) (by assumption)]; done) | (rw [tlN_8x hpf (by assumption) hfn w22 (by omega) (by assumption)]; rfl)
      · skip
        obtain ⟨i1, i2⟩ := fnO_some hfn
        have hi20 := hO.2.1
        obtain ⟨w2, w21, w22⟩ := (hob i i1).resolve_left i2
        refine am_eq_r (q' := (60, [some (.ref 16), some (.int (nI dc)), some (.int (nI w)), some (.long (V.2.1 w)), none, none], [.int (nI i)], wd C Y og)) rfl ?_
        refine am_steps_r ok_R_lengthTold 4 (q' := (68, [some (.ref 16), some (.int (nI dc)), some (.int (nI w)), some (.long (V.2.1 w)), none, some (.int (nI i))], [.int (nI i), .ref 14], wd C Y og)) rfl ?_
        refine am_callV_r (As := [.int (nI i)]) (rest := []) ok_R_lengthTold rfl rfl ok_O_valueOf oi_O_valueOf lk_1_282 (Or.inl ⟨_, _, _, rfl, rfl, rfl⟩) rfl rfl (Nat.le_of_ble_eq_true rfl) (c_O_valueOf_in _ C Y og no E hO i i1) ?_
        rintro v_ w_ ⟨rfl, rfl⟩ -
        rw [w22]
        refine am_eq_r (q' := (71, [some (.ref 16), some (.int (nI dc)), some (.int (nI w)), some (.long (V.2.1 w)), none, some (.int (nI i))], [.int (nI w2)], wd C Y og)) rfl ?_
        refine am_steps_r ok_R_lengthTold 4 (q' := (77, [some (.ref 16), some (.int (nI dc)), some (.int (nI w2)), some (.long (V.2.1 w)), none, some (.int (nI i))], [.int (nI w2), .ref 3], wd C Y og)) rfl ?_
        refine am_callV_r (As := [.int (nI w2)]) (rest := []) ok_R_lengthTold rfl rfl ok_V_kindOf oi_V_kindOf lk_1_177 (Or.inl ⟨_, _, _, rfl, rfl, rfl⟩) rfl rfl (Nat.le_of_ble_eq_true rfl) (c_V_kindOf_in _ C Y og nv u hS.1 w2 (by omega)) ?_
        rintro v_ w_ ⟨rfl, rfl⟩ -
        rw [(hS.2.1 w2 (by omega)).1]
        refine am_eq_r (q' := (80, [some (.ref 16), some (.int (nI dc)), some (.int (nI w2)), some (.long (V.2.1 w)), none, some (.int (nI i))], [.int (V.1 w2)], wd C Y og)) rfl ?_
        refine am_steps_r ok_R_lengthTold 2 (q' := (bif decide ((V.1 w2) = 2) then 84 else 96, [some (.ref 16), some (.int (nI dc)), some (.int (nI w2)), some (.long (V.2.1 w)), none, some (.int (nI i))], [], wd C Y og)) rfl ?_
        refine am_br_r (fun h_7 => ?_) (fun h_7 => ?_)
        · skip
          refine am_steps_r ok_R_lengthTold 3 (q' := (89, [some (.ref 16), some (.int (nI dc)), some (.int (nI w2)), some (.long (V.2.1 w)), none, some (.int (nI i))], [.int (nI w2), .ref 3], wd C Y og)) rfl ?_
          refine am_callV_r (As := [.int (nI w2)]) (rest := []) ok_R_lengthTold rfl rfl ok_V_numberOf oi_V_numberOf lk_1_275 (Or.inl ⟨_, _, _, rfl, rfl, rfl⟩) rfl rfl (Nat.le_of_ble_eq_true rfl) (c_V_numberOf_in _ C Y og nv u hS.1 w2 (by omega)) ?_
          rintro v_ w_ ⟨rfl, rfl⟩ -
          rw [(hS.2.1 w2 (by omega)).2.1]
          refine am_eq_r (q' := (92, [some (.ref 16), some (.int (nI dc)), some (.int (nI w2)), some (.long (V.2.1 w)), none, some (.int (nI i))], [.long (V.2.1 w2)], wd C Y og)) rfl ?_
          refine am_steps_r ok_R_lengthTold 2 (q' := (97, [some (.ref 16), some (.int (nI dc)), some (.int (nI w2)), some (.long (V.2.1 w)), none, some (.int (nI i))], [.int ((V.2.1 w2).toInt32)], wd C Y og)) rfl ?_
          refine am_iret_r ok_R_lengthTold rfl rfl rfl ?_
          refine ⟨?_, rfl⟩
          first | (rw [tlN_0 hpf]; rfl) | (rw [tlN_2 hpf (by assumption)]; done) | (rw [tlN_n hpf (by assumption) (by assumption)]; rfl) | (rw [tlN_8n hpf (by assumption) hfn]; rfl) | (rw [tlN_82 hpf (by assumption) hfn w22 (by omega) (by assumption)]; done) | (rw [tlN_8x hpf (by assumption) hfn w22 (by omega) (by assumption)]; rfl)
        · skip
          refine am_steps_r ok_R_lengthTold 1 (q' := (97, [some (.ref 16), some (.int (nI dc)), some (.int (nI w2)), some (.long (V.2.1 w)), none, some (.int (nI i))], [.int (-1)], wd C Y og)) rfl ?_
          refine am_iret_r ok_R_lengthTold rfl rfl rfl ?_
          refine ⟨?_, rfl⟩
          first | (rw [tlN_0 hpf]; rfl) | (rw [tlN_2 hpf (by assumption)]; done) | (rw [tlN_n hpf (by assumption) (by assumption)]; rfl) | (rw [tlN_8n hpf (by assumption) hfn]; rfl) | (rw [tlN_82 hpf (by assumption) hfn w22 (by omega) (by assumption)]; done) | (rw [tlN_8x hpf (by assumption) hfn w22 (by omega) (by assumption)]; rfl)
    · skip
      refine am_steps_r ok_R_lengthTold 3 (q' := (77, [some (.ref 16), some (.int (nI dc)), some (.int (nI w)), none, none, none], [.int (nI w), .ref 3], wd C Y og)) rfl ?_
      refine am_callV_r (As := [.int (nI w)]) (rest := []) ok_R_lengthTold rfl rfl ok_V_kindOf oi_V_kindOf lk_1_177 (Or.inl ⟨_, _, _, rfl, rfl, rfl⟩) rfl rfl (Nat.le_of_ble_eq_true rfl) (c_V_kindOf_in _ C Y og nv u hS.1 w (by omega)) ?_
      rintro v_ w_ ⟨rfl, rfl⟩ -
      rw [(hS.2.1 w (by omega)).1]
      refine am_eq_r (q' := (80, [some (.ref 16), some (.int (nI dc)), some (.int (nI w)), none, none, none], [.int (V.1 w)], wd C Y og)) rfl ?_
      refine am_steps_r ok_R_lengthTold 2 (q' := (bif decide ((V.1 w) = 2) then 84 else 96, [some (.ref 16), some (.int (nI dc)), some (.int (nI w)), none, none, none], [], wd C Y og)) rfl ?_
      refine am_br_r (fun h_8 => ?_) (fun h_8 => ?_)
      · skip
        refine am_steps_r ok_R_lengthTold 3 (q' := (89, [some (.ref 16), some (.int (nI dc)), some (.int (nI w)), none, none, none], [.int (nI w), .ref 3], wd C Y og)) rfl ?_
        refine am_callV_r (As := [.int (nI w)]) (rest := []) ok_R_lengthTold rfl rfl ok_V_numberOf oi_V_numberOf lk_1_275 (Or.inl ⟨_, _, _, rfl, rfl, rfl⟩) rfl rfl (Nat.le_of_ble_eq_true rfl) (c_V_numberOf_in _ C Y og nv u hS.1 w (by omega)) ?_
        rintro v_ w_ ⟨rfl, rfl⟩ -
        rw [(hS.2.1 w (by omega)).2.1]
        refine am_eq_r (q' := (92, [some (.ref 16), some (.int (nI dc)), some (.int (nI w)), none, none, none], [.long (V.2.1 w)], wd C Y og)) rfl ?_
        refine am_steps_r ok_R_lengthTold 2 (q' := (97, [some (.ref 16), some (.int (nI dc)), some (.int (nI w)), none, none, none], [.int ((V.2.1 w).toInt32)], wd C Y og)) rfl ?_
        refine am_iret_r ok_R_lengthTold rfl rfl rfl ?_
        refine ⟨?_, rfl⟩
        first | (rw [tlN_0 hpf]; rfl) | (rw [tlN_2 hpf (by assumption)]; done) | (rw [tlN_n hpf (by assumption) (by assumption)]; rfl) | (rw [tlN_8n hpf (by assumption) hfn]; rfl) | (rw [tlN_82 hpf (by assumption) hfn w22 (by omega) (by assumption)]; done) | (rw [tlN_8x hpf (by assumption) hfn w22 (by omega) (by assumption)]; rfl)
      · skip
        refine am_steps_r ok_R_lengthTold 1 (q' := (97, [some (.ref 16), some (.int (nI dc)), some (.int (nI w)), none, none, none], [.int (-1)], wd C Y og)) rfl ?_
        refine am_iret_r ok_R_lengthTold rfl rfl rfl ?_
        refine ⟨?_, rfl⟩
        first | (rw [tlN_0 hpf]; rfl) | (rw [tlN_2 hpf (by assumption)]; done) | (rw [tlN_n hpf (by assumption) (by assumption)]; rfl) | (rw [tlN_8n hpf (by assumption) hfn]; rfl) | (rw [tlN_82 hpf (by assumption) hfn w22 (by omega) (by assumption)]; done) | (rw [tlN_8x hpf (by assumption) hfn w22 (by omega) (by assumption)]; rfl)
set_option maxHeartbeats 1000000 in
set_option maxRecDepth 100000 in
theorem c_R_beforeLineEnd (d : Nat) (C : wd_C) (Y : wd_Y) (og : Nat → Int64) (n : Nat) (b : Nat → Int32) (hT : tpC C n b) (f t : Nat) (hf : f ≤ t) (ht : t ≤ n) (ht2 : 2 ≤ t) : am_Mt l D cA ad fm (d + 2) m_R_beforeLineEnd [.ref 16, .int (nI f), .int (nI t)] (wd C Y og) (fun vr w' => vr = some (.int (nI (blE b f t))) ∧ w' = wd C Y og) := by
  have hn := hT.2.1
  have hle := leE_ge b (t - 2)
  refine am_mt ok_R_beforeLineEnd (by simp [am_arg, Value.category, m_R_beforeLineEnd, am_ml]) ?_
  refine am_eq_r (q' := (0, [some (.ref 16), some (.int (nI f)), some (.int (nI t))], [], wd C Y og)) rfl ?_
  refine am_steps_r ok_R_beforeLineEnd 5 (q' := (bif decide (((nI t) - 2) < (nI f)) then 25 else 7, [some (.ref 16), some (.int (nI f)), some (.int (nI t))], [], wd C Y og)) rfl ?_
  rw [show ((nI t) - 2 : Int32) = nI (t - 2) from pk_sub (a := t) (b := 2) (by omega)]
  refine am_br_r (fun h_1 => ?_) (fun h_1 => ?_)
  · skip
    have h_1 : (t - 2) < f := (nI_ltI (show (t - 2) < 2 ^ 31 by omega) (show f < 2 ^ 31 by omega)).mp h_1
    refine am_steps_r ok_R_beforeLineEnd 5 (q' := (bif decide (((nI t) - 1) < (nI f)) then 54 else 32, [some (.ref 16), some (.int (nI f)), some (.int (nI t))], [], wd C Y og)) rfl ?_
    rw [show ((nI t) - 1 : Int32) = nI (t - 1) from pk_sub (a := t) (b := 1) (by omega)]
    refine am_br_r (fun h_2 => ?_) (fun h_2 => ?_)
    · skip
      have h_2 : (t - 1) < f := (nI_ltI (show (t - 1) < 2 ^ 31 by omega) (show f < 2 ^ 31 by omega)).mp h_2
      refine am_steps_r ok_R_beforeLineEnd 1 (q' := (55, [some (.ref 16), some (.int (nI f)), some (.int (nI t))], [.int (nI t)], wd C Y og)) rfl ?_
      refine am_iret_r ok_R_beforeLineEnd rfl rfl rfl ?_
      refine ⟨?_, rfl⟩
      unfold blE
      first | (rw [if_pos ⟨by omega, by omega⟩]; done) | (rw [if_neg (fun z => by omega), if_pos ⟨by omega, by assumption⟩]; done) | (rw [if_neg (fun z => by omega), if_neg (fun z => by first | omega | (have := z.2; simp_all))]; done)
    · skip
      have h_2 : ¬ (t - 1) < f := fun z => h_2 ((nI_ltI (show (t - 1) < 2 ^ 31 by omega) (show f < 2 ^ 31 by omega)).mpr z)
      refine am_steps_r ok_R_beforeLineEnd 5 (q' := (39, [some (.ref 16), some (.int (nI f)), some (.int (nI t))], [.int ((nI t) - 1), .ref 1], wd C Y og)) rfl ?_
      rw [show ((nI t) - 1 : Int32) = nI (t - 1) from pk_sub (a := t) (b := 1) (by omega)]
      refine am_callV_r (As := [.int (nI (t - 1))]) (rest := []) ok_R_beforeLineEnd rfl rfl ok_T_at oi_T_at lk_1_125 (Or.inl ⟨_, _, _, rfl, rfl, rfl⟩) rfl rfl (Nat.le_of_ble_eq_true rfl) (c_T_at _ C Y og n b hT (t - 1) (by omega)) ?_
      rintro v_ w_ ⟨rfl, rfl⟩ -
      refine am_eq_r (q' := (42, [some (.ref 16), some (.int (nI f)), some (.int (nI t))], [.int (b (t - 1))], wd C Y og)) rfl ?_
      refine am_callN_r (As := [.int (b (t - 1))]) (rest := []) ok_R_beforeLineEnd rfl rfl ok_S_isLineEnd os_S_isLineEnd ln_1_210 rfl rfl (Nat.le_of_ble_eq_true rfl) (c_S_isLineEnd _ C Y og (b (t - 1))) ?_
      rintro v_ w_ ⟨rfl, rfl⟩ -
      refine am_eq_r (q' := (45, [some (.ref 16), some (.int (nI f)), some (.int (nI t))], [.int (bz (isLE (b (t - 1))))], wd C Y og)) rfl ?_
      refine am_steps_r ok_R_beforeLineEnd 1 (q' := (bif decide ((bz (isLE (b (t - 1)))) = 0) then 54 else 48, [some (.ref 16), some (.int (nI f)), some (.int (nI t))], [], wd C Y og)) rfl ?_
      refine am_bz_r (fun h_5 => ?_) (fun h_5 => ?_)
      · skip
        refine am_steps_r ok_R_beforeLineEnd 4 (q' := (55, [some (.ref 16), some (.int (nI f)), some (.int (nI t))], [.int ((nI t) - 1)], wd C Y og)) rfl ?_
        rw [show ((nI t) - 1 : Int32) = nI (t - 1) from pk_sub (a := t) (b := 1) (by omega)]
        refine am_iret_r ok_R_beforeLineEnd rfl rfl rfl ?_
        refine ⟨?_, rfl⟩
        unfold blE
        first | (rw [if_pos ⟨by omega, by omega⟩]; done) | (rw [if_neg (fun z => by omega), if_pos ⟨by omega, by assumption⟩]; done) | (rw [if_neg (fun z => by omega), if_neg (fun z => by first | omega | (have := z.2; simp_all))]; done)
      · skip
        refine am_steps_r ok_R_beforeLineEnd 1 (q' := (55, [some (.ref 16), some (.int (nI f)), some (.int (nI t))], [.int (nI t)], wd C Y og)) rfl ?_
        refine am_iret_r ok_R_beforeLineEnd rfl rfl rfl ?_
        refine ⟨?_, rfl⟩
        unfold blE
        first | (rw [if_pos ⟨by omega, by omega⟩]; done) | (rw [if_neg (fun z => by omega), if_pos ⟨by omega, by assumption⟩]; done) | (rw [if_neg (fun z => by omega), if_neg (fun z => by first | omega | (have := z.2; simp_all))]; done)
  · skip
    have h_1 : ¬ (t - 2) < f := fun z => h_1 ((nI_ltI (show (t - 2) < 2 ^ 31 by omega) (show f < 2 ^ 31 by omega)).mpr z)
    refine am_steps_r ok_R_beforeLineEnd 5 (q' := (14, [some (.ref 16), some (.int (nI f)), some (.int (nI t))], [.int ((nI t) - 2), .ref 1], wd C Y og)) rfl ?_
    rw [show ((nI t) - 2 : Int32) = nI (t - 2) from pk_sub (a := t) (b := 2) (by omega)]
    refine am_callV_r (As := [.int (nI (t - 2))]) (rest := []) ok_R_beforeLineEnd rfl rfl ok_T_behindLineEnd oi_T_behindLineEnd lk_1_213 (Or.inl ⟨_, _, _, rfl, rfl, rfl⟩) rfl rfl (Nat.le_of_ble_eq_true rfl) (c_T_behindLineEnd _ C Y og n b hT (t - 2) (by omega)) ?_
    rintro v_ w_ ⟨rfl, rfl⟩ -
    refine am_eq_r (q' := (17, [some (.ref 16), some (.int (nI f)), some (.int (nI t))], [.int (nI (leE b (t - 2)))], wd C Y og)) rfl ?_
    refine am_steps_r ok_R_beforeLineEnd 2 (q' := (bif decide ((nI (leE b (t - 2))) = (nI t)) then 21 else 25, [some (.ref 16), some (.int (nI f)), some (.int (nI t))], [], wd C Y og)) rfl ?_
    refine am_br_r (fun h_7 => ?_) (fun h_7 => ?_)
    · skip
      have h_7 : (leE b (t - 2)) = t := (nI_eq (show (leE b (t - 2)) < 2 ^ 31 by omega) (show t < 2 ^ 31 by omega)).mp h_7
      refine am_steps_r ok_R_beforeLineEnd 3 (q' := (24, [some (.ref 16), some (.int (nI f)), some (.int (nI t))], [.int ((nI t) - 2)], wd C Y og)) rfl ?_
      rw [show ((nI t) - 2 : Int32) = nI (t - 2) from pk_sub (a := t) (b := 2) (by omega)]
      refine am_iret_r ok_R_beforeLineEnd rfl rfl rfl ?_
      refine ⟨?_, rfl⟩
      unfold blE
      first | (rw [if_pos ⟨by omega, by omega⟩]; done) | (rw [if_neg (fun z => by omega), if_pos ⟨by omega, by assumption⟩]; done) | (rw [if_neg (fun z => by omega), if_neg (fun z => by first | omega | (have := z.2; simp_all))]; done)
    · skip
      have h_7 : ¬ (leE b (t - 2)) = t := fun z => h_7 ((nI_eq (show (leE b (t - 2)) < 2 ^ 31 by omega) (show t < 2 ^ 31 by omega)).mpr z)
      refine am_steps_r ok_R_beforeLineEnd 5 (q' := (bif decide (((nI t) - 1) < (nI f)) then 54 else 32, [some (.ref 16), some (.int (nI f)), some (.int (nI t))], [], wd C Y og)) rfl ?_
      rw [show ((nI t) - 1 : Int32) = nI (t - 1) from pk_sub (a := t) (b := 1) (by omega)]
      refine am_br_r (fun h_8 => ?_) (fun h_8 => ?_)
      · skip
        have h_8 : (t - 1) < f := (nI_ltI (show (t - 1) < 2 ^ 31 by omega) (show f < 2 ^ 31 by omega)).mp h_8
        refine am_steps_r ok_R_beforeLineEnd 1 (q' := (55, [some (.ref 16), some (.int (nI f)), some (.int (nI t))], [.int (nI t)], wd C Y og)) rfl ?_
        refine am_iret_r ok_R_beforeLineEnd rfl rfl rfl ?_
        refine ⟨?_, rfl⟩
        unfold blE
        first | (rw [if_pos ⟨by omega, by omega⟩]; done) | (rw [if_neg (fun z => by omega), if_pos ⟨by omega, by assumption⟩]; done) | (rw [if_neg (fun z => by omega), if_neg (fun z => by first | omega | (have := z.2; simp_all))]; done)
      · skip
        have h_8 : ¬ (t - 1) < f := fun z => h_8 ((nI_ltI (show (t - 1) < 2 ^ 31 by omega) (show f < 2 ^ 31 by omega)).mpr z)
        refine am_steps_r ok_R_beforeLineEnd 5 (q' := (39, [some (.ref 16), some (.int (nI f)), some (.int (nI t))], [.int ((nI t) - 1), .ref 1], wd C Y og)) rfl ?_
        rw [show ((nI t) - 1 : Int32) = nI (t - 1) from pk_sub (a := t) (b := 1) (by omega)]
        refine am_callV_r (As := [.int (nI (t - 1))]) (rest := []) ok_R_beforeLineEnd rfl rfl ok_T_at oi_T_at lk_1_125 (Or.inl ⟨_, _, _, rfl, rfl, rfl⟩) rfl rfl (Nat.le_of_ble_eq_true rfl) (c_T_at _ C Y og n b hT (t - 1) (by omega)) ?_
        rintro v_ w_ ⟨rfl, rfl⟩ -
        refine am_eq_r (q' := (42, [some (.ref 16), some (.int (nI f)), some (.int (nI t))], [.int (b (t - 1))], wd C Y og)) rfl ?_
        refine am_callN_r (As := [.int (b (t - 1))]) (rest := []) ok_R_beforeLineEnd rfl rfl ok_S_isLineEnd os_S_isLineEnd ln_1_210 rfl rfl (Nat.le_of_ble_eq_true rfl) (c_S_isLineEnd _ C Y og (b (t - 1))) ?_
        rintro v_ w_ ⟨rfl, rfl⟩ -
        refine am_eq_r (q' := (45, [some (.ref 16), some (.int (nI f)), some (.int (nI t))], [.int (bz (isLE (b (t - 1))))], wd C Y og)) rfl ?_
        refine am_steps_r ok_R_beforeLineEnd 1 (q' := (bif decide ((bz (isLE (b (t - 1)))) = 0) then 54 else 48, [some (.ref 16), some (.int (nI f)), some (.int (nI t))], [], wd C Y og)) rfl ?_
        refine am_bz_r (fun h_11 => ?_) (fun h_11 => ?_)
        · skip
          refine am_steps_r ok_R_beforeLineEnd 4 (q' := (55, [some (.ref 16), some (.int (nI f)), some (.int (nI t))], [.int ((nI t) - 1)], wd C Y og)) rfl ?_
          rw [show ((nI t) - 1 : Int32) = nI (t - 1) from pk_sub (a := t) (b := 1) (by omega)]
          refine am_iret_r ok_R_beforeLineEnd rfl rfl rfl ?_
          refine ⟨?_, rfl⟩
          unfold blE
          first | (rw [if_pos ⟨by omega, by omega⟩]; done) | (rw [if_neg (fun z => by omega), if_pos ⟨by omega, by assumption⟩]; done) | (rw [if_neg (fun z => by omega), if_neg (fun z => by first | omega | (have := z.2; simp_all))]; done)
        · skip
          refine am_steps_r ok_R_beforeLineEnd 1 (q' := (55, [some (.ref 16), some (.int (nI f)), some (.int (nI t))], [.int (nI t)], wd C Y og)) rfl ?_
          refine am_iret_r ok_R_beforeLineEnd rfl rfl rfl ?_
          refine ⟨?_, rfl⟩
          unfold blE
          first | (rw [if_pos ⟨by omega, by omega⟩]; done) | (rw [if_neg (fun z => by omega), if_pos ⟨by omega, by assumption⟩]; done) | (rw [if_neg (fun z => by omega), if_neg (fun z => by first | omega | (have := z.2; simp_all))]; done)
/-- while a stream's bytes are read -/
def smC (C0 C : wd_C) (nv u : Nat) (V : VT) (dc : Nat) (acc : List Int32) : Prop := vsC C (nv + 1) (u + acc.length) (vtS V nv dc acc) ∧ vcu C (u + acc.length) (vtS V nv dc acc) nv ∧ (∀ j, j ≠ 2 → C.1 j = C0.1 j) ∧ (C.2.1 0 = C0.2.1 0 ∧ C.2.1 2 = C0.2.1 2 ∧ C.2.1 7 = C0.2.1 7 ∧ C.2.1 10 = C0.2.1 10 ∧ C.2.1 11 = C0.2.1 11)
theorem smC_byte {C0 C : wd_C} {nv u : Nat} {V : VT} {dc : Nat} {acc : List Int32} (h : smC C0 C nv u V dc acc) (hu : u + acc.length < 2000) {x : Int32} (hx : isB x) : smC C0 (vByte C nv (u + acc.length) x) nv u V dc (acc ++ [x]) := by
  obtain ⟨h1, h2, h3, h4⟩ := h
  obtain ⟨j, hj, rfl⟩ := hx
  have := vsC_byte h1 (v := nv) (by omega) h2 hu hj
  rw [vtS_byte] at this
  have e : u + (acc ++ [nI j]).length = u + acc.length + 1 := by simp; omega
  refine ⟨by rw [e]; exact this.1, by rw [e]; exact this.2, fun i hi => ?_, h4⟩
  rw [← h3 i hi]
  simp [vByte, upd, hi]
set_option maxHeartbeats 1000000 in
set_option maxRecDepth 100000 in
theorem lp_R_copyStream_21 (d : Nat) (Y : wd_Y) (og : Nat → Int64) (n : Nat) (b : Nat → Int32) (C0 : wd_C) (hT0 : tpC C0 n b) (nv u : Nat) (V : VT) (dc f len p : Nat) (hfl : f + len ≤ n) (hl4 : len ≤ 400) (huf : u ≤ f)  : ∀ (fu : Nat) (post : Option Value → am_W → Prop) (C : wd_C) (i : Nat), (smC C0 C nv u V dc (tpL b f i)) → (i ≤ len) → (∀ w', (∃ C' : wd_C, w' = wd C' Y og ∧ smC C0 C' nv u V dc (tpL b f len)) → post (some (.int 1)) w') → len - i < fu → am_Rn l D cA ad fm (d + 1) m_R_copyStream (wd C Y og).length post (21, [some (.ref 16), some (.int (nI nv)), some (.int (nI f)), some (.int (nI len)), some (.int (nI p)), some (.int (nI i))], [], wd C Y og) := by
  intro fu
  induction fu with
  | zero => intro post C i hM hi hpo hfu; exact absurd hfu (Nat.not_lt_zero _)
  | succ fu ih =>
    intro post C i hM hi hpo hfu
    have hT : tpC C n b := ⟨(hM.2.2.1 0 (by decide)).trans hT0.1, hT0.2.1, fun k hk => by rw [hM.2.2.2.1]; exact hT0.2.2.1 k hk, hT0.2.2.2⟩
    have hn := hT.2.1
    have hnv := hM.1.1.2.1
    refine am_steps_r ok_R_copyStream 3 (q' := (bif decide ((nI len) ≤ (nI i)) then 66 else 27, [some (.ref 16), some (.int (nI nv)), some (.int (nI f)), some (.int (nI len)), some (.int (nI p)), some (.int (nI i))], [], wd C Y og)) rfl ?_
    refine am_br_r (fun h_1 => ?_) (fun h_1 => ?_)
    · skip
      have h_1 : len ≤ i := (nI_leI (show len < 2 ^ 31 by omega) (show i < 2 ^ 31 by omega)).mp h_1
      refine am_steps_r ok_R_copyStream 1 (q' := (67, [some (.ref 16), some (.int (nI nv)), some (.int (nI f)), some (.int (nI len)), some (.int (nI p)), some (.int (nI i))], [.int 1], wd C Y og)) rfl ?_
      refine am_zret_r ok_R_copyStream rfl rfl rfl rfl ?_
      have e : i = len := by omega
      subst e
      exact hpo _ ⟨C, rfl, hM⟩
    · skip
      have h_1 : ¬ len ≤ i := fun z => h_1 ((nI_leI (show len < 2 ^ 31 by omega) (show i < 2 ^ 31 by omega)).mpr z)
      refine am_steps_r ok_R_copyStream 8 (q' := (40, [some (.ref 16), some (.int (nI nv)), some (.int (nI f)), some (.int (nI len)), some (.int (nI p)), some (.int (nI i))], [.int ((nI f) + (nI i)), .ref 1, .int (nI nv), .ref 3], wd C Y og)) rfl ?_
      rw [show ((nI f) + (nI i) : Int32) = nI (f + i) from nI_add f i]
      refine am_callV_r (As := [.int (nI (f + i))]) (rest := [.int (nI nv), .ref 3]) ok_R_copyStream rfl rfl ok_T_at oi_T_at lk_1_125 (Or.inl ⟨_, _, _, rfl, rfl, rfl⟩) rfl rfl (Nat.le_of_ble_eq_true rfl) (c_T_at _ C Y og n b hT (f + i) (by omega)) ?_
      rintro v_ w_ ⟨rfl, rfl⟩ -
      refine am_eq_r (q' := (43, [some (.ref 16), some (.int (nI nv)), some (.int (nI f)), some (.int (nI len)), some (.int (nI p)), some (.int (nI i))], [.int (b (f + i)), .int (nI nv), .ref 3], wd C Y og)) rfl ?_
      refine am_callV_r (As := [.int (nI nv), .int (b (f + i))]) (rest := []) ok_R_copyStream rfl rfl ok_V_addByte oi_V_addByte lk_1_203 (Or.inl ⟨_, _, _, rfl, rfl, rfl⟩) rfl rfl (Nat.le_of_ble_eq_true rfl) (c_V_addByte_in _ C Y og (nv + 1) (u + (tpL b f i).length) hM.1.1 nv (by omega) (by rw [tpL_len]; omega) (b (f + i))) ?_
      rintro v_ w_ ⟨rfl, rfl⟩ -
      refine am_eq_r (q' := (46, [some (.ref 16), some (.int (nI nv)), some (.int (nI f)), some (.int (nI len)), some (.int (nI p)), some (.int (nI i))], [.int 1], wd (vByte C nv (u + (tpL b f i).length) (b (f + i))) Y og)) rfl ?_
      refine am_steps_r ok_R_copyStream 3 (q' := (21, [some (.ref 16), some (.int (nI nv)), some (.int (nI f)), some (.int (nI len)), some (.int (nI p)), some (.int ((nI i) + 1))], [], wd (vByte C nv (u + (tpL b f i).length) (b (f + i))) Y og)) rfl ?_
      rw [show ((nI i) + 1 : Int32) = nI (i + 1) from nI_add i 1]
      exact ih post (vByte C nv (u + (tpL b f i).length) (b (f + i))) (i + 1) (smC_byte hM (by rw [tpL_len]; omega) (tpC_B hT (by omega))) (by omega) hpo (by omega)
set_option maxHeartbeats 1000000 in
set_option maxRecDepth 100000 in
theorem c_R_copyStream (d : Nat) (C : wd_C) (Y : wd_Y) (og : Nat → Int64) (n : Nat) (b : Nat → Int32) (hT : tpC C n b) (nv u : Nat) (V : VT) (dc f len p : Nat) (hfl : f + len ≤ n) (huf : u ≤ f) (hM0 : smC C C nv u V dc [])  : am_Mt l D cA ad fm (d + 1) m_R_copyStream [.ref 16, .int (nI nv), .int (nI f), .int (nI len), .int (nI p)] (wd C Y og) (fun vr w' => (len ≤ 400 ∧ vr = some (.int 1) ∧ ∃ C' : wd_C, w' = wd C' Y og ∧ smC C C' nv u V dc (tpL b f len)) ∨ (400 < len ∧ vr = some (.int 0) ∧ w' = wd (upd (upd C.1 5 8) 6 (nI p), C.2) Y og)) := by
  have hn := hT.2.1
  have hnv := hM0.1.1.2.1
  refine am_mt ok_R_copyStream (by simp [am_arg, Value.category, m_R_copyStream, am_ml]) ?_
  refine am_eq_r (q' := (0, [some (.ref 16), some (.int (nI nv)), some (.int (nI f)), some (.int (nI len)), some (.int (nI p)), none], [], wd C Y og)) rfl ?_
  refine am_steps_r ok_R_copyStream 3 (q' := (bif decide ((nI len) ≤ 400) then 18 else 7, [some (.ref 16), some (.int (nI nv)), some (.int (nI f)), some (.int (nI len)), some (.int (nI p)), none], [], wd C Y og)) rfl ?_
  refine am_br_r (fun h_1 => ?_) (fun h_1 => ?_)
  · skip
    have h_1 : len ≤ 400 := (nI_leI (show len < 2 ^ 31 by omega) (show 400 < 2 ^ 31 by omega)).mp h_1
    refine am_steps_r ok_R_copyStream 2 (q' := (21, [some (.ref 16), some (.int (nI nv)), some (.int (nI f)), some (.int (nI len)), some (.int (nI p)), some (.int 0)], [], wd C Y og)) rfl ?_
    refine am_eq_r (q' := (21, [some (.ref 16), some (.int (nI nv)), some (.int (nI f)), some (.int (nI len)), some (.int (nI p)), some (.int (nI 0))], [], wd C Y og)) rfl ?_
    exact lp_R_copyStream_21 d Y og n b C hT nv u V dc f len p hfl (by omega) huf 402 _ C 0 hM0 (by omega) (fun w' hw => Or.inl ⟨by omega, rfl, hw⟩) (by omega)
  · skip
    have h_1 : ¬ len ≤ 400 := fun z => h_1 ((nI_leI (show len < 2 ^ 31 by omega) (show 400 < 2 ^ 31 by omega)).mpr z)
    refine am_steps_r ok_R_copyStream 3 (q' := (12, [some (.ref 16), some (.int (nI nv)), some (.int (nI f)), some (.int (nI len)), some (.int (nI p)), none], [.int (nI p), .int 8, .ref 16], wd C Y og)) rfl ?_
    refine am_callV_r (As := [.int 8, .int (nI p)]) (rest := []) ok_R_copyStream rfl rfl ok_R_fail oi_R_fail lk_1_122 (Or.inl ⟨_, _, _, rfl, rfl, rfl⟩) rfl rfl (Nat.le_of_ble_eq_true rfl) (c_R_fail _ C Y og 8 (nI p)) ?_
    rintro v_ w_ ⟨rfl, rfl⟩ -
    refine am_eq_r (q' := (15, [some (.ref 16), some (.int (nI nv)), some (.int (nI f)), some (.int (nI len)), some (.int (nI p)), none], [.int (-1)], wd (upd (upd C.1 5 8) 6 (nI p), C.2) Y og)) rfl ?_
    refine am_steps_r ok_R_copyStream 2 (q' := (17, [some (.ref 16), some (.int (nI nv)), some (.int (nI f)), some (.int (nI len)), some (.int (nI p)), none], [.int 0], wd (upd (upd C.1 5 8) 6 (nI p), C.2) Y og)) rfl ?_
    refine am_zret_r ok_R_copyStream rfl rfl rfl rfl ?_
    first | (exfalso; omega) | exact Or.inr ⟨by omega, rfl, rfl⟩
end C71
