/-! the component reads arrays, dictionaries, values; printed by wip/gen/g61.py -/
section C61
variable {l : Launch} {D : va_G} {cA : Nat → ClassId} {ad : Nat → Nat} {fm : Value}
set_option maxHeartbeats 2000000 in
set_option maxRecDepth 100000 in
theorem lp_R_readArray_23 (d : Nat) (Y : wd_Y) (og : Nat → Int64) (n : Nat) (b : Nat → Int32) (nv0 dp : Nat) (hd : dp < 8) (hfm : fm = .null ∨ fm = .ref 3000) (IH : ∀ (C : wd_C) (ht : Nat → Nat) (k nv u : Nat) (V : VT) (no : Int32), rdI C n b nv0 ht k nv u V no → am_Mt l D cA ad fm (d + 9) m_R_readValue [.ref 16, .int (nI (dp + 1))] (wd C Y og) (rdP n b C Y og nv0 (dp + 1) none ht k nv u V no)) (v : Nat)  : ∀ (fu : Nat) (post : Option Value → am_W → Prop) (C : wd_C) (ht : Nat → Nat) (k : Nat) (nv : Nat) (u : Nat) (V : VT) (no : Int32) (st : Nat), (rdI C n b nv0 ht k nv u V no) → (rdM C nv0 ht nv V dp v 6) → (st < k) → (∀ vr w', rdP n b C Y og nv0 dp (some (v, false)) ht k nv u V no vr w' → post vr w') → n - k < fu → am_Rn l D cA ad fm (d + 10) m_R_readArray (wd C Y og).length post (23, [some (.ref 16), some (.int (nI v)), some (.int (nI dp)), some (.int (nI st))], [], wd C Y og) := by
  intro fu
  induction fu with
  | zero => intro post C ht k nv u V no st hI hM hst hpo hfu; exact absurd hfu (Nat.not_lt_zero _)
  | succ fu ih =>
    intro post C ht k nv u V no st hI hM hst hpo hfu
    have hT := hI.1
    have hn := hT.2.1
    have hkn := hI.2.2.2.2.2.1
    have huk := hI.2.2.2.2.2.2.1
    have hn0 := hI.2.2.2.2.2.2.2.1
    have hnv := hI.2.2.2.2.1.1.2.1
    have hvv := hM.2.1
    refine am_steps_r ok_R_readArray 3 (q' := (bif decide (1600 < (nI st)) then 101 else 30, [some (.ref 16), some (.int (nI v)), some (.int (nI dp)), some (.int (nI st))], [], wd C Y og)) rfl ?_
    refine am_br_r (fun h_1 => ?_) (fun h_1 => ?_)
    · skip
      have h_1 : 1600 < st := (nI_ltI (show 1600 < 2 ^ 31 by omega) (show st < 2 ^ 31 by omega)).mp h_1
      refine am_steps_r ok_R_readArray 1 (q' := (102, [some (.ref 16), some (.int (nI v)), some (.int (nI dp)), some (.int (nI st))], [.int (-1)], wd C Y og)) rfl ?_
      refine am_iret_r ok_R_readArray rfl rfl rfl ?_
      exfalso; omega
    · skip
      have h_1 : ¬ 1600 < st := fun z => h_1 ((nI_ltI (show 1600 < 2 ^ 31 by omega) (show st < 2 ^ 31 by omega)).mpr z)
      refine am_steps_r ok_R_readArray 3 (q' := (bif decide ((C.1 5) = 0) then 37 else 101, [some (.ref 16), some (.int (nI v)), some (.int (nI dp)), some (.int (nI st))], [], wd C Y og)) rfl ?_
      rw [show (C.1 5 : Int32) = nI 0 from hI.2.2.1.1]
      refine am_br_r (fun h_2 => ?_) (fun h_2 => ?_)
      · skip
        have h_2 : 0 = 0 := (nI_eq (show 0 < 2 ^ 31 by omega) (show 0 < 2 ^ 31 by omega)).mp h_2
        refine am_steps_r ok_R_readArray 5 (q' := (46, [some (.ref 16), some (.int (nI v)), some (.int (nI dp)), some (.int (nI st))], [.int (C.1 4), .ref 1, .ref 16], wd C Y og)) rfl ?_
        rw [show (C.1 4 : Int32) = nI k from hI.2.1]
        have w_3 := skW_le n b (k := k) (by omega)
        refine am_callV_r (As := [.int (nI k)]) (rest := [.ref 16]) ok_R_readArray rfl rfl ok_T_behindWhite oi_T_behindWhite lk_1_56 (Or.inl ⟨_, _, _, rfl, rfl, rfl⟩) rfl rfl (Nat.le_of_ble_eq_true rfl) (c_T_behindWhite _ C Y og n b hT k (by omega)) ?_
        rintro v_ w_ ⟨rfl, rfl⟩ -
        refine am_eq_r (q' := (49, [some (.ref 16), some (.int (nI v)), some (.int (nI dp)), some (.int (nI st))], [.int (nI (skW n b k)), .ref 16], wd C Y og)) rfl ?_
        refine am_steps_r ok_R_readArray 5 (q' := (60, [some (.ref 16), some (.int (nI v)), some (.int (nI dp)), some (.int (nI st))], [.int (nI (skW n b k)), .ref 1], wd (upd C.1 4 (nI (skW n b k)), C.2) Y og)) rfl ?_
        refine am_callV_r (As := [.int (nI (skW n b k))]) (rest := []) ok_R_readArray rfl rfl ok_T_at oi_T_at lk_1_125 (Or.inl ⟨_, _, _, rfl, rfl, rfl⟩) rfl rfl (Nat.le_of_ble_eq_true rfl) (c_T_at _ (upd C.1 4 (nI (skW n b k)), C.2) Y og n b hT (skW n b k) (by omega)) ?_
        rintro v_ w_ ⟨rfl, rfl⟩ -
        refine am_eq_r (q' := (63, [some (.ref 16), some (.int (nI v)), some (.int (nI dp)), some (.int (nI st))], [.int (b (skW n b k))], wd (upd C.1 4 (nI (skW n b k)), C.2) Y og)) rfl ?_
        refine am_steps_r ok_R_readArray 2 (q' := (bif decide ((b (skW n b k)) = 93) then 68 else 80, [some (.ref 16), some (.int (nI v)), some (.int (nI dp)), some (.int (nI st))], [], wd (upd C.1 4 (nI (skW n b k)), C.2) Y og)) rfl ?_
        refine am_br_r (fun h_6 => ?_) (fun h_6 => ?_)
        · skip
          have hlt : skW n b k < n := by rcases Nat.lt_or_ge (skW n b k) n with g | g; exact g; rw [hT.2.2.2 _ g] at h_6; exact absurd h_6 (by decide)
          refine am_steps_r ok_R_readArray 7 (q' := (79, [some (.ref 16), some (.int (nI v)), some (.int (nI dp)), some (.int (nI st))], [.int (nI v)], wd (upd C.1 4 ((nI (skW n b k)) + 1), C.2) Y og)) rfl ?_
          rw [show ((nI (skW n b k)) + 1 : Int32) = nI ((skW n b k) + 1) from nI_add (skW n b k) 1]
          refine am_iret_r ok_R_readArray rfl rfl rfl ?_
          refine hpo _ _ ⟨.inr (v, skW n b k + 1, nv, u, V, no), Rd_a1 dp v k nv u V no ⟨vsC_ok hI.2.2.2.2.1, hI.2.2.2.2.1.1.2.1, hI.2.2.2.2.2.2.1, hI.2.2.2.2.2.1⟩ hd hM.2.1 hM.2.2.1 hlt (by assumption), ?_⟩
          exact ⟨rfl, _, rfl, rfl, hI.2.2.1, hI.2.2.2.1, fC_rf _ _, hI.2.2.2.2.1, by omega, by omega, Nat.le_refl _, Nat.le_refl _, by omega, hM.2.1, fun _ _ hy => hy, fun _ _ => rfl, vbe_rf _ _, ht, fun _ _ => rfl, hI.2.2.2.2.2.2.2.2, rfl⟩
        · skip
          refine am_steps_r ok_R_readArray 7 (q' := (89, [some (.ref 16), some (.int (nI v)), some (.int (nI dp)), some (.int (nI st))], [.int ((nI dp) + 1), .ref 16, .int (nI v), .ref 3], wd (upd C.1 4 (nI (skW n b k)), C.2) Y og)) rfl ?_
          rw [show ((nI dp) + 1 : Int32) = nI (dp + 1) from nI_add dp 1]
          refine am_callV_r (As := [.int (nI (dp + 1))]) (rest := [.int (nI v), .ref 3]) ok_R_readArray rfl rfl ok_R_readValue oi_R_readValue lk_1_104 (Or.inl ⟨_, _, _, rfl, rfl, rfl⟩) rfl rfl (Nat.le_of_ble_eq_true rfl) (IH (upd C.1 4 (nI (skW n b k)), C.2) ht (skW n b k) nv u V no ⟨hI.1, rfl, hI.2.2.1, hI.2.2.2.1, hI.2.2.2.2.1, by omega, by omega, hI.2.2.2.2.2.2.2.1, hI.2.2.2.2.2.2.2.2⟩) ?_
          rintro v_ w_ ⟨r_, hR, hO⟩ -
          rcases r_ with ⟨c, p, no1⟩ | ⟨x, k2, nv2, u2, V2, no2⟩
          · have hO1 := hO
            obtain ⟨rfl, C1, rfl, f5, fc, f6, fp, f7, ff, nv9, u9, V9, g1, g2, g3, g4⟩ := hO
            have hT := tpC_f hT ff
            refine am_eq_r (q' := (92, [some (.ref 16), some (.int (nI v)), some (.int (nI dp)), some (.int (nI st))], [.int (-1), .int (nI v), .ref 3], wd C1 Y og)) rfl ?_
            refine am_callV_r (As := [.int (nI v), .int (-1)]) (rest := []) ok_R_readArray rfl rfl ok_V_addPart oi_V_addPart lk_1_159 (Or.inl ⟨_, _, _, rfl, rfl, rfl⟩) rfl rfl (Nat.le_of_ble_eq_true rfl) (c_V_addPart_m _ C1 Y og nv9 u9 g3.1 v (by have := hM.2.1; omega)) ?_
            rintro v_ w_ ⟨rfl, rfl⟩ -
            refine am_eq_r (q' := (95, [some (.ref 16), some (.int (nI v)), some (.int (nI dp)), some (.int (nI st))], [], wd C1 Y og)) rfl ?_
            refine am_steps_r ok_R_readArray 2 (q' := (23, [some (.ref 16), some (.int (nI v)), some (.int (nI dp)), some (.int ((nI st) + 1))], [], wd C1 Y og)) rfl ?_
            rw [show ((nI st) + 1 : Int32) = nI (st + 1) from nI_add st 1]
            refine am_steps_r ok_R_readArray 3 (q' := (bif decide (1600 < (nI (st + 1))) then 101 else 30, [some (.ref 16), some (.int (nI v)), some (.int (nI dp)), some (.int (nI (st + 1)))], [], wd C1 Y og)) rfl ?_
            refine am_br_r (fun h_8 => ?_) (fun h_8 => ?_)
            · skip
              have h_8 : 1600 < (st + 1) := (nI_ltI (show 1600 < 2 ^ 31 by omega) (show (st + 1) < 2 ^ 31 by omega)).mp h_8
              refine am_steps_r ok_R_readArray 1 (q' := (102, [some (.ref 16), some (.int (nI v)), some (.int (nI dp)), some (.int (nI (st + 1)))], [.int (-1)], wd C1 Y og)) rfl ?_
              refine am_iret_r ok_R_readArray rfl rfl rfl ?_
              exact hpo _ _ ⟨.inl (c, p, no1), Rd_a2 dp v k nv u V no (c, p, no1) ⟨vsC_ok hI.2.2.2.2.1, hI.2.2.2.2.1.1.2.1, hI.2.2.2.2.2.2.1, hI.2.2.2.2.2.1⟩ hd hM.2.1 hM.2.2.1 (by assumption) hR, rdO_bad (rdT_rf C nv0 ht nv V _) (Nat.le_refl _) hO1⟩
            · skip
              have h_8 : ¬ 1600 < (st + 1) := fun z => h_8 ((nI_ltI (show 1600 < 2 ^ 31 by omega) (show (st + 1) < 2 ^ 31 by omega)).mpr z)
              refine am_steps_r ok_R_readArray 3 (q' := (bif decide ((C1.1 5) = 0) then 37 else 101, [some (.ref 16), some (.int (nI v)), some (.int (nI dp)), some (.int (nI (st + 1)))], [], wd C1 Y og)) rfl ?_
              refine am_br_r (fun h_9 => ?_) (fun h_9 => ?_)
              · skip
                exact absurd (f5.symm.trans h_9) fc
              · skip
                refine am_steps_r ok_R_readArray 1 (q' := (102, [some (.ref 16), some (.int (nI v)), some (.int (nI dp)), some (.int (nI (st + 1)))], [.int (-1)], wd C1 Y og)) rfl ?_
                refine am_iret_r ok_R_readArray rfl rfl rfl ?_
                exact hpo _ _ ⟨.inl (c, p, no1), Rd_a2 dp v k nv u V no (c, p, no1) ⟨vsC_ok hI.2.2.2.2.1, hI.2.2.2.2.1.1.2.1, hI.2.2.2.2.2.2.1, hI.2.2.2.2.2.1⟩ hd hM.2.1 hM.2.2.1 (by assumption) hR, rdO_bad (rdT_rf C nv0 ht nv V _) (Nat.le_refl _) hO1⟩
          · obtain ⟨rfl, C1, ht1, rfl, hI1, hT1, q1, q2, q3, q4, q5, q6⟩ := rdO_ok (show tpC (upd C.1 4 (nI (skW n b k)), C.2) n b from hI.1) (by omega) hO
            have hT := hI1.1
            have hn2 := hI1.2.2.2.2.1.1.2.1
            have hk2n := hI1.2.2.2.2.2.1
            refine am_eq_r (q' := (92, [some (.ref 16), some (.int (nI v)), some (.int (nI dp)), some (.int (nI st))], [.int (nI x), .int (nI v), .ref 3], wd C1 Y og)) rfl ?_
            obtain ⟨hIp, hTp, hMp⟩ := rd_part (rdT_tr (rdT_rf C nv0 ht nv V _) hT1) hI1 hM q3 q4 q6 q5
            obtain ⟨s1, s2, s3, s4, s5, s6, s8, s7⟩ := hI1.2.2.2.2.1.2.1 v (by have := hMp.2.1; omega)
            have hv6 : V2.1 v = 6 := hMp.2.2.1
            refine am_callV_r (As := [.int (nI v), .int (nI x)]) (rest := []) ok_R_readArray rfl rfl ok_V_addPart oi_V_addPart lk_1_159 (Or.inl ⟨_, _, _, rfl, rfl, rfl⟩) rfl rfl (Nat.le_of_ble_eq_true rfl) (c_V_addPart_o _ C1 Y og nv2 u2 hI1.2.2.2.2.1.1 v x (by have := hMp.2.1; omega) q4 (V2.2.2.1 v).getLast? (fun q hq => s4 q (List.mem_of_getLast? hq)) (s7.2 (by rw [hv6]; decide)).2) ?_
            rintro v_ w_ ⟨rfl, rfl⟩ -
            have hT := hIp.1
            refine am_eq_r (q' := (95, [some (.ref 16), some (.int (nI v)), some (.int (nI dp)), some (.int (nI st))], [], wd (vPart C1 v x (V2.2.2.1 v).getLast?) Y og)) rfl ?_
            refine am_steps_r ok_R_readArray 2 (q' := (23, [some (.ref 16), some (.int (nI v)), some (.int (nI dp)), some (.int ((nI st) + 1))], [], wd (vPart C1 v x (V2.2.2.1 v).getLast?) Y og)) rfl ?_
            rw [show ((nI st) + 1 : Int32) = nI (st + 1) from nI_add st 1]
            refine ih post (vPart C1 v x (V2.2.2.1 v).getLast?) ht1 k2 nv2 u2 (vtPart V2 v x) no2 (st + 1) hIp hMp (by omega) (fun vr w' hw => hpo vr w' ?_) (by omega)
            obtain ⟨r, hRr, hOr⟩ := hw
            exact ⟨r, Rd_a3 dp v k nv u V no x k2 nv2 u2 V2 no2 r ⟨vsC_ok hI.2.2.2.2.1, hI.2.2.2.2.1.1.2.1, hI.2.2.2.2.2.2.1, hI.2.2.2.2.2.1⟩ hd hM.2.1 hM.2.2.1 (by assumption) hR (vsC_ok hI1.2.2.2.2.1) (by have := hMp.2.1; omega) q4 hv6 (fun w hw => q6.2 w hw) hRr, rdO_T hTp (by omega) q2 hOr⟩
      · skip
        have h_2 : ¬ 0 = 0 := fun z => h_2 ((nI_eq (show 0 < 2 ^ 31 by omega) (show 0 < 2 ^ 31 by omega)).mpr z)
        refine am_steps_r ok_R_readArray 1 (q' := (102, [some (.ref 16), some (.int (nI v)), some (.int (nI dp)), some (.int (nI st))], [.int (-1)], wd C Y og)) rfl ?_
        refine am_iret_r ok_R_readArray rfl rfl rfl ?_
        exfalso; omega
set_option maxHeartbeats 2000000 in
set_option maxRecDepth 100000 in
theorem c_R_readArray (d : Nat) (Y : wd_Y) (og : Nat → Int64) (n : Nat) (b : Nat → Int32) (nv0 dp : Nat) (hd : dp < 8) (hfm : fm = .null ∨ fm = .ref 3000) (IH : ∀ (C : wd_C) (ht : Nat → Nat) (k nv u : Nat) (V : VT) (no : Int32), rdI C n b nv0 ht k nv u V no → am_Mt l D cA ad fm (d + 9) m_R_readValue [.ref 16, .int (nI (dp + 1))] (wd C Y og) (rdP n b C Y og nv0 (dp + 1) none ht k nv u V no)) (C : wd_C) (ht : Nat → Nat) (k nv u : Nat) (V : VT) (no : Int32) (hI : rdI C n b nv0 ht k nv u V no) (h3 : nv < 300) (hlt : skW n b k < n) (hb1 : b (skW n b k) = 91) : am_Mt l D cA ad fm (d + 10) m_R_readArray [.ref 16, .int (nI nv), .int (nI dp)] (wd (vAdd (upd C.1 4 (nI (skW n b k)), C.2) nv u) Y og) (rdP n b C Y og nv0 dp none ht k nv u V no) := by
  have hT0 := hI.1
  have hn := hT0.2.1
  have hkn := hI.2.2.2.2.2.1
  have hsk := skW_le n b hkn
  refine am_mt ok_R_readArray (by simp [am_arg, Value.category, m_R_readArray, am_ml]) ?_
  refine am_eq_r (q' := (0, [some (.ref 16), some (.int (nI nv)), some (.int (nI dp)), none], [], wd (vAdd (upd C.1 4 (nI (skW n b k)), C.2) nv u) Y og)) rfl ?_
  refine am_steps_r ok_R_readArray 5 (q' := (8, [some (.ref 16), some (.int (nI nv)), some (.int (nI dp)), none], [.long 0, .int 6, .int (nI nv), .ref 3], wd (vAdd (upd C.1 4 (nI (skW n b k)), C.2) nv u) Y og)) rfl ?_
  refine am_callV_r (As := [.int (nI nv), .int 6, .long 0]) (rest := []) ok_R_readArray rfl rfl ok_V_setKind oi_V_setKind lk_1_155 (Or.inl ⟨_, _, _, rfl, rfl, rfl⟩) rfl rfl (Nat.le_of_ble_eq_true rfl) (c_V_setKind _ (vAdd (upd C.1 4 (nI (skW n b k)), C.2) nv u) Y og (nv + 1) u (vsC_add (C := (upd C.1 4 (nI (skW n b k)), C.2)) hI.2.2.2.2.1 h3).1 nv (by omega) 6 0) ?_
  rintro v_ w_ ⟨rfl, rfl⟩ -
  refine am_eq_r (q' := (11, [some (.ref 16), some (.int (nI nv)), some (.int (nI dp)), none], [], wd (vKind (vAdd (upd C.1 4 (nI (skW n b k)), C.2) nv u) nv 6 0) Y og)) rfl ?_
  refine am_steps_r ok_R_readArray 8 (q' := (23, [some (.ref 16), some (.int (nI nv)), some (.int (nI dp)), some (.int 0)], [], wd (upd ((vKind (vAdd (upd C.1 4 (nI (skW n b k)), C.2) nv u) nv 6 0).1) 4 (((vKind (vAdd (upd C.1 4 (nI (skW n b k)), C.2) nv u) nv 6 0).1 4) + 1), (vKind (vAdd (upd C.1 4 (nI (skW n b k)), C.2) nv u) nv 6 0).2) Y og)) rfl ?_
  rw [show ((vKind (vAdd (upd C.1 4 (nI (skW n b k)), C.2) nv u) nv 6 0).1 4 : Int32) = nI (skW n b k) from rfl]
  rw [show ((nI (skW n b k)) + 1 : Int32) = nI ((skW n b k) + 1) from nI_add (skW n b k) 1]
  obtain ⟨hIo, hTo, hMo⟩ := rdT_open hI h3 (nI (skW n b k)) 6 (by simp) hd (k1 := skW n b k + 1) (by omega) (by omega)
  refine am_eq_r (q' := (23, [some (.ref 16), some (.int (nI nv)), some (.int (nI dp)), some (.int (nI 0))], [], wd (upd ((vKind (vAdd (upd C.1 4 (nI (skW n b k)), C.2) nv u) nv 6 0).1) 4 (nI ((skW n b k) + 1)), (vKind (vAdd (upd C.1 4 (nI (skW n b k)), C.2) nv u) nv 6 0).2) Y og)) rfl ?_
  refine lp_R_readArray_23 d Y og n b nv0 dp hd hfm IH nv 2000 _ (upd ((vKind (vAdd (upd C.1 4 (nI (skW n b k)), C.2) nv u) nv 6 0).1) 4 (nI ((skW n b k) + 1)), (vKind (vAdd (upd C.1 4 (nI (skW n b k)), C.2) nv u) nv 6 0).2) (va_up ht nv (8 - dp)) (skW n b k + 1) (nv + 1) u (vtLeaf V nv 6 0 []) no 0 hIo hMo (by omega) (fun vr w' hw => ?_) (by omega)
  obtain ⟨r, hRr, hOr⟩ := hw
  exact ⟨r, Rd_v3 dp k nv u V no r ⟨vsC_ok hI.2.2.2.2.1, hI.2.2.2.2.1.1.2.1, hI.2.2.2.2.2.2.1, hI.2.2.2.2.2.1⟩ h3 hd hlt hb1 hRr, rdO_open hTo hMo.2.2.2.1 (by omega) hOr⟩
set_option maxHeartbeats 2000000 in
set_option maxRecDepth 100000 in
theorem c_R_beginKey_i (d : Nat) (C : wd_C) (Y : wd_Y) (og : Nat → Int64) (n : Nat) (b : Nat → Int32) (hT : tpC C n b) (nv u : Nat) (V : VT) (hS : vsC C nv u V) (h3 : nv < 300) (k : Nat) (ha : C.1 4 = nI k) (hk : k ≤ n) : am_Mt l D cA ad fm (d + 1) m_R_beginKey [.ref 16] (wd C Y og) (fun vr w' => (n ≤ k ∧ vr = some (.int (-1)) ∧ w' = wd (upd (upd C.1 5 1) 6 (nI k), C.2) Y og) ∨ (k < n ∧ ¬ b k = 47 ∧ vr = some (.int (-1)) ∧ w' = wd (upd (upd C.1 5 7) 6 (nI k), C.2) Y og) ∨ (k < n ∧ b k = 47 ∧ nv = 300 ∧ vr = some (.int (-1)) ∧ w' = wd (upd (upd C.1 5 6) 6 (nI k), C.2) Y og) ∨ (k < n ∧ b k = 47 ∧ nv < 300 ∧ vr = some (.int (nI nv)) ∧ w' = wd (vAdd C nv u) Y og)) := by
  have hn := hT.2.1
  have hnv := hS.1.2.1
  refine am_mt ok_R_beginKey (by simp [am_arg, Value.category, m_R_beginKey, am_ml]) ?_
  refine am_eq_r (q' := (0, [some (.ref 16), none], [], wd C Y og)) rfl ?_
  refine am_steps_r ok_R_beginKey 4 (q' := (8, [some (.ref 16), none], [.ref 1, .int (C.1 4)], wd C Y og)) rfl ?_
  rw [show (C.1 4 : Int32) = nI k from ha]
  refine am_callV_r (As := []) (rest := [.int (nI k)]) ok_R_beginKey rfl rfl ok_T_size oi_T_size lk_1_62 (Or.inl ⟨_, _, _, rfl, rfl, rfl⟩) rfl rfl (Nat.le_of_ble_eq_true rfl) (c_T_size _ C Y og n b hT) ?_
  rintro v_ w_ ⟨rfl, rfl⟩ -
  refine am_eq_r (q' := (11, [some (.ref 16), none], [.int (nI n), .int (nI k)], wd C Y og)) rfl ?_
  refine am_steps_r ok_R_beginKey 1 (q' := (bif decide ((nI k) < (nI n)) then 24 else 14, [some (.ref 16), none], [], wd C Y og)) rfl ?_
  refine am_br_r (fun h_2 => ?_) (fun h_2 => ?_)
  · skip
    have h_2 : k < n := (nI_ltI (show k < 2 ^ 31 by omega) (show n < 2 ^ 31 by omega)).mp h_2
    refine am_steps_r ok_R_beginKey 4 (q' := (32, [some (.ref 16), none], [.int (C.1 4), .ref 1], wd C Y og)) rfl ?_
    rw [show (C.1 4 : Int32) = nI k from ha]
    refine am_callV_r (As := [.int (nI k)]) (rest := []) ok_R_beginKey rfl rfl ok_T_at oi_T_at lk_1_125 (Or.inl ⟨_, _, _, rfl, rfl, rfl⟩) rfl rfl (Nat.le_of_ble_eq_true rfl) (c_T_at _ C Y og n b hT k (by omega)) ?_
    rintro v_ w_ ⟨rfl, rfl⟩ -
    refine am_eq_r (q' := (35, [some (.ref 16), none], [.int (b k)], wd C Y og)) rfl ?_
    refine am_steps_r ok_R_beginKey 2 (q' := (bif decide ((b k) = 47) then 51 else 40, [some (.ref 16), none], [], wd C Y og)) rfl ?_
    refine am_br_r (fun h_4 => ?_) (fun h_4 => ?_)
    · skip
      refine am_steps_r ok_R_beginKey 2 (q' := (55, [some (.ref 16), none], [.ref 3], wd C Y og)) rfl ?_
      refine am_callV_r (As := []) (rest := []) ok_R_beginKey rfl rfl ok_V_add oi_V_add lk_1_134 (Or.inl ⟨_, _, _, rfl, rfl, rfl⟩) rfl rfl (Nat.le_of_ble_eq_true rfl) (c_V_add_in _ C Y og nv u hS.1 h3) ?_
      rintro v_ w_ ⟨rfl, rfl⟩ -
      refine am_eq_r (q' := (58, [some (.ref 16), none], [.int (nI nv)], wd (vAdd C nv u) Y og)) rfl ?_
      refine am_steps_r ok_R_beginKey 4 (q' := (bif decide ((nI nv) = (-1)) then 64 else 77, [some (.ref 16), some (.int (nI nv))], [], wd (vAdd C nv u) Y og)) rfl ?_
      refine am_br_r (fun h_6 => ?_) (fun h_6 => ?_)
      · skip
        exact absurd h_6 (nI_nm (show nv < 2 ^ 31 by omega))
      · skip
        refine am_steps_r ok_R_beginKey 1 (q' := (78, [some (.ref 16), some (.int (nI nv))], [.int (nI nv)], wd (vAdd C nv u) Y og)) rfl ?_
        refine am_iret_r ok_R_beginKey rfl rfl rfl ?_
        exact Or.inr (Or.inr (Or.inr ⟨by omega, by assumption, h3, rfl, rfl⟩))
    · skip
      refine am_steps_r ok_R_beginKey 4 (q' := (47, [some (.ref 16), none], [.int (C.1 4), .int 7, .ref 16], wd C Y og)) rfl ?_
      rw [show (C.1 4 : Int32) = nI k from ha]
      refine am_callV_r (As := [.int 7, .int (nI k)]) (rest := []) ok_R_beginKey rfl rfl ok_R_fail oi_R_fail lk_1_122 (Or.inl ⟨_, _, _, rfl, rfl, rfl⟩) rfl rfl (Nat.le_of_ble_eq_true rfl) (c_R_fail _ C Y og 7 (nI k)) ?_
      rintro v_ w_ ⟨rfl, rfl⟩ -
      refine am_eq_r (q' := (50, [some (.ref 16), none], [.int (-1)], wd (upd (upd C.1 5 7) 6 (nI k), C.2) Y og)) rfl ?_
      refine am_iret_r ok_R_beginKey rfl rfl rfl ?_
      exact Or.inr (Or.inl ⟨by omega, by assumption, rfl, rfl⟩)
  · skip
    have h_2 : ¬ k < n := fun z => h_2 ((nI_ltI (show k < 2 ^ 31 by omega) (show n < 2 ^ 31 by omega)).mpr z)
    refine am_steps_r ok_R_beginKey 4 (q' := (20, [some (.ref 16), none], [.int (C.1 4), .int 1, .ref 16], wd C Y og)) rfl ?_
    rw [show (C.1 4 : Int32) = nI k from ha]
    refine am_callV_r (As := [.int 1, .int (nI k)]) (rest := []) ok_R_beginKey rfl rfl ok_R_fail oi_R_fail lk_1_122 (Or.inl ⟨_, _, _, rfl, rfl, rfl⟩) rfl rfl (Nat.le_of_ble_eq_true rfl) (c_R_fail _ C Y og 1 (nI k)) ?_
    rintro v_ w_ ⟨rfl, rfl⟩ -
    refine am_eq_r (q' := (23, [some (.ref 16), none], [.int (-1)], wd (upd (upd C.1 5 1) 6 (nI k), C.2) Y og)) rfl ?_
    refine am_iret_r ok_R_beginKey rfl rfl rfl ?_
    exact Or.inl ⟨by omega, rfl, rfl⟩
set_option maxHeartbeats 2000000 in
set_option maxRecDepth 100000 in
theorem c_R_beginKey_f (d : Nat) (C : wd_C) (Y : wd_Y) (og : Nat → Int64) (n : Nat) (b : Nat → Int32) (hT : tpC C n b) (nv u : Nat) (V : VT) (hS : vsC C nv u V) (h3 : nv = 300) (k : Nat) (ha : C.1 4 = nI k) (hk : k ≤ n) : am_Mt l D cA ad fm (d + 1) m_R_beginKey [.ref 16] (wd C Y og) (fun vr w' => (n ≤ k ∧ vr = some (.int (-1)) ∧ w' = wd (upd (upd C.1 5 1) 6 (nI k), C.2) Y og) ∨ (k < n ∧ ¬ b k = 47 ∧ vr = some (.int (-1)) ∧ w' = wd (upd (upd C.1 5 7) 6 (nI k), C.2) Y og) ∨ (k < n ∧ b k = 47 ∧ nv = 300 ∧ vr = some (.int (-1)) ∧ w' = wd (upd (upd C.1 5 6) 6 (nI k), C.2) Y og) ∨ (k < n ∧ b k = 47 ∧ nv < 300 ∧ vr = some (.int (nI nv)) ∧ w' = wd (vAdd C nv u) Y og)) := by
  have hn := hT.2.1
  have hnv := hS.1.2.1
  refine am_mt ok_R_beginKey (by simp [am_arg, Value.category, m_R_beginKey, am_ml]) ?_
  refine am_eq_r (q' := (0, [some (.ref 16), none], [], wd C Y og)) rfl ?_
  refine am_steps_r ok_R_beginKey 4 (q' := (8, [some (.ref 16), none], [.ref 1, .int (C.1 4)], wd C Y og)) rfl ?_
  rw [show (C.1 4 : Int32) = nI k from ha]
  refine am_callV_r (As := []) (rest := [.int (nI k)]) ok_R_beginKey rfl rfl ok_T_size oi_T_size lk_1_62 (Or.inl ⟨_, _, _, rfl, rfl, rfl⟩) rfl rfl (Nat.le_of_ble_eq_true rfl) (c_T_size _ C Y og n b hT) ?_
  rintro v_ w_ ⟨rfl, rfl⟩ -
  refine am_eq_r (q' := (11, [some (.ref 16), none], [.int (nI n), .int (nI k)], wd C Y og)) rfl ?_
  refine am_steps_r ok_R_beginKey 1 (q' := (bif decide ((nI k) < (nI n)) then 24 else 14, [some (.ref 16), none], [], wd C Y og)) rfl ?_
  refine am_br_r (fun h_2 => ?_) (fun h_2 => ?_)
  · skip
    have h_2 : k < n := (nI_ltI (show k < 2 ^ 31 by omega) (show n < 2 ^ 31 by omega)).mp h_2
    refine am_steps_r ok_R_beginKey 4 (q' := (32, [some (.ref 16), none], [.int (C.1 4), .ref 1], wd C Y og)) rfl ?_
    rw [show (C.1 4 : Int32) = nI k from ha]
    refine am_callV_r (As := [.int (nI k)]) (rest := []) ok_R_beginKey rfl rfl ok_T_at oi_T_at lk_1_125 (Or.inl ⟨_, _, _, rfl, rfl, rfl⟩) rfl rfl (Nat.le_of_ble_eq_true rfl) (c_T_at _ C Y og n b hT k (by omega)) ?_
    rintro v_ w_ ⟨rfl, rfl⟩ -
    refine am_eq_r (q' := (35, [some (.ref 16), none], [.int (b k)], wd C Y og)) rfl ?_
    refine am_steps_r ok_R_beginKey 2 (q' := (bif decide ((b k) = 47) then 51 else 40, [some (.ref 16), none], [], wd C Y og)) rfl ?_
    refine am_br_r (fun h_4 => ?_) (fun h_4 => ?_)
    · skip
      refine am_steps_r ok_R_beginKey 2 (q' := (55, [some (.ref 16), none], [.ref 3], wd C Y og)) rfl ?_
      refine am_callV_r (As := []) (rest := []) ok_R_beginKey rfl rfl ok_V_add oi_V_add lk_1_134 (Or.inl ⟨_, _, _, rfl, rfl, rfl⟩) rfl rfl (Nat.le_of_ble_eq_true rfl) (c_V_add_full _ C Y og nv u hS.1 h3) ?_
      rintro v_ w_ ⟨rfl, rfl⟩ -
      refine am_eq_r (q' := (58, [some (.ref 16), none], [.int (-1)], wd C Y og)) rfl ?_
      refine am_steps_r ok_R_beginKey 8 (q' := (71, [some (.ref 16), some (.int (-1))], [.int (C.1 4), .int 6, .ref 16], wd C Y og)) rfl ?_
      rw [show (C.1 4 : Int32) = nI k from ha]
      refine am_callV_r (As := [.int 6, .int (nI k)]) (rest := []) ok_R_beginKey rfl rfl ok_R_fail oi_R_fail lk_1_122 (Or.inl ⟨_, _, _, rfl, rfl, rfl⟩) rfl rfl (Nat.le_of_ble_eq_true rfl) (c_R_fail _ C Y og 6 (nI k)) ?_
      rintro v_ w_ ⟨rfl, rfl⟩ -
      refine am_eq_r (q' := (74, [some (.ref 16), some (.int (-1))], [.int (-1)], wd (upd (upd C.1 5 6) 6 (nI k), C.2) Y og)) rfl ?_
      refine am_steps_r ok_R_beginKey 1 (q' := (78, [some (.ref 16), some (.int (-1))], [.int (-1)], wd (upd (upd C.1 5 6) 6 (nI k), C.2) Y og)) rfl ?_
      refine am_iret_r ok_R_beginKey rfl rfl rfl ?_
      exact Or.inr (Or.inr (Or.inl ⟨by omega, by assumption, h3, rfl, rfl⟩))
    · skip
      refine am_steps_r ok_R_beginKey 4 (q' := (47, [some (.ref 16), none], [.int (C.1 4), .int 7, .ref 16], wd C Y og)) rfl ?_
      rw [show (C.1 4 : Int32) = nI k from ha]
      refine am_callV_r (As := [.int 7, .int (nI k)]) (rest := []) ok_R_beginKey rfl rfl ok_R_fail oi_R_fail lk_1_122 (Or.inl ⟨_, _, _, rfl, rfl, rfl⟩) rfl rfl (Nat.le_of_ble_eq_true rfl) (c_R_fail _ C Y og 7 (nI k)) ?_
      rintro v_ w_ ⟨rfl, rfl⟩ -
      refine am_eq_r (q' := (50, [some (.ref 16), none], [.int (-1)], wd (upd (upd C.1 5 7) 6 (nI k), C.2) Y og)) rfl ?_
      refine am_iret_r ok_R_beginKey rfl rfl rfl ?_
      exact Or.inr (Or.inl ⟨by omega, by assumption, rfl, rfl⟩)
  · skip
    have h_2 : ¬ k < n := fun z => h_2 ((nI_ltI (show k < 2 ^ 31 by omega) (show n < 2 ^ 31 by omega)).mpr z)
    refine am_steps_r ok_R_beginKey 4 (q' := (20, [some (.ref 16), none], [.int (C.1 4), .int 1, .ref 16], wd C Y og)) rfl ?_
    rw [show (C.1 4 : Int32) = nI k from ha]
    refine am_callV_r (As := [.int 1, .int (nI k)]) (rest := []) ok_R_beginKey rfl rfl ok_R_fail oi_R_fail lk_1_122 (Or.inl ⟨_, _, _, rfl, rfl, rfl⟩) rfl rfl (Nat.le_of_ble_eq_true rfl) (c_R_fail _ C Y og 1 (nI k)) ?_
    rintro v_ w_ ⟨rfl, rfl⟩ -
    refine am_eq_r (q' := (23, [some (.ref 16), none], [.int (-1)], wd (upd (upd C.1 5 1) 6 (nI k), C.2) Y og)) rfl ?_
    refine am_iret_r ok_R_beginKey rfl rfl rfl ?_
    exact Or.inl ⟨by omega, rfl, rfl⟩
theorem c_R_beginKey (d : Nat) (C : wd_C) (Y : wd_Y) (og : Nat → Int64) (n : Nat) (b : Nat → Int32) (hT : tpC C n b) (nv u : Nat) (V : VT) (hS : vsC C nv u V) (k : Nat) (ha : C.1 4 = nI k) (hk : k ≤ n) : am_Mt l D cA ad fm (d + 1) m_R_beginKey [.ref 16] (wd C Y og) (fun vr w' => (n ≤ k ∧ vr = some (.int (-1)) ∧ w' = wd (upd (upd C.1 5 1) 6 (nI k), C.2) Y og) ∨ (k < n ∧ ¬ b k = 47 ∧ vr = some (.int (-1)) ∧ w' = wd (upd (upd C.1 5 7) 6 (nI k), C.2) Y og) ∨ (k < n ∧ b k = 47 ∧ nv = 300 ∧ vr = some (.int (-1)) ∧ w' = wd (upd (upd C.1 5 6) 6 (nI k), C.2) Y og) ∨ (k < n ∧ b k = 47 ∧ nv < 300 ∧ vr = some (.int (nI nv)) ∧ w' = wd (vAdd C nv u) Y og)) := by
  rcases Nat.lt_or_ge nv 300 with h3 | h3
  · exact c_R_beginKey_i d C Y og n b hT nv u V hS h3 k ha hk
  · exact c_R_beginKey_f d C Y og n b hT nv u V hS (by have := hS.1.2.1; omega) k ha hk
set_option maxHeartbeats 2000000 in
set_option maxRecDepth 100000 in
theorem lp_R_readDictionary_23 (d : Nat) (Y : wd_Y) (og : Nat → Int64) (n : Nat) (b : Nat → Int32) (nv0 dp : Nat) (hd : dp < 8) (hfm : fm = .null ∨ fm = .ref 3000) (IH : ∀ (C : wd_C) (ht : Nat → Nat) (k nv u : Nat) (V : VT) (no : Int32), rdI C n b nv0 ht k nv u V no → am_Mt l D cA ad fm (d + 9) m_R_readValue [.ref 16, .int (nI (dp + 1))] (wd C Y og) (rdP n b C Y og nv0 (dp + 1) none ht k nv u V no)) (v : Nat)  : ∀ (fu : Nat) (post : Option Value → am_W → Prop) (C : wd_C) (ht : Nat → Nat) (k : Nat) (nv : Nat) (u : Nat) (V : VT) (no : Int32) (st : Nat), (rdI C n b nv0 ht k nv u V no) → (rdM C nv0 ht nv V dp v 7) → (st < k) → (∀ vr w', rdP n b C Y og nv0 dp (some (v, true)) ht k nv u V no vr w' → post vr w') → n - k < fu → am_Rn l D cA ad fm (d + 10) m_R_readDictionary (wd C Y og).length post (23, [some (.ref 16), some (.int (nI v)), some (.int (nI dp)), some (.int (nI st)), none, none], [], wd C Y og) := by
  intro fu
  induction fu with
  | zero => intro post C ht k nv u V no st hI hM hst hpo hfu; exact absurd hfu (Nat.not_lt_zero _)
  | succ fu ih =>
    intro post C ht k nv u V no st hI hM hst hpo hfu
    have hT := hI.1
    have hn := hT.2.1
    have hkn := hI.2.2.2.2.2.1
    have huk := hI.2.2.2.2.2.2.1
    have hn0 := hI.2.2.2.2.2.2.2.1
    have hnv := hI.2.2.2.2.1.1.2.1
    have hvv := hM.2.1
    refine am_steps_r ok_R_readDictionary 3 (q' := (bif decide (1600 < (nI st)) then 150 else 30, [some (.ref 16), some (.int (nI v)), some (.int (nI dp)), some (.int (nI st)), none, none], [], wd C Y og)) rfl ?_
    refine am_br_r (fun h_1 => ?_) (fun h_1 => ?_)
    · skip
      have h_1 : 1600 < st := (nI_ltI (show 1600 < 2 ^ 31 by omega) (show st < 2 ^ 31 by omega)).mp h_1
      refine am_steps_r ok_R_readDictionary 1 (q' := (151, [some (.ref 16), some (.int (nI v)), some (.int (nI dp)), some (.int (nI st)), none, none], [.int (-1)], wd C Y og)) rfl ?_
      refine am_iret_r ok_R_readDictionary rfl rfl rfl ?_
      exfalso; omega
    · skip
      have h_1 : ¬ 1600 < st := fun z => h_1 ((nI_ltI (show 1600 < 2 ^ 31 by omega) (show st < 2 ^ 31 by omega)).mpr z)
      refine am_steps_r ok_R_readDictionary 3 (q' := (bif decide ((C.1 5) = 0) then 37 else 150, [some (.ref 16), some (.int (nI v)), some (.int (nI dp)), some (.int (nI st)), none, none], [], wd C Y og)) rfl ?_
      rw [show (C.1 5 : Int32) = nI 0 from hI.2.2.1.1]
      refine am_br_r (fun h_2 => ?_) (fun h_2 => ?_)
      · skip
        have h_2 : 0 = 0 := (nI_eq (show 0 < 2 ^ 31 by omega) (show 0 < 2 ^ 31 by omega)).mp h_2
        refine am_steps_r ok_R_readDictionary 5 (q' := (46, [some (.ref 16), some (.int (nI v)), some (.int (nI dp)), some (.int (nI st)), none, none], [.int (C.1 4), .ref 1, .ref 16], wd C Y og)) rfl ?_
        rw [show (C.1 4 : Int32) = nI k from hI.2.1]
        have w_3 := skW_le n b (k := k) (by omega)
        refine am_callV_r (As := [.int (nI k)]) (rest := [.ref 16]) ok_R_readDictionary rfl rfl ok_T_behindWhite oi_T_behindWhite lk_1_56 (Or.inl ⟨_, _, _, rfl, rfl, rfl⟩) rfl rfl (Nat.le_of_ble_eq_true rfl) (c_T_behindWhite _ C Y og n b hT k (by omega)) ?_
        rintro v_ w_ ⟨rfl, rfl⟩ -
        refine am_eq_r (q' := (49, [some (.ref 16), some (.int (nI v)), some (.int (nI dp)), some (.int (nI st)), none, none], [.int (nI (skW n b k)), .ref 16], wd C Y og)) rfl ?_
        refine am_steps_r ok_R_readDictionary 6 (q' := (62, [some (.ref 16), some (.int (nI v)), some (.int (nI dp)), some (.int (nI st)), none, none], [.ref 1002, .int (nI (skW n b k)), .ref 1], wd (upd C.1 4 (nI (skW n b k)), C.2) Y og)) rfl ?_
        refine am_callV_r (As := [.int (nI (skW n b k)), .ref 1002]) (rest := []) ok_R_readDictionary rfl rfl ok_T_textStands oi_T_textStands lk_1_164 (Or.inl ⟨_, _, _, rfl, rfl, rfl⟩) rfl rfl (Nat.le_of_ble_eq_true rfl) (c_T_textStands _ (upd C.1 4 (nI (skW n b k)), C.2) Y og n b hT 2 _ _ _ st_2 rfl (by decide) hfm (skW n b k) (by omega)) ?_
        rintro v_ w_ ⟨rfl, rfl⟩ -
        refine am_eq_r (q' := (65, [some (.ref 16), some (.int (nI v)), some (.int (nI dp)), some (.int (nI st)), none, none], [.int (bz (txA b st_2 (skW n b k)))], wd (upd C.1 4 (nI (skW n b k)), C.2) Y og)) rfl ?_
        refine am_steps_r ok_R_readDictionary 1 (q' := (bif decide ((bz (txA b st_2 (skW n b k))) = 0) then 80 else 68, [some (.ref 16), some (.int (nI v)), some (.int (nI dp)), some (.int (nI st)), none, none], [], wd (upd C.1 4 (nI (skW n b k)), C.2) Y og)) rfl ?_
        refine am_bz_r (fun h_6 => ?_) (fun h_6 => ?_)
        · skip
          refine am_steps_r ok_R_readDictionary 7 (q' := (79, [some (.ref 16), some (.int (nI v)), some (.int (nI dp)), some (.int (nI st)), none, none], [.int (nI v)], wd (upd C.1 4 ((nI (skW n b k)) + 2), C.2) Y og)) rfl ?_
          rw [show ((nI (skW n b k)) + 2 : Int32) = nI ((skW n b k) + 2) from nI_add (skW n b k) 2]
          refine am_iret_r ok_R_readDictionary rfl rfl rfl ?_
          obtain ⟨t1, t2⟩ := tx62.mp (show txA b st_2 (skW n b k) = true by assumption)
          have hlt : skW n b k + 1 < n := by rcases Nat.lt_or_ge (skW n b k + 1) n with g | g; exact g; rw [hT.2.2.2 _ g] at t2; exact absurd t2 (by decide)
          refine hpo _ _ ⟨.inr (v, skW n b k + 2, nv, u, V, no), Rd_d1 dp v k nv u V no ⟨vsC_ok hI.2.2.2.2.1, hI.2.2.2.2.1.1.2.1, hI.2.2.2.2.2.2.1, hI.2.2.2.2.2.1⟩ hd hM.2.1 hM.2.2.1 hlt t1 t2, ?_⟩
          exact ⟨rfl, _, rfl, rfl, hI.2.2.1, hI.2.2.2.1, fC_rf _ _, hI.2.2.2.2.1, by omega, by omega, Nat.le_refl _, Nat.le_refl _, by omega, hM.2.1, fun _ _ hy => hy, fun _ _ => rfl, vbe_rf _ _, ht, fun _ _ => rfl, hI.2.2.2.2.2.2.2.2, rfl⟩
        · skip
          have htx : txA b st_2 (skW n b k) = false := h_6
          refine am_steps_r ok_R_readDictionary 1 (q' := (81, [some (.ref 16), some (.int (nI v)), some (.int (nI dp)), some (.int (nI st)), none, none], [.ref 16], wd (upd C.1 4 (nI (skW n b k)), C.2) Y og)) rfl ?_
          refine am_callV_r (As := []) (rest := []) ok_R_readDictionary rfl rfl ok_R_beginKey oi_R_beginKey lk_1_167 (Or.inl ⟨_, _, _, rfl, rfl, rfl⟩) rfl rfl (Nat.le_of_ble_eq_true rfl) (c_R_beginKey _ (upd C.1 4 (nI (skW n b k)), C.2) Y og n b hT nv u V hI.2.2.2.2.1 (skW n b k) rfl (by omega)) ?_
          rintro v_ w_ (⟨h_a, rfl, rfl⟩ | ⟨h_a, h_b, rfl, rfl⟩ | ⟨h_a, h_b, h_c, rfl, rfl⟩ | ⟨h_a, h_b, h_c, rfl, rfl⟩) -
          · skip
            have hdf : dF n b nv (skW n b k) 1 (skW n b k) := by
              first | exact Or.inl ⟨by omega, rfl, by omega⟩ | exact Or.inr (Or.inl ⟨h_a, h_b, rfl, rfl⟩) | exact Or.inr (Or.inr (Or.inl ⟨h_a, h_b, h_c, rfl, rfl⟩))
            have hO1 : rdO C Y og n nv0 dp (some (v, true)) ht k nv u V (.inl (1, skW n b k, no)) (some (.int (-1))) (wd (upd (upd (upd C.1 4 (nI (skW n b k))) 5 1) 6 (nI (skW n b k)), C.2) Y og) := rdO_f hI _ 1 (by decide) (by omega)
            refine am_eq_r (q' := (84, [some (.ref 16), some (.int (nI v)), some (.int (nI dp)), some (.int (nI st)), none, none], [.int (-1)], wd (upd (upd (upd C.1 4 (nI (skW n b k))) 5 1) 6 (nI (skW n b k)), C.2) Y og)) rfl ?_
            refine am_steps_r ok_R_readDictionary 15 (q' := (23, [some (.ref 16), some (.int (nI v)), some (.int (nI dp)), some (.int ((nI st) + 1)), some (.int (-1)), some (.int (-1))], [], wd (upd (upd (upd C.1 4 (nI (skW n b k))) 5 1) 6 (nI (skW n b k)), C.2) Y og)) rfl ?_
            rw [show ((nI st) + 1 : Int32) = nI (st + 1) from nI_add st 1]
            refine am_steps_r ok_R_readDictionary 3 (q' := (bif decide (1600 < (nI (st + 1))) then 150 else 30, [some (.ref 16), some (.int (nI v)), some (.int (nI dp)), some (.int (nI (st + 1))), some (.int (-1)), some (.int (-1))], [], wd (upd (upd (upd C.1 4 (nI (skW n b k))) 5 1) 6 (nI (skW n b k)), C.2) Y og)) rfl ?_
            refine am_br_r (fun h_7 => ?_) (fun h_7 => ?_)
            · skip
              have h_7 : 1600 < (st + 1) := (nI_ltI (show 1600 < 2 ^ 31 by omega) (show (st + 1) < 2 ^ 31 by omega)).mp h_7
              refine am_steps_r ok_R_readDictionary 1 (q' := (151, [some (.ref 16), some (.int (nI v)), some (.int (nI dp)), some (.int (nI (st + 1))), some (.int (-1)), some (.int (-1))], [.int (-1)], wd (upd (upd (upd C.1 4 (nI (skW n b k))) 5 1) 6 (nI (skW n b k)), C.2) Y og)) rfl ?_
              refine am_iret_r ok_R_readDictionary rfl rfl rfl ?_
              exact hpo _ _ ⟨.inl (1, (skW n b k), no), Rd_d2 dp v k nv u V no 1 (skW n b k) ⟨vsC_ok hI.2.2.2.2.1, hI.2.2.2.2.1.1.2.1, hI.2.2.2.2.2.2.1, hI.2.2.2.2.2.1⟩ hd hM.2.1 hM.2.2.1 (fun z => by rw [tx62.mpr z] at htx; cases htx) hdf, hO1⟩
            · skip
              have h_7 : ¬ 1600 < (st + 1) := fun z => h_7 ((nI_ltI (show 1600 < 2 ^ 31 by omega) (show (st + 1) < 2 ^ 31 by omega)).mpr z)
              refine am_steps_r ok_R_readDictionary 4 (q' := (151, [some (.ref 16), some (.int (nI v)), some (.int (nI dp)), some (.int (nI (st + 1))), some (.int (-1)), some (.int (-1))], [.int (-1)], wd (upd (upd (upd C.1 4 (nI (skW n b k))) 5 1) 6 (nI (skW n b k)), C.2) Y og)) rfl ?_
              refine am_iret_r ok_R_readDictionary rfl rfl rfl ?_
              exact hpo _ _ ⟨.inl (1, (skW n b k), no), Rd_d2 dp v k nv u V no 1 (skW n b k) ⟨vsC_ok hI.2.2.2.2.1, hI.2.2.2.2.1.1.2.1, hI.2.2.2.2.2.2.1, hI.2.2.2.2.2.1⟩ hd hM.2.1 hM.2.2.1 (fun z => by rw [tx62.mpr z] at htx; cases htx) hdf, hO1⟩
          · skip
            have hdf : dF n b nv (skW n b k) 7 (skW n b k) := by
              first | exact Or.inl ⟨by omega, rfl, by omega⟩ | exact Or.inr (Or.inl ⟨h_a, h_b, rfl, rfl⟩) | exact Or.inr (Or.inr (Or.inl ⟨h_a, h_b, h_c, rfl, rfl⟩))
            have hO1 : rdO C Y og n nv0 dp (some (v, true)) ht k nv u V (.inl (7, skW n b k, no)) (some (.int (-1))) (wd (upd (upd (upd C.1 4 (nI (skW n b k))) 5 7) 6 (nI (skW n b k)), C.2) Y og) := rdO_f hI _ 7 (by decide) (by omega)
            refine am_eq_r (q' := (84, [some (.ref 16), some (.int (nI v)), some (.int (nI dp)), some (.int (nI st)), none, none], [.int (-1)], wd (upd (upd (upd C.1 4 (nI (skW n b k))) 5 7) 6 (nI (skW n b k)), C.2) Y og)) rfl ?_
            refine am_steps_r ok_R_readDictionary 15 (q' := (23, [some (.ref 16), some (.int (nI v)), some (.int (nI dp)), some (.int ((nI st) + 1)), some (.int (-1)), some (.int (-1))], [], wd (upd (upd (upd C.1 4 (nI (skW n b k))) 5 7) 6 (nI (skW n b k)), C.2) Y og)) rfl ?_
            rw [show ((nI st) + 1 : Int32) = nI (st + 1) from nI_add st 1]
            refine am_steps_r ok_R_readDictionary 3 (q' := (bif decide (1600 < (nI (st + 1))) then 150 else 30, [some (.ref 16), some (.int (nI v)), some (.int (nI dp)), some (.int (nI (st + 1))), some (.int (-1)), some (.int (-1))], [], wd (upd (upd (upd C.1 4 (nI (skW n b k))) 5 7) 6 (nI (skW n b k)), C.2) Y og)) rfl ?_
            refine am_br_r (fun h_8 => ?_) (fun h_8 => ?_)
            · skip
              have h_8 : 1600 < (st + 1) := (nI_ltI (show 1600 < 2 ^ 31 by omega) (show (st + 1) < 2 ^ 31 by omega)).mp h_8
              refine am_steps_r ok_R_readDictionary 1 (q' := (151, [some (.ref 16), some (.int (nI v)), some (.int (nI dp)), some (.int (nI (st + 1))), some (.int (-1)), some (.int (-1))], [.int (-1)], wd (upd (upd (upd C.1 4 (nI (skW n b k))) 5 7) 6 (nI (skW n b k)), C.2) Y og)) rfl ?_
              refine am_iret_r ok_R_readDictionary rfl rfl rfl ?_
              exact hpo _ _ ⟨.inl (7, (skW n b k), no), Rd_d2 dp v k nv u V no 7 (skW n b k) ⟨vsC_ok hI.2.2.2.2.1, hI.2.2.2.2.1.1.2.1, hI.2.2.2.2.2.2.1, hI.2.2.2.2.2.1⟩ hd hM.2.1 hM.2.2.1 (fun z => by rw [tx62.mpr z] at htx; cases htx) hdf, hO1⟩
            · skip
              have h_8 : ¬ 1600 < (st + 1) := fun z => h_8 ((nI_ltI (show 1600 < 2 ^ 31 by omega) (show (st + 1) < 2 ^ 31 by omega)).mpr z)
              refine am_steps_r ok_R_readDictionary 4 (q' := (151, [some (.ref 16), some (.int (nI v)), some (.int (nI dp)), some (.int (nI (st + 1))), some (.int (-1)), some (.int (-1))], [.int (-1)], wd (upd (upd (upd C.1 4 (nI (skW n b k))) 5 7) 6 (nI (skW n b k)), C.2) Y og)) rfl ?_
              refine am_iret_r ok_R_readDictionary rfl rfl rfl ?_
              exact hpo _ _ ⟨.inl (7, (skW n b k), no), Rd_d2 dp v k nv u V no 7 (skW n b k) ⟨vsC_ok hI.2.2.2.2.1, hI.2.2.2.2.1.1.2.1, hI.2.2.2.2.2.2.1, hI.2.2.2.2.2.1⟩ hd hM.2.1 hM.2.2.1 (fun z => by rw [tx62.mpr z] at htx; cases htx) hdf, hO1⟩
          · skip
            have hdf : dF n b nv (skW n b k) 6 (skW n b k) := by
              first | exact Or.inl ⟨by omega, rfl, by omega⟩ | exact Or.inr (Or.inl ⟨h_a, h_b, rfl, rfl⟩) | exact Or.inr (Or.inr (Or.inl ⟨h_a, h_b, h_c, rfl, rfl⟩))
            have hO1 : rdO C Y og n nv0 dp (some (v, true)) ht k nv u V (.inl (6, skW n b k, no)) (some (.int (-1))) (wd (upd (upd (upd C.1 4 (nI (skW n b k))) 5 6) 6 (nI (skW n b k)), C.2) Y og) := rdO_f hI _ 6 (by decide) (by omega)
            refine am_eq_r (q' := (84, [some (.ref 16), some (.int (nI v)), some (.int (nI dp)), some (.int (nI st)), none, none], [.int (-1)], wd (upd (upd (upd C.1 4 (nI (skW n b k))) 5 6) 6 (nI (skW n b k)), C.2) Y og)) rfl ?_
            refine am_steps_r ok_R_readDictionary 15 (q' := (23, [some (.ref 16), some (.int (nI v)), some (.int (nI dp)), some (.int ((nI st) + 1)), some (.int (-1)), some (.int (-1))], [], wd (upd (upd (upd C.1 4 (nI (skW n b k))) 5 6) 6 (nI (skW n b k)), C.2) Y og)) rfl ?_
            rw [show ((nI st) + 1 : Int32) = nI (st + 1) from nI_add st 1]
            refine am_steps_r ok_R_readDictionary 3 (q' := (bif decide (1600 < (nI (st + 1))) then 150 else 30, [some (.ref 16), some (.int (nI v)), some (.int (nI dp)), some (.int (nI (st + 1))), some (.int (-1)), some (.int (-1))], [], wd (upd (upd (upd C.1 4 (nI (skW n b k))) 5 6) 6 (nI (skW n b k)), C.2) Y og)) rfl ?_
            refine am_br_r (fun h_9 => ?_) (fun h_9 => ?_)
            · skip
              have h_9 : 1600 < (st + 1) := (nI_ltI (show 1600 < 2 ^ 31 by omega) (show (st + 1) < 2 ^ 31 by omega)).mp h_9
              refine am_steps_r ok_R_readDictionary 1 (q' := (151, [some (.ref 16), some (.int (nI v)), some (.int (nI dp)), some (.int (nI (st + 1))), some (.int (-1)), some (.int (-1))], [.int (-1)], wd (upd (upd (upd C.1 4 (nI (skW n b k))) 5 6) 6 (nI (skW n b k)), C.2) Y og)) rfl ?_
              refine am_iret_r ok_R_readDictionary rfl rfl rfl ?_
              exact hpo _ _ ⟨.inl (6, (skW n b k), no), Rd_d2 dp v k nv u V no 6 (skW n b k) ⟨vsC_ok hI.2.2.2.2.1, hI.2.2.2.2.1.1.2.1, hI.2.2.2.2.2.2.1, hI.2.2.2.2.2.1⟩ hd hM.2.1 hM.2.2.1 (fun z => by rw [tx62.mpr z] at htx; cases htx) hdf, hO1⟩
            · skip
              have h_9 : ¬ 1600 < (st + 1) := fun z => h_9 ((nI_ltI (show 1600 < 2 ^ 31 by omega) (show (st + 1) < 2 ^ 31 by omega)).mpr z)
              refine am_steps_r ok_R_readDictionary 4 (q' := (151, [some (.ref 16), some (.int (nI v)), some (.int (nI dp)), some (.int (nI (st + 1))), some (.int (-1)), some (.int (-1))], [.int (-1)], wd (upd (upd (upd C.1 4 (nI (skW n b k))) 5 6) 6 (nI (skW n b k)), C.2) Y og)) rfl ?_
              refine am_iret_r ok_R_readDictionary rfl rfl rfl ?_
              exact hpo _ _ ⟨.inl (6, (skW n b k), no), Rd_d2 dp v k nv u V no 6 (skW n b k) ⟨vsC_ok hI.2.2.2.2.1, hI.2.2.2.2.1.1.2.1, hI.2.2.2.2.2.2.1, hI.2.2.2.2.2.1⟩ hd hM.2.1 hM.2.2.1 (fun z => by rw [tx62.mpr z] at htx; cases htx) hdf, hO1⟩
          · skip
            refine am_eq_r (q' := (84, [some (.ref 16), some (.int (nI v)), some (.int (nI dp)), some (.int (nI st)), none, none], [.int (nI nv)], wd (vAdd (upd C.1 4 (nI (skW n b k)), C.2) nv u) Y og)) rfl ?_
            refine am_steps_r ok_R_readDictionary 4 (q' := (bif decide ((nI nv) = (-1)) then 100 else 92, [some (.ref 16), some (.int (nI v)), some (.int (nI dp)), some (.int (nI st)), some (.int (nI nv)), none], [], wd (vAdd (upd C.1 4 (nI (skW n b k)), C.2) nv u) Y og)) rfl ?_
            refine am_br_r (fun h_10 => ?_) (fun h_10 => ?_)
            · skip
              exact absurd h_10 (nI_nm (show nv < 2 ^ 31 by omega))
            · skip
              refine am_steps_r ok_R_readDictionary 2 (q' := (95, [some (.ref 16), some (.int (nI v)), some (.int (nI dp)), some (.int (nI st)), some (.int (nI nv)), none], [.int (nI nv), .ref 16], wd (vAdd (upd C.1 4 (nI (skW n b k)), C.2) nv u) Y og)) rfl ?_
              have hLs : lfC (vAdd (upd C.1 4 (nI (skW n b k)), C.2) nv u) (vAdd (upd C.1 4 (nI (skW n b k)), C.2) nv u) nv u V 0 0 [] := ⟨vsC_add (C := (upd C.1 4 (nI (skW n b k)), C.2)) hI.2.2.2.2.1 h_c, vcu_add, fC_rf _ _, rfl, ⟨rfl, rfl⟩, rfl⟩
              refine am_callV_r (As := [.int (nI nv)]) (rest := []) ok_R_readDictionary rfl rfl ok_R_readName oi_R_readName lk_1_143 (Or.inl ⟨_, _, _, rfl, rfl, rfl⟩) rfl rfl (Nat.le_of_ble_eq_true rfl) (c_R_readName _ (vAdd (upd C.1 4 (nI (skW n b k)), C.2) nv u) Y og n b hT nv u V hLs (skW n b k) rfl h_a (by omega)) ?_
              rintro v_ w_ hLf -
              have elf : lfR n b (skW n b k) = nmL (skW n b k) (nmR b (wEnd n b (skW n b k + 1)) 2000 (skW n b k + 1) []) := by rw [lfR, if_pos h_b]
              rw [← elf] at hLf
              rcases hlr : lfR n b (skW n b k) with ⟨c, p⟩ | ⟨kd, nu, acc, k1, bit⟩
              · rw [hlr] at hLf
                obtain ⟨rfl, C1, rfl, f5, f6, f7, ff, kd9, nu9, acc9, g9⟩ := hLf
                have hbd := lfR_bd hT.2.2.2 h_a (by rw [h_b]; decide) (by rw [isCn, h_b]; rintro (z | z); exact absurd z (by decide); exact absurd z.1 (by decide))
                rw [hlr] at hbd
                have fc := hbd.1
                have hdf : dF n b nv (skW n b k) c p := Or.inr (Or.inr (Or.inr ⟨h_a, h_b, h_c, hlr⟩))
                have hf0 : fC C C1 nv0 := fC_tr (fC_add C nv u nv0 hn0 (nI (skW n b k))) (show fC (upd (vAdd C nv u).1 4 (nI (skW n b k)), (vAdd C nv u).2) C1 nv from ff) hn0
                have hO1 : rdO C Y og n nv0 dp (some (v, true)) ht k nv u V (.inl (c, p, no)) (some (.int (-1))) (wd C1 Y og) := ⟨rfl, C1, rfl, f5, hbd.1, f6, hbd.2, f7.trans hI.2.2.2.1, hf0, nv + 1, u + acc9.length, _, by omega, by omega, g9, fun w hw => vbe_leaf nv V kd9 nu9 acc9 w (by omega)⟩
                have hT := tpC_f hI.1 hf0
                refine am_eq_r (q' := (98, [some (.ref 16), some (.int (nI v)), some (.int (nI dp)), some (.int (nI st)), some (.int (nI nv)), none], [.int (-1)], wd C1 Y og)) rfl ?_
                refine am_steps_r ok_R_readDictionary 12 (q' := (23, [some (.ref 16), some (.int (nI v)), some (.int (nI dp)), some (.int ((nI st) + 1)), some (.int (-1)), some (.int (-1))], [], wd C1 Y og)) rfl ?_
                rw [show ((nI st) + 1 : Int32) = nI (st + 1) from nI_add st 1]
                refine am_steps_r ok_R_readDictionary 3 (q' := (bif decide (1600 < (nI (st + 1))) then 150 else 30, [some (.ref 16), some (.int (nI v)), some (.int (nI dp)), some (.int (nI (st + 1))), some (.int (-1)), some (.int (-1))], [], wd C1 Y og)) rfl ?_
                refine am_br_r (fun h_11 => ?_) (fun h_11 => ?_)
                · skip
                  have h_11 : 1600 < (st + 1) := (nI_ltI (show 1600 < 2 ^ 31 by omega) (show (st + 1) < 2 ^ 31 by omega)).mp h_11
                  refine am_steps_r ok_R_readDictionary 1 (q' := (151, [some (.ref 16), some (.int (nI v)), some (.int (nI dp)), some (.int (nI (st + 1))), some (.int (-1)), some (.int (-1))], [.int (-1)], wd C1 Y og)) rfl ?_
                  refine am_iret_r ok_R_readDictionary rfl rfl rfl ?_
                  exact hpo _ _ ⟨.inl (c, p, no), Rd_d2 dp v k nv u V no c p ⟨vsC_ok hI.2.2.2.2.1, hI.2.2.2.2.1.1.2.1, hI.2.2.2.2.2.2.1, hI.2.2.2.2.2.1⟩ hd hM.2.1 hM.2.2.1 (fun z => by rw [tx62.mpr z] at htx; cases htx) hdf, hO1⟩
                · skip
                  have h_11 : ¬ 1600 < (st + 1) := fun z => h_11 ((nI_ltI (show 1600 < 2 ^ 31 by omega) (show (st + 1) < 2 ^ 31 by omega)).mpr z)
                  refine am_steps_r ok_R_readDictionary 3 (q' := (bif decide ((C1.1 5) = 0) then 37 else 150, [some (.ref 16), some (.int (nI v)), some (.int (nI dp)), some (.int (nI (st + 1))), some (.int (-1)), some (.int (-1))], [], wd C1 Y og)) rfl ?_
                  refine am_br_r (fun h_12 => ?_) (fun h_12 => ?_)
                  · skip
                    exact absurd (f5.symm.trans h_12) fc
                  · skip
                    refine am_steps_r ok_R_readDictionary 1 (q' := (151, [some (.ref 16), some (.int (nI v)), some (.int (nI dp)), some (.int (nI (st + 1))), some (.int (-1)), some (.int (-1))], [.int (-1)], wd C1 Y og)) rfl ?_
                    refine am_iret_r ok_R_readDictionary rfl rfl rfl ?_
                    exact hpo _ _ ⟨.inl (c, p, no), Rd_d2 dp v k nv u V no c p ⟨vsC_ok hI.2.2.2.2.1, hI.2.2.2.2.1.1.2.1, hI.2.2.2.2.2.2.1, hI.2.2.2.2.2.1⟩ hd hM.2.1 hM.2.2.1 (fun z => by rw [tx62.mpr z] at htx; cases htx) hdf, hO1⟩
              · rw [hlr] at hLf
                obtain ⟨rfl, C2, rfl, hIk, hTk, hfk, hk4, hkk⟩ := rd_key hI h_a h_b rfl hlr hLf
                have hT := hIk.1
                have hk1n := hIk.2.2.2.2.2.1
                have huk1 := hIk.2.2.2.2.2.2.1
                refine am_eq_r (q' := (98, [some (.ref 16), some (.int (nI v)), some (.int (nI dp)), some (.int (nI st)), some (.int (nI nv)), none], [.int (nI nv)], wd C2 Y og)) rfl ?_
                refine am_steps_r ok_R_readDictionary 4 (q' := (bif decide ((nI nv) = (-1)) then 106 else 110, [some (.ref 16), some (.int (nI v)), some (.int (nI dp)), some (.int (nI st)), some (.int (nI nv)), none], [], wd C2 Y og)) rfl ?_
                refine am_br_r (fun h_13 => ?_) (fun h_13 => ?_)
                · skip
                  exact absurd h_13 (nI_nm (show nv < 2 ^ 31 by omega))
                · skip
                  refine am_steps_r ok_R_readDictionary 4 (q' := (114, [some (.ref 16), some (.int (nI v)), some (.int (nI dp)), some (.int (nI st)), some (.int (nI nv)), none], [.int ((nI dp) + 1), .ref 16], wd C2 Y og)) rfl ?_
                  rw [show ((nI dp) + 1 : Int32) = nI (dp + 1) from nI_add dp 1]
                  refine am_callV_r (As := [.int (nI (dp + 1))]) (rest := []) ok_R_readDictionary rfl rfl ok_R_readValue oi_R_readValue lk_1_104 (Or.inl ⟨_, _, _, rfl, rfl, rfl⟩) rfl rfl (Nat.le_of_ble_eq_true rfl) (IH C2 (va_up ht nv 0) k1 (nv + 1) (u + acc.length) (vtLeaf V nv kd nu acc) (no ||| bit) hIk) ?_
                  rintro v_ w_ ⟨r_, hR, hO⟩ -
                  rcases r_ with ⟨c, p, no1⟩ | ⟨x, k2, nv2, u2, V2, no2⟩
                  · have hO1 := hO
                    obtain ⟨rfl, C1, rfl, f5, fc, f6, fp, f7, ff, nv9, u9, V9, g1, g2, g3, g4⟩ := hO
                    have hT := tpC_f hT ff
                    refine am_eq_r (q' := (117, [some (.ref 16), some (.int (nI v)), some (.int (nI dp)), some (.int (nI st)), some (.int (nI nv)), none], [.int (-1)], wd C1 Y og)) rfl ?_
                    refine am_steps_r ok_R_readDictionary 6 (q' := (23, [some (.ref 16), some (.int (nI v)), some (.int (nI dp)), some (.int ((nI st) + 1)), some (.int (nI nv)), some (.int (-1))], [], wd C1 Y og)) rfl ?_
                    rw [show ((nI st) + 1 : Int32) = nI (st + 1) from nI_add st 1]
                    refine am_steps_r ok_R_readDictionary 3 (q' := (bif decide (1600 < (nI (st + 1))) then 150 else 30, [some (.ref 16), some (.int (nI v)), some (.int (nI dp)), some (.int (nI (st + 1))), some (.int (nI nv)), some (.int (-1))], [], wd C1 Y og)) rfl ?_
                    refine am_br_r (fun h_14 => ?_) (fun h_14 => ?_)
                    · skip
                      have h_14 : 1600 < (st + 1) := (nI_ltI (show 1600 < 2 ^ 31 by omega) (show (st + 1) < 2 ^ 31 by omega)).mp h_14
                      refine am_steps_r ok_R_readDictionary 1 (q' := (151, [some (.ref 16), some (.int (nI v)), some (.int (nI dp)), some (.int (nI (st + 1))), some (.int (nI nv)), some (.int (-1))], [.int (-1)], wd C1 Y og)) rfl ?_
                      refine am_iret_r ok_R_readDictionary rfl rfl rfl ?_
                      exact hpo _ _ ⟨.inl (c, p, no1), Rd_d3 dp v k nv u V no kd nu acc k1 bit (c, p, no1) ⟨vsC_ok hI.2.2.2.2.1, hI.2.2.2.2.1.1.2.1, hI.2.2.2.2.2.2.1, hI.2.2.2.2.2.1⟩ hd hM.2.1 hM.2.2.1 h_c h_a h_b hlr hR, rdO_bad hTk (by omega) hO1⟩
                    · skip
                      have h_14 : ¬ 1600 < (st + 1) := fun z => h_14 ((nI_ltI (show 1600 < 2 ^ 31 by omega) (show (st + 1) < 2 ^ 31 by omega)).mpr z)
                      refine am_steps_r ok_R_readDictionary 3 (q' := (bif decide ((C1.1 5) = 0) then 37 else 150, [some (.ref 16), some (.int (nI v)), some (.int (nI dp)), some (.int (nI (st + 1))), some (.int (nI nv)), some (.int (-1))], [], wd C1 Y og)) rfl ?_
                      refine am_br_r (fun h_15 => ?_) (fun h_15 => ?_)
                      · skip
                        exact absurd (f5.symm.trans h_15) fc
                      · skip
                        refine am_steps_r ok_R_readDictionary 1 (q' := (151, [some (.ref 16), some (.int (nI v)), some (.int (nI dp)), some (.int (nI (st + 1))), some (.int (nI nv)), some (.int (-1))], [.int (-1)], wd C1 Y og)) rfl ?_
                        refine am_iret_r ok_R_readDictionary rfl rfl rfl ?_
                        exact hpo _ _ ⟨.inl (c, p, no1), Rd_d3 dp v k nv u V no kd nu acc k1 bit (c, p, no1) ⟨vsC_ok hI.2.2.2.2.1, hI.2.2.2.2.1.1.2.1, hI.2.2.2.2.2.2.1, hI.2.2.2.2.2.1⟩ hd hM.2.1 hM.2.2.1 h_c h_a h_b hlr hR, rdO_bad hTk (by omega) hO1⟩
                  · obtain ⟨rfl, C1, ht1, rfl, hI1, hT1, q1, q2, q3, q4, q5, q6⟩ := rdO_ok hIk.1 (by omega) hO
                    have hT := hI1.1
                    have hn2 := hI1.2.2.2.2.1.1.2.1
                    have hk2n := hI1.2.2.2.2.2.1
                    refine am_eq_r (q' := (117, [some (.ref 16), some (.int (nI v)), some (.int (nI dp)), some (.int (nI st)), some (.int (nI nv)), none], [.int (nI x)], wd C1 Y og)) rfl ?_
                    refine am_steps_r ok_R_readDictionary 4 (q' := (bif decide ((nI x) = (-1)) then 144 else 125, [some (.ref 16), some (.int (nI v)), some (.int (nI dp)), some (.int (nI st)), some (.int (nI nv)), some (.int (nI x))], [], wd C1 Y og)) rfl ?_
                    refine am_br_r (fun h_16 => ?_) (fun h_16 => ?_)
                    · skip
                      exact absurd h_16 (nI_nm (show x < 2 ^ 31 by omega))
                    · skip
                      refine am_steps_r ok_R_readDictionary 8 (q' := (138, [some (.ref 16), some (.int (nI v)), some (.int (nI dp)), some (.int (nI st)), some (.int (nI nv)), some (.int (nI x))], [.int (nI nv), .int (nI v), .ref 3, .int (nI x), .int (nI nv), .int (nI v), .ref 16], wd C1 Y og)) rfl ?_
                      have hMk := rdM_T (rdT_tr hTk hT1) hM
                      refine am_callV_r (As := [.int (nI v), .int (nI nv)]) (rest := [.int (nI x), .int (nI nv), .int (nI v), .ref 16]) ok_R_readDictionary rfl rfl ok_V_keyLike oi_V_keyLike lk_1_170 (Or.inl ⟨_, _, _, rfl, rfl, rfl⟩) rfl rfl (Nat.le_of_ble_eq_true rfl) (c_V_keyLike _ C1 Y og nv2 u2 V2 hI1.2.2.2.2.1 v nv hMk.2.1 (by omega) hMk.2.2.1) ?_
                      rintro v_ w_ ⟨rfl, rfl⟩ -
                      rcases hfd : vtFnd V2 v nv with _ | t
                      · skip
                        refine am_eq_r (q' := (141, [some (.ref 16), some (.int (nI v)), some (.int (nI dp)), some (.int (nI st)), some (.int (nI nv)), some (.int (nI x))], [.int (-1), .int (nI x), .int (nI nv), .int (nI v), .ref 16], wd C1 Y og)) rfl ?_
                        have hkk4 : V2.1 nv = 4 := by rw [hT1.2.2.2.1 nv (by omega)]; simp [vtLeaf, upd, hk4]
                        have hkh : ht1 nv = 0 := by rw [hT1.2.2.2.2.2 nv (by omega), up_at]
                        refine am_callV_r (As := [.int (nI v), .int (nI nv), .int (nI x), .int (-1)]) (rest := []) ok_R_readDictionary rfl rfl ok_R_enter oi_R_enter lk_1_173 (Or.inl ⟨_, _, _, rfl, rfl, rfl⟩) rfl rfl (Nat.le_of_ble_eq_true rfl) (c_R_enter_n _ C1 Y og nv2 u2 V2 hI1.2.2.2.2.1 v nv x hMk.2.1 (by omega) q4 (by omega) hMk.2.2.1 (hT1.2.2.1 nv (by omega) hfk) q6 hfd) ?_
                        rintro v_ w_ ⟨rfl, C3, rfl, j1, j7, ja, jS, jf⟩ -
                        obtain ⟨hIe, hTe, hMe⟩ := rd_ent (rdT_tr hTk hT1) hI1 hM (by omega) hkk4 hkh (by omega) q4 q5 j1 j7 ja jS jf
                        have hT := hIe.1
                        refine am_eq_r (q' := (144, [some (.ref 16), some (.int (nI v)), some (.int (nI dp)), some (.int (nI st)), some (.int (nI nv)), some (.int (nI x))], [], wd C3 Y og)) rfl ?_
                        refine am_steps_r ok_R_readDictionary 2 (q' := (23, [some (.ref 16), some (.int (nI v)), some (.int (nI dp)), some (.int ((nI st) + 1)), some (.int (nI nv)), some (.int (nI x))], [], wd C3 Y og)) rfl ?_
                        rw [show ((nI st) + 1 : Int32) = nI (st + 1) from nI_add st 1]
                        refine am_drop_r [4, 5] (L' := [some (.ref 16), some (.int (nI v)), some (.int (nI dp)), some (.int (nI (st + 1))), none, none]) rfl ?_
                        refine ih post C3 ht1 k2 nv2 u2 (vtEnt V2 v nv x) _ (st + 1) hIe hMe (by omega) (fun vr w' hw => hpo vr w' ?_) (by omega)
                        obtain ⟨r, hRr, hOr⟩ := hw
                        obtain ⟨s1, s2, s3, s4, s5, s6, s8, s7⟩ := hI1.2.2.2.2.1.2.1 v hMk.2.1
                        obtain ⟨mm, hmm⟩ := hld_even (s7.1 hMk.2.2.1).2.2
                        rw [hI1.2.2.2.1] at hRr
                        exact ⟨r, Rd_d4 dp v k nv u V no kd nu acc k1 bit x k2 nv2 u2 V2 no2 mm r ⟨vsC_ok hI.2.2.2.2.1, hI.2.2.2.2.1.1.2.1, hI.2.2.2.2.2.2.1, hI.2.2.2.2.2.1⟩ hd hM.2.1 hM.2.2.1 h_c h_a h_b hlr hR (vsC_ok hI1.2.2.2.2.1) (by omega) (by omega) q4 hMk.2.2.1 hmm (fun w hw => (hT1.2.2.1 nv (by omega) hfk).2 w hw) (fun w hw => q6.2 w hw) (by rw [hfd]; exact hRr), rdO_T hTe (by omega) (by omega) hOr⟩
                      · skip
                        refine am_eq_r (q' := (141, [some (.ref 16), some (.int (nI v)), some (.int (nI dp)), some (.int (nI st)), some (.int (nI nv)), some (.int (nI x))], [.int (nI t), .int (nI x), .int (nI nv), .int (nI v), .ref 16], wd C1 Y og)) rfl ?_
                        have hkk4 : V2.1 nv = 4 := by rw [hT1.2.2.2.1 nv (by omega)]; simp [vtLeaf, upd, hk4]
                        have hkh : ht1 nv = 0 := by rw [hT1.2.2.2.2.2 nv (by omega), up_at]
                        refine am_callV_r (As := [.int (nI v), .int (nI nv), .int (nI x), .int (nI t)]) (rest := []) ok_R_readDictionary rfl rfl ok_R_enter oi_R_enter lk_1_173 (Or.inl ⟨_, _, _, rfl, rfl, rfl⟩) rfl rfl (Nat.le_of_ble_eq_true rfl) (c_R_enter_s _ C1 Y og nv2 u2 V2 hI1.2.2.2.2.1 v nv x hMk.2.1 (by omega) q4 (by omega) hMk.2.2.1 (hT1.2.2.1 nv (by omega) hfk) q6 t hfd) ?_
                        rintro v_ w_ ⟨rfl, C3, rfl, j1, j7, ja, jS, jf⟩ -
                        obtain ⟨hIe, hTe, hMe⟩ := rd_ent (rdT_tr hTk hT1) hI1 hM (by omega) hkk4 hkh (by omega) q4 q5 j1 j7 ja jS jf
                        have hT := hIe.1
                        refine am_eq_r (q' := (144, [some (.ref 16), some (.int (nI v)), some (.int (nI dp)), some (.int (nI st)), some (.int (nI nv)), some (.int (nI x))], [], wd C3 Y og)) rfl ?_
                        refine am_steps_r ok_R_readDictionary 2 (q' := (23, [some (.ref 16), some (.int (nI v)), some (.int (nI dp)), some (.int ((nI st) + 1)), some (.int (nI nv)), some (.int (nI x))], [], wd C3 Y og)) rfl ?_
                        rw [show ((nI st) + 1 : Int32) = nI (st + 1) from nI_add st 1]
                        refine am_drop_r [4, 5] (L' := [some (.ref 16), some (.int (nI v)), some (.int (nI dp)), some (.int (nI (st + 1))), none, none]) rfl ?_
                        refine ih post C3 ht1 k2 nv2 u2 (vtEnt V2 v nv x) _ (st + 1) hIe hMe (by omega) (fun vr w' hw => hpo vr w' ?_) (by omega)
                        obtain ⟨r, hRr, hOr⟩ := hw
                        obtain ⟨s1, s2, s3, s4, s5, s6, s8, s7⟩ := hI1.2.2.2.2.1.2.1 v hMk.2.1
                        obtain ⟨mm, hmm⟩ := hld_even (s7.1 hMk.2.2.1).2.2
                        rw [hI1.2.2.2.1] at hRr
                        exact ⟨r, Rd_d4 dp v k nv u V no kd nu acc k1 bit x k2 nv2 u2 V2 no2 mm r ⟨vsC_ok hI.2.2.2.2.1, hI.2.2.2.2.1.1.2.1, hI.2.2.2.2.2.2.1, hI.2.2.2.2.2.1⟩ hd hM.2.1 hM.2.2.1 h_c h_a h_b hlr hR (vsC_ok hI1.2.2.2.2.1) (by omega) (by omega) q4 hMk.2.2.1 hmm (fun w hw => (hT1.2.2.1 nv (by omega) hfk).2 w hw) (fun w hw => q6.2 w hw) (by rw [hfd]; exact hRr), rdO_T hTe (by omega) (by omega) hOr⟩
      · skip
        have h_2 : ¬ 0 = 0 := fun z => h_2 ((nI_eq (show 0 < 2 ^ 31 by omega) (show 0 < 2 ^ 31 by omega)).mpr z)
        refine am_steps_r ok_R_readDictionary 1 (q' := (151, [some (.ref 16), some (.int (nI v)), some (.int (nI dp)), some (.int (nI st)), none, none], [.int (-1)], wd C Y og)) rfl ?_
        refine am_iret_r ok_R_readDictionary rfl rfl rfl ?_
        exfalso; omega
set_option maxHeartbeats 2000000 in
set_option maxRecDepth 100000 in
theorem c_R_readDictionary (d : Nat) (Y : wd_Y) (og : Nat → Int64) (n : Nat) (b : Nat → Int32) (nv0 dp : Nat) (hd : dp < 8) (hfm : fm = .null ∨ fm = .ref 3000) (IH : ∀ (C : wd_C) (ht : Nat → Nat) (k nv u : Nat) (V : VT) (no : Int32), rdI C n b nv0 ht k nv u V no → am_Mt l D cA ad fm (d + 9) m_R_readValue [.ref 16, .int (nI (dp + 1))] (wd C Y og) (rdP n b C Y og nv0 (dp + 1) none ht k nv u V no)) (C : wd_C) (ht : Nat → Nat) (k nv u : Nat) (V : VT) (no : Int32) (hI : rdI C n b nv0 ht k nv u V no) (h3 : nv < 300) (hlt : skW n b k + 1 < n) (hb1 : b (skW n b k) = 60) (hb2 : b (skW n b k + 1) = 60) : am_Mt l D cA ad fm (d + 10) m_R_readDictionary [.ref 16, .int (nI nv), .int (nI dp)] (wd (vAdd (upd C.1 4 (nI (skW n b k)), C.2) nv u) Y og) (rdP n b C Y og nv0 dp none ht k nv u V no) := by
  have hT0 := hI.1
  have hn := hT0.2.1
  have hkn := hI.2.2.2.2.2.1
  have hsk := skW_le n b hkn
  refine am_mt ok_R_readDictionary (by simp [am_arg, Value.category, m_R_readDictionary, am_ml]) ?_
  refine am_eq_r (q' := (0, [some (.ref 16), some (.int (nI nv)), some (.int (nI dp)), none, none, none], [], wd (vAdd (upd C.1 4 (nI (skW n b k)), C.2) nv u) Y og)) rfl ?_
  refine am_steps_r ok_R_readDictionary 5 (q' := (8, [some (.ref 16), some (.int (nI nv)), some (.int (nI dp)), none, none, none], [.long 0, .int 7, .int (nI nv), .ref 3], wd (vAdd (upd C.1 4 (nI (skW n b k)), C.2) nv u) Y og)) rfl ?_
  refine am_callV_r (As := [.int (nI nv), .int 7, .long 0]) (rest := []) ok_R_readDictionary rfl rfl ok_V_setKind oi_V_setKind lk_1_155 (Or.inl ⟨_, _, _, rfl, rfl, rfl⟩) rfl rfl (Nat.le_of_ble_eq_true rfl) (c_V_setKind _ (vAdd (upd C.1 4 (nI (skW n b k)), C.2) nv u) Y og (nv + 1) u (vsC_add (C := (upd C.1 4 (nI (skW n b k)), C.2)) hI.2.2.2.2.1 h3).1 nv (by omega) 7 0) ?_
  rintro v_ w_ ⟨rfl, rfl⟩ -
  refine am_eq_r (q' := (11, [some (.ref 16), some (.int (nI nv)), some (.int (nI dp)), none, none, none], [], wd (vKind (vAdd (upd C.1 4 (nI (skW n b k)), C.2) nv u) nv 7 0) Y og)) rfl ?_
  refine am_steps_r ok_R_readDictionary 8 (q' := (23, [some (.ref 16), some (.int (nI nv)), some (.int (nI dp)), some (.int 0), none, none], [], wd (upd ((vKind (vAdd (upd C.1 4 (nI (skW n b k)), C.2) nv u) nv 7 0).1) 4 (((vKind (vAdd (upd C.1 4 (nI (skW n b k)), C.2) nv u) nv 7 0).1 4) + 2), (vKind (vAdd (upd C.1 4 (nI (skW n b k)), C.2) nv u) nv 7 0).2) Y og)) rfl ?_
  rw [show ((vKind (vAdd (upd C.1 4 (nI (skW n b k)), C.2) nv u) nv 7 0).1 4 : Int32) = nI (skW n b k) from rfl]
  rw [show ((nI (skW n b k)) + 2 : Int32) = nI ((skW n b k) + 2) from nI_add (skW n b k) 2]
  obtain ⟨hIo, hTo, hMo⟩ := rdT_open hI h3 (nI (skW n b k)) 7 (by simp) hd (k1 := skW n b k + 2) (by omega) (by omega)
  refine am_eq_r (q' := (23, [some (.ref 16), some (.int (nI nv)), some (.int (nI dp)), some (.int (nI 0)), none, none], [], wd (upd ((vKind (vAdd (upd C.1 4 (nI (skW n b k)), C.2) nv u) nv 7 0).1) 4 (nI ((skW n b k) + 2)), (vKind (vAdd (upd C.1 4 (nI (skW n b k)), C.2) nv u) nv 7 0).2) Y og)) rfl ?_
  refine lp_R_readDictionary_23 d Y og n b nv0 dp hd hfm IH nv 2000 _ (upd ((vKind (vAdd (upd C.1 4 (nI (skW n b k)), C.2) nv u) nv 7 0).1) 4 (nI ((skW n b k) + 2)), (vKind (vAdd (upd C.1 4 (nI (skW n b k)), C.2) nv u) nv 7 0).2) (va_up ht nv (8 - dp)) (skW n b k + 2) (nv + 1) u (vtLeaf V nv 7 0 []) no 0 hIo hMo (by omega) (fun vr w' hw => ?_) (by omega)
  obtain ⟨r, hRr, hOr⟩ := hw
  exact ⟨r, Rd_v4 dp k nv u V no r ⟨vsC_ok hI.2.2.2.2.1, hI.2.2.2.2.1.1.2.1, hI.2.2.2.2.2.2.1, hI.2.2.2.2.2.1⟩ h3 hd hlt hb1 hb2 hRr, rdO_open hTo hMo.2.2.2.1 (by omega) hOr⟩
end C61
