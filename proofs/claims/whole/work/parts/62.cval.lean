/-! the component reads a value; printed by wip/gen/g62.py -/
section C62
variable {l : Launch} {D : va_G} {cA : Nat → ClassId} {ad : Nat → Nat} {fm : Value}
set_option maxHeartbeats 2000000 in
set_option maxRecDepth 100000 in
theorem c_R_beginsValue (d : Nat) (C : wd_C) (Y : wd_Y) (og : Nat → Int64) (c : Int32) : am_Mt l D cA ad fm (d + 5) m_R_beginsValue [.int c] (wd C Y og) (fun v w' => v = some (.int (bz (bgV c))) ∧ w' = wd C Y og) := by
  refine am_mt ok_R_beginsValue (by simp [am_arg, Value.category, m_R_beginsValue, am_ml]) ?_
  refine am_eq_r (q' := (0, [some (.int c)], [], wd C Y og)) rfl ?_
  refine am_steps_r ok_R_beginsValue 1 (q' := (1, [some (.int c)], [.int c], wd C Y og)) rfl ?_
  refine am_callN_r (As := [.int c]) (rest := []) ok_R_beginsValue rfl rfl ok_S_isRegular os_S_isRegular ln_1_127 rfl rfl (Nat.le_of_ble_eq_true rfl) (c_S_isRegular _ C Y og c) ?_
  rintro v_ w_ ⟨rfl, rfl⟩ -
  refine am_eq_r (q' := (4, [some (.int c)], [.int (bz (isReg c))], wd C Y og)) rfl ?_
  refine am_steps_r ok_R_beginsValue 1 (q' := (bif decide ((bz (isReg c)) = 0) then 7 else 31, [some (.int c)], [], wd C Y og)) rfl ?_
  refine am_bz_r (fun h_2 => ?_) (fun h_2 => ?_)
  · skip
    refine am_steps_r ok_R_beginsValue 2 (q' := (36, [some (.int c)], [.int 1], wd C Y og)) rfl ?_
    refine am_zret_r ok_R_beginsValue rfl rfl rfl rfl ?_
    refine ⟨?_, rfl⟩
    simp_all [bgV, bz]
  · skip
    refine am_steps_r ok_R_beginsValue 3 (q' := (bif decide (c = 47) then 31 else 13, [some (.int c)], [], wd C Y og)) rfl ?_
    refine am_br_r (fun h_3 => ?_) (fun h_3 => ?_)
    · skip
      refine am_steps_r ok_R_beginsValue 2 (q' := (36, [some (.int c)], [.int 1], wd C Y og)) rfl ?_
      refine am_zret_r ok_R_beginsValue rfl rfl rfl rfl ?_
      refine ⟨?_, rfl⟩
      simp_all [bgV, bz]
    · skip
      refine am_steps_r ok_R_beginsValue 3 (q' := (bif decide (c = 40) then 31 else 19, [some (.int c)], [], wd C Y og)) rfl ?_
      refine am_br_r (fun h_4 => ?_) (fun h_4 => ?_)
      · skip
        refine am_steps_r ok_R_beginsValue 2 (q' := (36, [some (.int c)], [.int 1], wd C Y og)) rfl ?_
        refine am_zret_r ok_R_beginsValue rfl rfl rfl rfl ?_
        refine ⟨?_, rfl⟩
        simp_all [bgV, bz]
      · skip
        refine am_steps_r ok_R_beginsValue 3 (q' := (bif decide (c = 60) then 31 else 25, [some (.int c)], [], wd C Y og)) rfl ?_
        refine am_br_r (fun h_5 => ?_) (fun h_5 => ?_)
        · skip
          refine am_steps_r ok_R_beginsValue 2 (q' := (36, [some (.int c)], [.int 1], wd C Y og)) rfl ?_
          refine am_zret_r ok_R_beginsValue rfl rfl rfl rfl ?_
          refine ⟨?_, rfl⟩
          simp_all [bgV, bz]
        · skip
          refine am_steps_r ok_R_beginsValue 3 (q' := (bif decide (c = 91) then 31 else 35, [some (.int c)], [], wd C Y og)) rfl ?_
          refine am_br_r (fun h_6 => ?_) (fun h_6 => ?_)
          · skip
            refine am_steps_r ok_R_beginsValue 2 (q' := (36, [some (.int c)], [.int 1], wd C Y og)) rfl ?_
            refine am_zret_r ok_R_beginsValue rfl rfl rfl rfl ?_
            refine ⟨?_, rfl⟩
            simp_all [bgV, bz]
          · skip
            refine am_steps_r ok_R_beginsValue 1 (q' := (36, [some (.int c)], [.int 0], wd C Y og)) rfl ?_
            refine am_zret_r ok_R_beginsValue rfl rfl rfl rfl ?_
            refine ⟨?_, rfl⟩
            simp_all [bgV, bz]
set_option maxHeartbeats 2000000 in
set_option maxRecDepth 100000 in
theorem c_R_readValue_i (d : Nat) (Y : wd_Y) (og : Nat → Int64) (n : Nat) (b : Nat → Int32) (nv0 dp : Nat) (hdp : dp ≤ 8) (hfm : fm = .null ∨ fm = .ref 3000) (IH : dp < 8 → ∀ (C : wd_C) (ht : Nat → Nat) (k nv u : Nat) (V : VT) (no : Int32), rdI C n b nv0 ht k nv u V no → am_Mt l D cA ad fm (d + 9) m_R_readValue [.ref 16, .int (nI (dp + 1))] (wd C Y og) (rdP n b C Y og nv0 (dp + 1) none ht k nv u V no)) (C : wd_C) (ht : Nat → Nat) (k nv u : Nat) (V : VT) (no : Int32) (hI : rdI C n b nv0 ht k nv u V no) (h3 : nv < 300) : am_Mt l D cA ad fm (d + 11) m_R_readValue [.ref 16, .int (nI dp)] (wd C Y og) (rdP n b C Y og nv0 dp none ht k nv u V no) := by
  have hT := hI.1
  have hn := hT.2.1
  have hkn := hI.2.2.2.2.2.1
  have huk := hI.2.2.2.2.2.2.1
  have hn0 := hI.2.2.2.2.2.2.2.1
  have hnv := hI.2.2.2.2.1.1.2.1
  have hsk := skW_le n b hkn
  refine am_mt ok_R_readValue (by simp [am_arg, Value.category, m_R_readValue, am_ml]) ?_
  refine am_eq_r (q' := (0, [some (.ref 16), some (.int (nI dp)), none, none, none], [], wd C Y og)) rfl ?_
  refine am_steps_r ok_R_readValue 5 (q' := (9, [some (.ref 16), some (.int (nI dp)), none, none, none], [.int (C.1 4), .ref 1, .ref 16], wd C Y og)) rfl ?_
  rw [show (C.1 4 : Int32) = nI k from hI.2.1]
  have w_1 := skW_le n b (k := k) (by omega)
  refine am_callV_r (As := [.int (nI k)]) (rest := [.ref 16]) ok_R_readValue rfl rfl ok_T_behindWhite oi_T_behindWhite lk_1_56 (Or.inl ⟨_, _, _, rfl, rfl, rfl⟩) rfl rfl (Nat.le_of_ble_eq_true rfl) (c_T_behindWhite _ C Y og n b hT k (by omega)) ?_
  rintro v_ w_ ⟨rfl, rfl⟩ -
  refine am_eq_r (q' := (12, [some (.ref 16), some (.int (nI dp)), none, none, none], [.int (nI (skW n b k)), .ref 16], wd C Y og)) rfl ?_
  refine am_steps_r ok_R_readValue 5 (q' := (23, [some (.ref 16), some (.int (nI dp)), none, none, none], [.int (nI (skW n b k)), .ref 1], wd (upd C.1 4 (nI (skW n b k)), C.2) Y og)) rfl ?_
  refine am_callV_r (As := [.int (nI (skW n b k))]) (rest := []) ok_R_readValue rfl rfl ok_T_at oi_T_at lk_1_125 (Or.inl ⟨_, _, _, rfl, rfl, rfl⟩) rfl rfl (Nat.le_of_ble_eq_true rfl) (c_T_at _ (upd C.1 4 (nI (skW n b k)), C.2) Y og n b hT (skW n b k) (by omega)) ?_
  rintro v_ w_ ⟨rfl, rfl⟩ -
  refine am_eq_r (q' := (26, [some (.ref 16), some (.int (nI dp)), none, none, none], [.int (b (skW n b k))], wd (upd C.1 4 (nI (skW n b k)), C.2) Y og)) rfl ?_
  refine am_steps_r ok_R_readValue 4 (q' := (bif decide ((b (skW n b k)) = (-1)) then 32 else 42, [some (.ref 16), some (.int (nI dp)), some (.int (b (skW n b k))), none, none], [], wd (upd C.1 4 (nI (skW n b k)), C.2) Y og)) rfl ?_
  refine am_br_r (fun h_4 => ?_) (fun h_4 => ?_)
  · skip
    have hge : skW n b k = n := by rcases Nat.lt_or_ge (skW n b k) n with g | g; (obtain ⟨j, j1, j2⟩ := tpC_B hT g; rw [j2] at h_4; exact absurd h_4 (nI_nm (by omega))); omega
    refine am_steps_r ok_R_readValue 4 (q' := (38, [some (.ref 16), some (.int (nI dp)), some (.int (b (skW n b k))), none, none], [.int (nI (skW n b k)), .int 1, .ref 16], wd (upd C.1 4 (nI (skW n b k)), C.2) Y og)) rfl ?_
    refine am_callV_r (As := [.int 1, .int (nI (skW n b k))]) (rest := []) ok_R_readValue rfl rfl ok_R_fail oi_R_fail lk_1_122 (Or.inl ⟨_, _, _, rfl, rfl, rfl⟩) rfl rfl (Nat.le_of_ble_eq_true rfl) (c_R_fail _ (upd C.1 4 (nI (skW n b k)), C.2) Y og 1 (nI (skW n b k))) ?_
    rintro v_ w_ ⟨rfl, rfl⟩ -
    refine am_eq_r (q' := (41, [some (.ref 16), some (.int (nI dp)), some (.int (b (skW n b k))), none, none], [.int (-1)], wd (upd (upd (upd C.1 4 (nI (skW n b k))) 5 1) 6 (nI (skW n b k)), C.2) Y og)) rfl ?_
    refine am_iret_r ok_R_readValue rfl rfl rfl ?_
    exact ⟨.inl (1, skW n b k, no), Rd_v1 dp k nv u V no 1 (skW n b k) ⟨vsC_ok hI.2.2.2.2.1, hI.2.2.2.2.1.1.2.1, hI.2.2.2.2.2.2.1, hI.2.2.2.2.2.1⟩ (Or.inl ⟨hge, rfl, hge⟩), rdO_f hI _ 1 (by decide) (by omega)⟩
  · skip
    have hlt : skW n b k < n := by rcases Nat.lt_or_ge (skW n b k) n with g | g; exact g; exact absurd (hT.2.2.2 _ g) h_4
    refine am_steps_r ok_R_readValue 3 (q' := (bif decide ((b (skW n b k)) = 60) then 48 else 70, [some (.ref 16), some (.int (nI dp)), some (.int (b (skW n b k))), none, none], [], wd (upd C.1 4 (nI (skW n b k)), C.2) Y og)) rfl ?_
    refine am_br_r (fun h_6 => ?_) (fun h_6 => ?_)
    · skip
      refine am_steps_r ok_R_readValue 6 (q' := (58, [some (.ref 16), some (.int (nI dp)), some (.int (b (skW n b k))), none, none], [.int ((nI (skW n b k)) + 1), .ref 1], wd (upd C.1 4 (nI (skW n b k)), C.2) Y og)) rfl ?_
      rw [show ((nI (skW n b k)) + 1 : Int32) = nI ((skW n b k) + 1) from nI_add (skW n b k) 1]
      refine am_callV_r (As := [.int (nI ((skW n b k) + 1))]) (rest := []) ok_R_readValue rfl rfl ok_T_at oi_T_at lk_1_125 (Or.inl ⟨_, _, _, rfl, rfl, rfl⟩) rfl rfl (Nat.le_of_ble_eq_true rfl) (c_T_at _ (upd C.1 4 (nI (skW n b k)), C.2) Y og n b hT ((skW n b k) + 1) (by omega)) ?_
      rintro v_ w_ ⟨rfl, rfl⟩ -
      refine am_eq_r (q' := (61, [some (.ref 16), some (.int (nI dp)), some (.int (b (skW n b k))), none, none], [.int (b ((skW n b k) + 1))], wd (upd C.1 4 (nI (skW n b k)), C.2) Y og)) rfl ?_
      refine am_steps_r ok_R_readValue 2 (q' := (bif decide ((b ((skW n b k) + 1)) = 60) then 66 else 70, [some (.ref 16), some (.int (nI dp)), some (.int (b (skW n b k))), none, none], [], wd (upd C.1 4 (nI (skW n b k)), C.2) Y og)) rfl ?_
      refine am_br_r (fun h_8 => ?_) (fun h_8 => ?_)
      · skip
        refine am_steps_r ok_R_readValue 6 (q' := (bif decide ((b (skW n b k)) = 91) then 82 else 78, [some (.ref 16), some (.int (nI dp)), some (.int (b (skW n b k))), some (.int 1), none], [], wd (upd C.1 4 (nI (skW n b k)), C.2) Y og)) rfl ?_
        refine am_br_r (fun h_9 => ?_) (fun h_9 => ?_)
        · skip
          exact absurd ((show (b (skW n b k)) = 60 by assumption).symm.trans (show (b (skW n b k)) = 91 by assumption)) (by decide)
        · skip
          refine am_steps_r ok_R_readValue 5 (q' := (bif decide ((nI dp) < 8) then 98 else 88, [some (.ref 16), some (.int (nI dp)), some (.int (b (skW n b k))), some (.int 1), none], [], wd (upd C.1 4 (nI (skW n b k)), C.2) Y og)) rfl ?_
          refine am_br_r (fun h_10 => ?_) (fun h_10 => ?_)
          · skip
            have h_10 : dp < 8 := (nI_ltI (show dp < 2 ^ 31 by omega) (show 8 < 2 ^ 31 by omega)).mp h_10
            refine am_steps_r ok_R_readValue 1 (q' := (99, [some (.ref 16), some (.int (nI dp)), some (.int (b (skW n b k))), some (.int 1), none], [.int (b (skW n b k))], wd (upd C.1 4 (nI (skW n b k)), C.2) Y og)) rfl ?_
            refine am_callS_r (As := [.int (b (skW n b k))]) (rest := []) ok_R_readValue rfl rfl ok_R_beginsValue os_R_beginsValue lk_1_131 rfl rfl (Nat.le_of_ble_eq_true rfl) (c_R_beginsValue _ (upd C.1 4 (nI (skW n b k)), C.2) Y og (b (skW n b k))) ?_
            rintro v_ w_ ⟨rfl, rfl⟩ -
            refine am_eq_r (q' := (102, [some (.ref 16), some (.int (nI dp)), some (.int (b (skW n b k))), some (.int 1), none], [.int (bz (bgV (b (skW n b k))))], wd (upd C.1 4 (nI (skW n b k)), C.2) Y og)) rfl ?_
            refine am_steps_r ok_R_readValue 1 (q' := (bif decide ((bz (bgV (b (skW n b k)))) = 0) then 105 else 115, [some (.ref 16), some (.int (nI dp)), some (.int (b (skW n b k))), some (.int 1), none], [], wd (upd C.1 4 (nI (skW n b k)), C.2) Y og)) rfl ?_
            refine am_bz_r (fun h_12 => ?_) (fun h_12 => ?_)
            · skip
              have hbg : bgV (b (skW n b k)) = true := h_12
              refine am_steps_r ok_R_readValue 2 (q' := (119, [some (.ref 16), some (.int (nI dp)), some (.int (b (skW n b k))), some (.int 1), none], [.ref 3], wd (upd C.1 4 (nI (skW n b k)), C.2) Y og)) rfl ?_
              refine am_callV_r (As := []) (rest := []) ok_R_readValue rfl rfl ok_V_add oi_V_add lk_1_134 (Or.inl ⟨_, _, _, rfl, rfl, rfl⟩) rfl rfl (Nat.le_of_ble_eq_true rfl) (c_V_add_in _ (upd C.1 4 (nI (skW n b k)), C.2) Y og nv u hI.2.2.2.2.1.1 h3) ?_
              rintro v_ w_ ⟨rfl, rfl⟩ -
              refine am_eq_r (q' := (122, [some (.ref 16), some (.int (nI dp)), some (.int (b (skW n b k))), some (.int 1), none], [.int (nI nv)], wd (vAdd (upd C.1 4 (nI (skW n b k)), C.2) nv u) Y og)) rfl ?_
              refine am_steps_r ok_R_readValue 4 (q' := (bif decide ((nI nv) = (-1)) then 130 else 141, [some (.ref 16), some (.int (nI dp)), some (.int (b (skW n b k))), some (.int 1), some (.int (nI nv))], [], wd (vAdd (upd C.1 4 (nI (skW n b k)), C.2) nv u) Y og)) rfl ?_
              refine am_br_r (fun h_14 => ?_) (fun h_14 => ?_)
              · skip
                exact absurd h_14 (nI_nm (show nv < 2 ^ 31 by omega))
              · skip
                refine am_steps_r ok_R_readValue 5 (q' := (149, [some (.ref 16), some (.int (nI dp)), some (.int (b (skW n b k))), some (.int 1), some (.int (nI nv))], [.int (nI dp), .int (nI nv), .ref 16], wd (vAdd (upd C.1 4 (nI (skW n b k)), C.2) nv u) Y og)) rfl ?_
                have hlt2 : skW n b k + 1 < n := by rcases Nat.lt_or_ge (skW n b k + 1) n with g | g; exact g; exact absurd ((hT.2.2.2 _ g).symm.trans (show b (skW n b k + 1) = 60 by assumption)) (by decide)
                refine am_callV_r (As := [.int (nI nv), .int (nI dp)]) (rest := []) ok_R_readValue rfl rfl ok_R_readDictionary oi_R_readDictionary lk_1_137 (Or.inl ⟨_, _, _, rfl, rfl, rfl⟩) rfl rfl (Nat.le_of_ble_eq_true rfl) (c_R_readDictionary _ Y og n b nv0 dp (by omega) hfm (IH (by omega)) C ht k nv u V no hI h3 hlt2 (by assumption) (by assumption)) ?_
                rintro v_ w_ hres_ -
                have hres := hres_
                obtain ⟨⟨x_, rfl⟩, hlen_⟩ := rdP_int hres
                exact am_iret_r ok_R_readValue rfl rfl hlen_ hres
            · skip
              have hbg : bgV (b (skW n b k)) = false := h_12
              refine am_steps_r ok_R_readValue 4 (q' := (111, [some (.ref 16), some (.int (nI dp)), some (.int (b (skW n b k))), some (.int 1), none], [.int (nI (skW n b k)), .int 2, .ref 16], wd (upd C.1 4 (nI (skW n b k)), C.2) Y og)) rfl ?_
              refine am_callV_r (As := [.int 2, .int (nI (skW n b k))]) (rest := []) ok_R_readValue rfl rfl ok_R_fail oi_R_fail lk_1_122 (Or.inl ⟨_, _, _, rfl, rfl, rfl⟩) rfl rfl (Nat.le_of_ble_eq_true rfl) (c_R_fail _ (upd C.1 4 (nI (skW n b k)), C.2) Y og 2 (nI (skW n b k))) ?_
              rintro v_ w_ ⟨rfl, rfl⟩ -
              refine am_eq_r (q' := (114, [some (.ref 16), some (.int (nI dp)), some (.int (b (skW n b k))), some (.int 1), none], [.int (-1)], wd (upd (upd (upd C.1 4 (nI (skW n b k))) 5 2) 6 (nI (skW n b k)), C.2) Y og)) rfl ?_
              refine am_iret_r ok_R_readValue rfl rfl rfl ?_
              exact ⟨.inl (2, skW n b k, no), Rd_v1 dp k nv u V no 2 (skW n b k) ⟨vsC_ok hI.2.2.2.2.1, hI.2.2.2.2.1.1.2.1, hI.2.2.2.2.2.2.1, hI.2.2.2.2.2.1⟩ (Or.inr (Or.inr (Or.inl ⟨hlt, hbg, rfl, rfl⟩))), rdO_f hI _ 2 (by decide) (by omega)⟩
          · skip
            have h_10 : ¬ dp < 8 := fun z => h_10 ((nI_ltI (show dp < 2 ^ 31 by omega) (show 8 < 2 ^ 31 by omega)).mpr z)
            refine am_steps_r ok_R_readValue 4 (q' := (94, [some (.ref 16), some (.int (nI dp)), some (.int (b (skW n b k))), some (.int 1), none], [.int (nI (skW n b k)), .int 5, .ref 16], wd (upd C.1 4 (nI (skW n b k)), C.2) Y og)) rfl ?_
            refine am_callV_r (As := [.int 5, .int (nI (skW n b k))]) (rest := []) ok_R_readValue rfl rfl ok_R_fail oi_R_fail lk_1_122 (Or.inl ⟨_, _, _, rfl, rfl, rfl⟩) rfl rfl (Nat.le_of_ble_eq_true rfl) (c_R_fail _ (upd C.1 4 (nI (skW n b k)), C.2) Y og 5 (nI (skW n b k))) ?_
            rintro v_ w_ ⟨rfl, rfl⟩ -
            refine am_eq_r (q' := (97, [some (.ref 16), some (.int (nI dp)), some (.int (b (skW n b k))), some (.int 1), none], [.int (-1)], wd (upd (upd (upd C.1 4 (nI (skW n b k))) 5 5) 6 (nI (skW n b k)), C.2) Y og)) rfl ?_
            refine am_iret_r ok_R_readValue rfl rfl rfl ?_
            exact ⟨.inl (5, skW n b k, no), Rd_v1 dp k nv u V no 5 (skW n b k) ⟨vsC_ok hI.2.2.2.2.1, hI.2.2.2.2.1.1.2.1, hI.2.2.2.2.2.2.1, hI.2.2.2.2.2.1⟩ (Or.inr (Or.inl ⟨hlt, by first | exact Or.inl (by assumption) | exact Or.inr ⟨by assumption, by assumption⟩, by omega, rfl, rfl⟩)), rdO_f hI _ 5 (by decide) (by omega)⟩
      · skip
        refine am_steps_r ok_R_readValue 5 (q' := (bif decide ((b (skW n b k)) = 91) then 82 else 78, [some (.ref 16), some (.int (nI dp)), some (.int (b (skW n b k))), some (.int 0), none], [], wd (upd C.1 4 (nI (skW n b k)), C.2) Y og)) rfl ?_
        refine am_br_r (fun h_17 => ?_) (fun h_17 => ?_)
        · skip
          exact absurd ((show (b (skW n b k)) = 60 by assumption).symm.trans (show (b (skW n b k)) = 91 by assumption)) (by decide)
        · skip
          refine am_steps_r ok_R_readValue 3 (q' := (99, [some (.ref 16), some (.int (nI dp)), some (.int (b (skW n b k))), some (.int 0), none], [.int (b (skW n b k))], wd (upd C.1 4 (nI (skW n b k)), C.2) Y og)) rfl ?_
          refine am_callS_r (As := [.int (b (skW n b k))]) (rest := []) ok_R_readValue rfl rfl ok_R_beginsValue os_R_beginsValue lk_1_131 rfl rfl (Nat.le_of_ble_eq_true rfl) (c_R_beginsValue _ (upd C.1 4 (nI (skW n b k)), C.2) Y og (b (skW n b k))) ?_
          rintro v_ w_ ⟨rfl, rfl⟩ -
          refine am_eq_r (q' := (102, [some (.ref 16), some (.int (nI dp)), some (.int (b (skW n b k))), some (.int 0), none], [.int (bz (bgV (b (skW n b k))))], wd (upd C.1 4 (nI (skW n b k)), C.2) Y og)) rfl ?_
          refine am_steps_r ok_R_readValue 1 (q' := (bif decide ((bz (bgV (b (skW n b k)))) = 0) then 105 else 115, [some (.ref 16), some (.int (nI dp)), some (.int (b (skW n b k))), some (.int 0), none], [], wd (upd C.1 4 (nI (skW n b k)), C.2) Y og)) rfl ?_
          refine am_bz_r (fun h_19 => ?_) (fun h_19 => ?_)
          · skip
            have hbg : bgV (b (skW n b k)) = true := h_19
            refine am_steps_r ok_R_readValue 2 (q' := (119, [some (.ref 16), some (.int (nI dp)), some (.int (b (skW n b k))), some (.int 0), none], [.ref 3], wd (upd C.1 4 (nI (skW n b k)), C.2) Y og)) rfl ?_
            refine am_callV_r (As := []) (rest := []) ok_R_readValue rfl rfl ok_V_add oi_V_add lk_1_134 (Or.inl ⟨_, _, _, rfl, rfl, rfl⟩) rfl rfl (Nat.le_of_ble_eq_true rfl) (c_V_add_in _ (upd C.1 4 (nI (skW n b k)), C.2) Y og nv u hI.2.2.2.2.1.1 h3) ?_
            rintro v_ w_ ⟨rfl, rfl⟩ -
            refine am_eq_r (q' := (122, [some (.ref 16), some (.int (nI dp)), some (.int (b (skW n b k))), some (.int 0), none], [.int (nI nv)], wd (vAdd (upd C.1 4 (nI (skW n b k)), C.2) nv u) Y og)) rfl ?_
            refine am_steps_r ok_R_readValue 4 (q' := (bif decide ((nI nv) = (-1)) then 130 else 141, [some (.ref 16), some (.int (nI dp)), some (.int (b (skW n b k))), some (.int 0), some (.int (nI nv))], [], wd (vAdd (upd C.1 4 (nI (skW n b k)), C.2) nv u) Y og)) rfl ?_
            refine am_br_r (fun h_21 => ?_) (fun h_21 => ?_)
            · skip
              exact absurd h_21 (nI_nm (show nv < 2 ^ 31 by omega))
            · skip
              refine am_steps_r ok_R_readValue 3 (q' := (154, [some (.ref 16), some (.int (nI dp)), some (.int (b (skW n b k))), some (.int 0), some (.int (nI nv))], [.int (b (skW n b k))], wd (vAdd (upd C.1 4 (nI (skW n b k)), C.2) nv u) Y og)) rfl ?_
              refine am_steps_r ok_R_readValue 1 (q' := (am_tg 154 (Op.lookupswitch.offset [(40, 57), (47, 50), (60, 64), (91, 42)] 71 (b (skW n b k)).toInt), [some (.ref 16), some (.int (nI dp)), some (.int (b (skW n b k))), some (.int 0), some (.int (nI nv))], [], wd (vAdd (upd C.1 4 (nI (skW n b k)), C.2) nv u) Y og)) rfl ?_
              refine am_sw_r (K := 40) (by decide) (fun h_22 => ?_) (fun h_22 => ?_)
              · skip
                refine am_eq_r (q' := (211, [some (.ref 16), some (.int (nI dp)), some (.int (b (skW n b k))), some (.int 0), some (.int (nI nv))], [], wd (vAdd (upd C.1 4 (nI (skW n b k)), C.2) nv u) Y og)) rfl ?_
                exact absurd ((show (b (skW n b k)) = 60 by assumption).symm.trans h_22) (by decide)
              · skip
                refine am_sw_r (K := 47) (by decide) (fun h_23 => ?_) (fun h_23 => ?_)
                · skip
                  refine am_eq_r (q' := (204, [some (.ref 16), some (.int (nI dp)), some (.int (b (skW n b k))), some (.int 0), some (.int (nI nv))], [], wd (vAdd (upd C.1 4 (nI (skW n b k)), C.2) nv u) Y og)) rfl ?_
                  exact absurd ((show (b (skW n b k)) = 60 by assumption).symm.trans h_23) (by decide)
                · skip
                  refine am_sw_r (K := 60) (by decide) (fun h_24 => ?_) (fun h_24 => ?_)
                  · skip
                    refine am_eq_r (q' := (218, [some (.ref 16), some (.int (nI dp)), some (.int (b (skW n b k))), some (.int 0), some (.int (nI nv))], [], wd (vAdd (upd C.1 4 (nI (skW n b k)), C.2) nv u) Y og)) rfl ?_
                    refine am_steps_r ok_R_readValue 2 (q' := (221, [some (.ref 16), some (.int (nI dp)), some (.int (b (skW n b k))), some (.int 0), some (.int (nI nv))], [.int (nI nv), .ref 16], wd (vAdd (upd C.1 4 (nI (skW n b k)), C.2) nv u) Y og)) rfl ?_
                    have hLs : lfC (vAdd (upd C.1 4 (nI (skW n b k)), C.2) nv u) (vAdd (upd C.1 4 (nI (skW n b k)), C.2) nv u) nv u V 0 0 [] := ⟨vsC_add (C := (upd C.1 4 (nI (skW n b k)), C.2)) hI.2.2.2.2.1 h3, vcu_add, fC_rf _ _, rfl, ⟨rfl, rfl⟩, rfl⟩
                    have hcn : ¬ isCn b (skW n b k) := by
                      rintro (z | z)
                      · first | contradiction | exact absurd (z.symm.trans (show (b (skW n b k)) = _ by assumption)) (by decide)
                      · first | exact absurd z.1 (by assumption) | exact absurd z.2 (by assumption) | exact absurd (z.1.symm.trans (show (b (skW n b k)) = _ by assumption)) (by decide)
                    refine am_callV_r (As := [.int (nI nv)]) (rest := []) ok_R_readValue rfl rfl ok_R_readFigureString oi_R_readFigureString lk_1_149 (Or.inl ⟨_, _, _, rfl, rfl, rfl⟩) rfl rfl (Nat.le_of_ble_eq_true rfl) (c_R_readFigureString _ (vAdd (upd C.1 4 (nI (skW n b k)), C.2) nv u) Y og n b hT nv u V hLs (skW n b k) rfl hlt (by omega)) ?_
                    rintro v_ w_ hres_ -
                    have elf : lfR n b (skW n b k) = anR n b (skW n b k) 2000 (skW n b k + 1) (-1) [] := by rw [lfR, if_neg (show ¬ (b (skW n b k)) = 47 by first | assumption | (rw [show (b (skW n b k)) = _ by assumption]; decide)), if_neg (show ¬ (b (skW n b k)) = 40 by first | assumption | (rw [show (b (skW n b k)) = _ by assumption]; decide)), if_pos (by assumption)]
                    have hres : rdP n b C Y og nv0 dp none ht k nv u V no v_ w_ := rdP_leaf hI h3 hlt hbg hcn rfl elf hres_
                    obtain ⟨⟨x_, rfl⟩, hlen_⟩ := rdP_int hres
                    exact am_iret_r ok_R_readValue rfl rfl hlen_ hres
                  · skip
                    refine am_sw_r (K := 91) (by decide) (fun h_25 => ?_) (fun h_25 => ?_)
                    · skip
                      refine am_eq_r (q' := (196, [some (.ref 16), some (.int (nI dp)), some (.int (b (skW n b k))), some (.int 0), some (.int (nI nv))], [], wd (vAdd (upd C.1 4 (nI (skW n b k)), C.2) nv u) Y og)) rfl ?_
                      exact absurd ((show (b (skW n b k)) = 60 by assumption).symm.trans h_25) (by decide)
                    · skip
                      refine am_eq_r (q' := (225, [some (.ref 16), some (.int (nI dp)), some (.int (b (skW n b k))), some (.int 0), some (.int (nI nv))], [], wd (vAdd (upd C.1 4 (nI (skW n b k)), C.2) nv u) Y og)) rfl ?_
                      exact absurd (show (b (skW n b k)) = 60 by assumption) (by assumption)
          · skip
            have hbg : bgV (b (skW n b k)) = false := h_19
            refine am_steps_r ok_R_readValue 4 (q' := (111, [some (.ref 16), some (.int (nI dp)), some (.int (b (skW n b k))), some (.int 0), none], [.int (nI (skW n b k)), .int 2, .ref 16], wd (upd C.1 4 (nI (skW n b k)), C.2) Y og)) rfl ?_
            refine am_callV_r (As := [.int 2, .int (nI (skW n b k))]) (rest := []) ok_R_readValue rfl rfl ok_R_fail oi_R_fail lk_1_122 (Or.inl ⟨_, _, _, rfl, rfl, rfl⟩) rfl rfl (Nat.le_of_ble_eq_true rfl) (c_R_fail _ (upd C.1 4 (nI (skW n b k)), C.2) Y og 2 (nI (skW n b k))) ?_
            rintro v_ w_ ⟨rfl, rfl⟩ -
            refine am_eq_r (q' := (114, [some (.ref 16), some (.int (nI dp)), some (.int (b (skW n b k))), some (.int 0), none], [.int (-1)], wd (upd (upd (upd C.1 4 (nI (skW n b k))) 5 2) 6 (nI (skW n b k)), C.2) Y og)) rfl ?_
            refine am_iret_r ok_R_readValue rfl rfl rfl ?_
            exact ⟨.inl (2, skW n b k, no), Rd_v1 dp k nv u V no 2 (skW n b k) ⟨vsC_ok hI.2.2.2.2.1, hI.2.2.2.2.1.1.2.1, hI.2.2.2.2.2.2.1, hI.2.2.2.2.2.1⟩ (Or.inr (Or.inr (Or.inl ⟨hlt, hbg, rfl, rfl⟩))), rdO_f hI _ 2 (by decide) (by omega)⟩
    · skip
      refine am_steps_r ok_R_readValue 5 (q' := (bif decide ((b (skW n b k)) = 91) then 82 else 78, [some (.ref 16), some (.int (nI dp)), some (.int (b (skW n b k))), some (.int 0), none], [], wd (upd C.1 4 (nI (skW n b k)), C.2) Y og)) rfl ?_
      refine am_br_r (fun h_27 => ?_) (fun h_27 => ?_)
      · skip
        refine am_steps_r ok_R_readValue 3 (q' := (bif decide ((nI dp) < 8) then 98 else 88, [some (.ref 16), some (.int (nI dp)), some (.int (b (skW n b k))), some (.int 0), none], [], wd (upd C.1 4 (nI (skW n b k)), C.2) Y og)) rfl ?_
        refine am_br_r (fun h_28 => ?_) (fun h_28 => ?_)
        · skip
          have h_28 : dp < 8 := (nI_ltI (show dp < 2 ^ 31 by omega) (show 8 < 2 ^ 31 by omega)).mp h_28
          refine am_steps_r ok_R_readValue 1 (q' := (99, [some (.ref 16), some (.int (nI dp)), some (.int (b (skW n b k))), some (.int 0), none], [.int (b (skW n b k))], wd (upd C.1 4 (nI (skW n b k)), C.2) Y og)) rfl ?_
          refine am_callS_r (As := [.int (b (skW n b k))]) (rest := []) ok_R_readValue rfl rfl ok_R_beginsValue os_R_beginsValue lk_1_131 rfl rfl (Nat.le_of_ble_eq_true rfl) (c_R_beginsValue _ (upd C.1 4 (nI (skW n b k)), C.2) Y og (b (skW n b k))) ?_
          rintro v_ w_ ⟨rfl, rfl⟩ -
          refine am_eq_r (q' := (102, [some (.ref 16), some (.int (nI dp)), some (.int (b (skW n b k))), some (.int 0), none], [.int (bz (bgV (b (skW n b k))))], wd (upd C.1 4 (nI (skW n b k)), C.2) Y og)) rfl ?_
          refine am_steps_r ok_R_readValue 1 (q' := (bif decide ((bz (bgV (b (skW n b k)))) = 0) then 105 else 115, [some (.ref 16), some (.int (nI dp)), some (.int (b (skW n b k))), some (.int 0), none], [], wd (upd C.1 4 (nI (skW n b k)), C.2) Y og)) rfl ?_
          refine am_bz_r (fun h_30 => ?_) (fun h_30 => ?_)
          · skip
            have hbg : bgV (b (skW n b k)) = true := h_30
            refine am_steps_r ok_R_readValue 2 (q' := (119, [some (.ref 16), some (.int (nI dp)), some (.int (b (skW n b k))), some (.int 0), none], [.ref 3], wd (upd C.1 4 (nI (skW n b k)), C.2) Y og)) rfl ?_
            refine am_callV_r (As := []) (rest := []) ok_R_readValue rfl rfl ok_V_add oi_V_add lk_1_134 (Or.inl ⟨_, _, _, rfl, rfl, rfl⟩) rfl rfl (Nat.le_of_ble_eq_true rfl) (c_V_add_in _ (upd C.1 4 (nI (skW n b k)), C.2) Y og nv u hI.2.2.2.2.1.1 h3) ?_
            rintro v_ w_ ⟨rfl, rfl⟩ -
            refine am_eq_r (q' := (122, [some (.ref 16), some (.int (nI dp)), some (.int (b (skW n b k))), some (.int 0), none], [.int (nI nv)], wd (vAdd (upd C.1 4 (nI (skW n b k)), C.2) nv u) Y og)) rfl ?_
            refine am_steps_r ok_R_readValue 4 (q' := (bif decide ((nI nv) = (-1)) then 130 else 141, [some (.ref 16), some (.int (nI dp)), some (.int (b (skW n b k))), some (.int 0), some (.int (nI nv))], [], wd (vAdd (upd C.1 4 (nI (skW n b k)), C.2) nv u) Y og)) rfl ?_
            refine am_br_r (fun h_32 => ?_) (fun h_32 => ?_)
            · skip
              exact absurd h_32 (nI_nm (show nv < 2 ^ 31 by omega))
            · skip
              refine am_steps_r ok_R_readValue 3 (q' := (154, [some (.ref 16), some (.int (nI dp)), some (.int (b (skW n b k))), some (.int 0), some (.int (nI nv))], [.int (b (skW n b k))], wd (vAdd (upd C.1 4 (nI (skW n b k)), C.2) nv u) Y og)) rfl ?_
              refine am_steps_r ok_R_readValue 1 (q' := (am_tg 154 (Op.lookupswitch.offset [(40, 57), (47, 50), (60, 64), (91, 42)] 71 (b (skW n b k)).toInt), [some (.ref 16), some (.int (nI dp)), some (.int (b (skW n b k))), some (.int 0), some (.int (nI nv))], [], wd (vAdd (upd C.1 4 (nI (skW n b k)), C.2) nv u) Y og)) rfl ?_
              refine am_sw_r (K := 40) (by decide) (fun h_33 => ?_) (fun h_33 => ?_)
              · skip
                refine am_eq_r (q' := (211, [some (.ref 16), some (.int (nI dp)), some (.int (b (skW n b k))), some (.int 0), some (.int (nI nv))], [], wd (vAdd (upd C.1 4 (nI (skW n b k)), C.2) nv u) Y og)) rfl ?_
                exact absurd ((show (b (skW n b k)) = 91 by assumption).symm.trans h_33) (by decide)
              · skip
                refine am_sw_r (K := 47) (by decide) (fun h_34 => ?_) (fun h_34 => ?_)
                · skip
                  refine am_eq_r (q' := (204, [some (.ref 16), some (.int (nI dp)), some (.int (b (skW n b k))), some (.int 0), some (.int (nI nv))], [], wd (vAdd (upd C.1 4 (nI (skW n b k)), C.2) nv u) Y og)) rfl ?_
                  exact absurd ((show (b (skW n b k)) = 91 by assumption).symm.trans h_34) (by decide)
                · skip
                  refine am_sw_r (K := 60) (by decide) (fun h_35 => ?_) (fun h_35 => ?_)
                  · skip
                    refine am_eq_r (q' := (218, [some (.ref 16), some (.int (nI dp)), some (.int (b (skW n b k))), some (.int 0), some (.int (nI nv))], [], wd (vAdd (upd C.1 4 (nI (skW n b k)), C.2) nv u) Y og)) rfl ?_
                    exact absurd h_35 (by assumption)
                  · skip
                    refine am_sw_r (K := 91) (by decide) (fun h_36 => ?_) (fun h_36 => ?_)
                    · skip
                      refine am_eq_r (q' := (196, [some (.ref 16), some (.int (nI dp)), some (.int (b (skW n b k))), some (.int 0), some (.int (nI nv))], [], wd (vAdd (upd C.1 4 (nI (skW n b k)), C.2) nv u) Y og)) rfl ?_
                      refine am_steps_r ok_R_readValue 3 (q' := (200, [some (.ref 16), some (.int (nI dp)), some (.int (b (skW n b k))), some (.int 0), some (.int (nI nv))], [.int (nI dp), .int (nI nv), .ref 16], wd (vAdd (upd C.1 4 (nI (skW n b k)), C.2) nv u) Y og)) rfl ?_
                      refine am_callV_r (As := [.int (nI nv), .int (nI dp)]) (rest := []) ok_R_readValue rfl rfl ok_R_readArray oi_R_readArray lk_1_140 (Or.inl ⟨_, _, _, rfl, rfl, rfl⟩) rfl rfl (Nat.le_of_ble_eq_true rfl) (c_R_readArray _ Y og n b nv0 dp (by omega) hfm (IH (by omega)) C ht k nv u V no hI h3 hlt (by assumption)) ?_
                      rintro v_ w_ hres_ -
                      have hres := hres_
                      obtain ⟨⟨x_, rfl⟩, hlen_⟩ := rdP_int hres
                      exact am_iret_r ok_R_readValue rfl rfl hlen_ hres
                    · skip
                      refine am_eq_r (q' := (225, [some (.ref 16), some (.int (nI dp)), some (.int (b (skW n b k))), some (.int 0), some (.int (nI nv))], [], wd (vAdd (upd C.1 4 (nI (skW n b k)), C.2) nv u) Y og)) rfl ?_
                      exact absurd (show (b (skW n b k)) = 91 by assumption) (by assumption)
          · skip
            have hbg : bgV (b (skW n b k)) = false := h_30
            refine am_steps_r ok_R_readValue 4 (q' := (111, [some (.ref 16), some (.int (nI dp)), some (.int (b (skW n b k))), some (.int 0), none], [.int (nI (skW n b k)), .int 2, .ref 16], wd (upd C.1 4 (nI (skW n b k)), C.2) Y og)) rfl ?_
            refine am_callV_r (As := [.int 2, .int (nI (skW n b k))]) (rest := []) ok_R_readValue rfl rfl ok_R_fail oi_R_fail lk_1_122 (Or.inl ⟨_, _, _, rfl, rfl, rfl⟩) rfl rfl (Nat.le_of_ble_eq_true rfl) (c_R_fail _ (upd C.1 4 (nI (skW n b k)), C.2) Y og 2 (nI (skW n b k))) ?_
            rintro v_ w_ ⟨rfl, rfl⟩ -
            refine am_eq_r (q' := (114, [some (.ref 16), some (.int (nI dp)), some (.int (b (skW n b k))), some (.int 0), none], [.int (-1)], wd (upd (upd (upd C.1 4 (nI (skW n b k))) 5 2) 6 (nI (skW n b k)), C.2) Y og)) rfl ?_
            refine am_iret_r ok_R_readValue rfl rfl rfl ?_
            exact ⟨.inl (2, skW n b k, no), Rd_v1 dp k nv u V no 2 (skW n b k) ⟨vsC_ok hI.2.2.2.2.1, hI.2.2.2.2.1.1.2.1, hI.2.2.2.2.2.2.1, hI.2.2.2.2.2.1⟩ (Or.inr (Or.inr (Or.inl ⟨hlt, hbg, rfl, rfl⟩))), rdO_f hI _ 2 (by decide) (by omega)⟩
        · skip
          have h_28 : ¬ dp < 8 := fun z => h_28 ((nI_ltI (show dp < 2 ^ 31 by omega) (show 8 < 2 ^ 31 by omega)).mpr z)
          refine am_steps_r ok_R_readValue 4 (q' := (94, [some (.ref 16), some (.int (nI dp)), some (.int (b (skW n b k))), some (.int 0), none], [.int (nI (skW n b k)), .int 5, .ref 16], wd (upd C.1 4 (nI (skW n b k)), C.2) Y og)) rfl ?_
          refine am_callV_r (As := [.int 5, .int (nI (skW n b k))]) (rest := []) ok_R_readValue rfl rfl ok_R_fail oi_R_fail lk_1_122 (Or.inl ⟨_, _, _, rfl, rfl, rfl⟩) rfl rfl (Nat.le_of_ble_eq_true rfl) (c_R_fail _ (upd C.1 4 (nI (skW n b k)), C.2) Y og 5 (nI (skW n b k))) ?_
          rintro v_ w_ ⟨rfl, rfl⟩ -
          refine am_eq_r (q' := (97, [some (.ref 16), some (.int (nI dp)), some (.int (b (skW n b k))), some (.int 0), none], [.int (-1)], wd (upd (upd (upd C.1 4 (nI (skW n b k))) 5 5) 6 (nI (skW n b k)), C.2) Y og)) rfl ?_
          refine am_iret_r ok_R_readValue rfl rfl rfl ?_
          exact ⟨.inl (5, skW n b k, no), Rd_v1 dp k nv u V no 5 (skW n b k) ⟨vsC_ok hI.2.2.2.2.1, hI.2.2.2.2.1.1.2.1, hI.2.2.2.2.2.2.1, hI.2.2.2.2.2.1⟩ (Or.inr (Or.inl ⟨hlt, by first | exact Or.inl (by assumption) | exact Or.inr ⟨by assumption, by assumption⟩, by omega, rfl, rfl⟩)), rdO_f hI _ 5 (by decide) (by omega)⟩
      · skip
        refine am_steps_r ok_R_readValue 3 (q' := (99, [some (.ref 16), some (.int (nI dp)), some (.int (b (skW n b k))), some (.int 0), none], [.int (b (skW n b k))], wd (upd C.1 4 (nI (skW n b k)), C.2) Y og)) rfl ?_
        refine am_callS_r (As := [.int (b (skW n b k))]) (rest := []) ok_R_readValue rfl rfl ok_R_beginsValue os_R_beginsValue lk_1_131 rfl rfl (Nat.le_of_ble_eq_true rfl) (c_R_beginsValue _ (upd C.1 4 (nI (skW n b k)), C.2) Y og (b (skW n b k))) ?_
        rintro v_ w_ ⟨rfl, rfl⟩ -
        refine am_eq_r (q' := (102, [some (.ref 16), some (.int (nI dp)), some (.int (b (skW n b k))), some (.int 0), none], [.int (bz (bgV (b (skW n b k))))], wd (upd C.1 4 (nI (skW n b k)), C.2) Y og)) rfl ?_
        refine am_steps_r ok_R_readValue 1 (q' := (bif decide ((bz (bgV (b (skW n b k)))) = 0) then 105 else 115, [some (.ref 16), some (.int (nI dp)), some (.int (b (skW n b k))), some (.int 0), none], [], wd (upd C.1 4 (nI (skW n b k)), C.2) Y og)) rfl ?_
        refine am_bz_r (fun h_40 => ?_) (fun h_40 => ?_)
        · skip
          have hbg : bgV (b (skW n b k)) = true := h_40
          refine am_steps_r ok_R_readValue 2 (q' := (119, [some (.ref 16), some (.int (nI dp)), some (.int (b (skW n b k))), some (.int 0), none], [.ref 3], wd (upd C.1 4 (nI (skW n b k)), C.2) Y og)) rfl ?_
          refine am_callV_r (As := []) (rest := []) ok_R_readValue rfl rfl ok_V_add oi_V_add lk_1_134 (Or.inl ⟨_, _, _, rfl, rfl, rfl⟩) rfl rfl (Nat.le_of_ble_eq_true rfl) (c_V_add_in _ (upd C.1 4 (nI (skW n b k)), C.2) Y og nv u hI.2.2.2.2.1.1 h3) ?_
          rintro v_ w_ ⟨rfl, rfl⟩ -
          refine am_eq_r (q' := (122, [some (.ref 16), some (.int (nI dp)), some (.int (b (skW n b k))), some (.int 0), none], [.int (nI nv)], wd (vAdd (upd C.1 4 (nI (skW n b k)), C.2) nv u) Y og)) rfl ?_
          refine am_steps_r ok_R_readValue 4 (q' := (bif decide ((nI nv) = (-1)) then 130 else 141, [some (.ref 16), some (.int (nI dp)), some (.int (b (skW n b k))), some (.int 0), some (.int (nI nv))], [], wd (vAdd (upd C.1 4 (nI (skW n b k)), C.2) nv u) Y og)) rfl ?_
          refine am_br_r (fun h_42 => ?_) (fun h_42 => ?_)
          · skip
            exact absurd h_42 (nI_nm (show nv < 2 ^ 31 by omega))
          · skip
            refine am_steps_r ok_R_readValue 3 (q' := (154, [some (.ref 16), some (.int (nI dp)), some (.int (b (skW n b k))), some (.int 0), some (.int (nI nv))], [.int (b (skW n b k))], wd (vAdd (upd C.1 4 (nI (skW n b k)), C.2) nv u) Y og)) rfl ?_
            refine am_steps_r ok_R_readValue 1 (q' := (am_tg 154 (Op.lookupswitch.offset [(40, 57), (47, 50), (60, 64), (91, 42)] 71 (b (skW n b k)).toInt), [some (.ref 16), some (.int (nI dp)), some (.int (b (skW n b k))), some (.int 0), some (.int (nI nv))], [], wd (vAdd (upd C.1 4 (nI (skW n b k)), C.2) nv u) Y og)) rfl ?_
            refine am_sw_r (K := 40) (by decide) (fun h_43 => ?_) (fun h_43 => ?_)
            · skip
              refine am_eq_r (q' := (211, [some (.ref 16), some (.int (nI dp)), some (.int (b (skW n b k))), some (.int 0), some (.int (nI nv))], [], wd (vAdd (upd C.1 4 (nI (skW n b k)), C.2) nv u) Y og)) rfl ?_
              refine am_steps_r ok_R_readValue 2 (q' := (214, [some (.ref 16), some (.int (nI dp)), some (.int (b (skW n b k))), some (.int 0), some (.int (nI nv))], [.int (nI nv), .ref 16], wd (vAdd (upd C.1 4 (nI (skW n b k)), C.2) nv u) Y og)) rfl ?_
              have hLs : lfC (vAdd (upd C.1 4 (nI (skW n b k)), C.2) nv u) (vAdd (upd C.1 4 (nI (skW n b k)), C.2) nv u) nv u V 0 0 [] := ⟨vsC_add (C := (upd C.1 4 (nI (skW n b k)), C.2)) hI.2.2.2.2.1 h3, vcu_add, fC_rf _ _, rfl, ⟨rfl, rfl⟩, rfl⟩
              have hcn : ¬ isCn b (skW n b k) := by
                rintro (z | z)
                · first | contradiction | exact absurd (z.symm.trans (show (b (skW n b k)) = _ by assumption)) (by decide)
                · first | exact absurd z.1 (by assumption) | exact absurd z.2 (by assumption) | exact absurd (z.1.symm.trans (show (b (skW n b k)) = _ by assumption)) (by decide)
              refine am_callV_r (As := [.int (nI nv)]) (rest := []) ok_R_readValue rfl rfl ok_R_readString oi_R_readString lk_1_146 (Or.inl ⟨_, _, _, rfl, rfl, rfl⟩) rfl rfl (Nat.le_of_ble_eq_true rfl) (c_R_readString _ (vAdd (upd C.1 4 (nI (skW n b k)), C.2) nv u) Y og n b hT nv u V hLs (skW n b k) rfl hlt (by omega)) ?_
              rintro v_ w_ hres_ -
              have elf : lfR n b (skW n b k) = rdR n b (skW n b k) 2000 (skW n b k + 1) 1 [] := by rw [lfR, if_neg (show ¬ (b (skW n b k)) = 47 by first | assumption | (rw [show (b (skW n b k)) = _ by assumption]; decide)), if_pos (by assumption)]
              have hres : rdP n b C Y og nv0 dp none ht k nv u V no v_ w_ := rdP_leaf hI h3 hlt hbg hcn rfl elf hres_
              obtain ⟨⟨x_, rfl⟩, hlen_⟩ := rdP_int hres
              exact am_iret_r ok_R_readValue rfl rfl hlen_ hres
            · skip
              refine am_sw_r (K := 47) (by decide) (fun h_44 => ?_) (fun h_44 => ?_)
              · skip
                refine am_eq_r (q' := (204, [some (.ref 16), some (.int (nI dp)), some (.int (b (skW n b k))), some (.int 0), some (.int (nI nv))], [], wd (vAdd (upd C.1 4 (nI (skW n b k)), C.2) nv u) Y og)) rfl ?_
                refine am_steps_r ok_R_readValue 2 (q' := (207, [some (.ref 16), some (.int (nI dp)), some (.int (b (skW n b k))), some (.int 0), some (.int (nI nv))], [.int (nI nv), .ref 16], wd (vAdd (upd C.1 4 (nI (skW n b k)), C.2) nv u) Y og)) rfl ?_
                have hLs : lfC (vAdd (upd C.1 4 (nI (skW n b k)), C.2) nv u) (vAdd (upd C.1 4 (nI (skW n b k)), C.2) nv u) nv u V 0 0 [] := ⟨vsC_add (C := (upd C.1 4 (nI (skW n b k)), C.2)) hI.2.2.2.2.1 h3, vcu_add, fC_rf _ _, rfl, ⟨rfl, rfl⟩, rfl⟩
                have hcn : ¬ isCn b (skW n b k) := by
                  rintro (z | z)
                  · first | contradiction | exact absurd (z.symm.trans (show (b (skW n b k)) = _ by assumption)) (by decide)
                  · first | exact absurd z.1 (by assumption) | exact absurd z.2 (by assumption) | exact absurd (z.1.symm.trans (show (b (skW n b k)) = _ by assumption)) (by decide)
                refine am_callV_r (As := [.int (nI nv)]) (rest := []) ok_R_readValue rfl rfl ok_R_readName oi_R_readName lk_1_143 (Or.inl ⟨_, _, _, rfl, rfl, rfl⟩) rfl rfl (Nat.le_of_ble_eq_true rfl) (c_R_readName _ (vAdd (upd C.1 4 (nI (skW n b k)), C.2) nv u) Y og n b hT nv u V hLs (skW n b k) rfl hlt (by omega)) ?_
                rintro v_ w_ hres_ -
                have elf : lfR n b (skW n b k) = nmL (skW n b k) (nmR b (wEnd n b (skW n b k + 1)) 2000 (skW n b k + 1) []) := by rw [lfR, if_pos (by assumption)]
                have hres : rdP n b C Y og nv0 dp none ht k nv u V no v_ w_ := rdP_leaf hI h3 hlt hbg hcn rfl elf hres_
                obtain ⟨⟨x_, rfl⟩, hlen_⟩ := rdP_int hres
                exact am_iret_r ok_R_readValue rfl rfl hlen_ hres
              · skip
                refine am_sw_r (K := 60) (by decide) (fun h_45 => ?_) (fun h_45 => ?_)
                · skip
                  refine am_eq_r (q' := (218, [some (.ref 16), some (.int (nI dp)), some (.int (b (skW n b k))), some (.int 0), some (.int (nI nv))], [], wd (vAdd (upd C.1 4 (nI (skW n b k)), C.2) nv u) Y og)) rfl ?_
                  exact absurd h_45 (by assumption)
                · skip
                  refine am_sw_r (K := 91) (by decide) (fun h_46 => ?_) (fun h_46 => ?_)
                  · skip
                    refine am_eq_r (q' := (196, [some (.ref 16), some (.int (nI dp)), some (.int (b (skW n b k))), some (.int 0), some (.int (nI nv))], [], wd (vAdd (upd C.1 4 (nI (skW n b k)), C.2) nv u) Y og)) rfl ?_
                    exact absurd h_46 (by assumption)
                  · skip
                    refine am_eq_r (q' := (225, [some (.ref 16), some (.int (nI dp)), some (.int (b (skW n b k))), some (.int 0), some (.int (nI nv))], [], wd (vAdd (upd C.1 4 (nI (skW n b k)), C.2) nv u) Y og)) rfl ?_
                    refine am_steps_r ok_R_readValue 2 (q' := (228, [some (.ref 16), some (.int (nI dp)), some (.int (b (skW n b k))), some (.int 0), some (.int (nI nv))], [.int (nI nv), .ref 16], wd (vAdd (upd C.1 4 (nI (skW n b k)), C.2) nv u) Y og)) rfl ?_
                    have hreg : isReg (b (skW n b k)) = true := by
                      have hb2 := hbg
                      simp only [bgV, Bool.or_eq_true, decide_eq_true_eq] at hb2
                      rcases hb2 with z | z | z | z | z
                      · exact z
                      · exact absurd z (by assumption)
                      · exact absurd z (by assumption)
                      · exact absurd z (by assumption)
                      · exact absurd z (by assumption)
                    have hLs : lfC (vAdd (upd C.1 4 (nI (skW n b k)), C.2) nv u) (vAdd (upd C.1 4 (nI (skW n b k)), C.2) nv u) nv u V 0 0 [] := ⟨vsC_add (C := (upd C.1 4 (nI (skW n b k)), C.2)) hI.2.2.2.2.1 h3, vcu_add, fC_rf _ _, rfl, ⟨rfl, rfl⟩, rfl⟩
                    have hcn : ¬ isCn b (skW n b k) := by
                      rintro (z | z)
                      · first | contradiction | exact absurd (z.symm.trans (show (b (skW n b k)) = _ by assumption)) (by decide)
                      · first | exact absurd z.1 (by assumption) | exact absurd z.2 (by assumption) | exact absurd (z.1.symm.trans (show (b (skW n b k)) = _ by assumption)) (by decide)
                    refine am_callV_r (As := [.int (nI nv)]) (rest := []) ok_R_readValue rfl rfl ok_R_readWord oi_R_readWord lk_1_152 (Or.inl ⟨_, _, _, rfl, rfl, rfl⟩) rfl rfl (Nat.le_of_ble_eq_true rfl) (c_R_readWord _ (vAdd (upd C.1 4 (nI (skW n b k)), C.2) nv u) Y og n b hT nv u V hLs (skW n b k) rfl hlt (by omega) hfm hreg) ?_
                    rintro v_ w_ hres_ -
                    have elf : lfR n b (skW n b k) = wdL n b (skW n b k) := by rw [lfR, if_neg (show ¬ (b (skW n b k)) = 47 by first | assumption | (rw [show (b (skW n b k)) = _ by assumption]; decide)), if_neg (show ¬ (b (skW n b k)) = 40 by first | assumption | (rw [show (b (skW n b k)) = _ by assumption]; decide)), if_neg (show ¬ (b (skW n b k)) = 60 by first | assumption | (rw [show (b (skW n b k)) = _ by assumption]; decide))]
                    have hres : rdP n b C Y og nv0 dp none ht k nv u V no v_ w_ := rdP_leaf hI h3 hlt hbg hcn rfl elf hres_
                    obtain ⟨⟨x_, rfl⟩, hlen_⟩ := rdP_int hres
                    exact am_iret_r ok_R_readValue rfl rfl hlen_ hres
        · skip
          have hbg : bgV (b (skW n b k)) = false := h_40
          refine am_steps_r ok_R_readValue 4 (q' := (111, [some (.ref 16), some (.int (nI dp)), some (.int (b (skW n b k))), some (.int 0), none], [.int (nI (skW n b k)), .int 2, .ref 16], wd (upd C.1 4 (nI (skW n b k)), C.2) Y og)) rfl ?_
          refine am_callV_r (As := [.int 2, .int (nI (skW n b k))]) (rest := []) ok_R_readValue rfl rfl ok_R_fail oi_R_fail lk_1_122 (Or.inl ⟨_, _, _, rfl, rfl, rfl⟩) rfl rfl (Nat.le_of_ble_eq_true rfl) (c_R_fail _ (upd C.1 4 (nI (skW n b k)), C.2) Y og 2 (nI (skW n b k))) ?_
          rintro v_ w_ ⟨rfl, rfl⟩ -
          refine am_eq_r (q' := (114, [some (.ref 16), some (.int (nI dp)), some (.int (b (skW n b k))), some (.int 0), none], [.int (-1)], wd (upd (upd (upd C.1 4 (nI (skW n b k))) 5 2) 6 (nI (skW n b k)), C.2) Y og)) rfl ?_
          refine am_iret_r ok_R_readValue rfl rfl rfl ?_
          exact ⟨.inl (2, skW n b k, no), Rd_v1 dp k nv u V no 2 (skW n b k) ⟨vsC_ok hI.2.2.2.2.1, hI.2.2.2.2.1.1.2.1, hI.2.2.2.2.2.2.1, hI.2.2.2.2.2.1⟩ (Or.inr (Or.inr (Or.inl ⟨hlt, hbg, rfl, rfl⟩))), rdO_f hI _ 2 (by decide) (by omega)⟩
set_option maxHeartbeats 2000000 in
set_option maxRecDepth 100000 in
theorem c_R_readValue_f (d : Nat) (Y : wd_Y) (og : Nat → Int64) (n : Nat) (b : Nat → Int32) (nv0 dp : Nat) (hdp : dp ≤ 8) (hfm : fm = .null ∨ fm = .ref 3000) (IH : dp < 8 → ∀ (C : wd_C) (ht : Nat → Nat) (k nv u : Nat) (V : VT) (no : Int32), rdI C n b nv0 ht k nv u V no → am_Mt l D cA ad fm (d + 9) m_R_readValue [.ref 16, .int (nI (dp + 1))] (wd C Y og) (rdP n b C Y og nv0 (dp + 1) none ht k nv u V no)) (C : wd_C) (ht : Nat → Nat) (k nv u : Nat) (V : VT) (no : Int32) (hI : rdI C n b nv0 ht k nv u V no) (h3 : nv = 300) : am_Mt l D cA ad fm (d + 11) m_R_readValue [.ref 16, .int (nI dp)] (wd C Y og) (rdP n b C Y og nv0 dp none ht k nv u V no) := by
  have hT := hI.1
  have hn := hT.2.1
  have hkn := hI.2.2.2.2.2.1
  have huk := hI.2.2.2.2.2.2.1
  have hn0 := hI.2.2.2.2.2.2.2.1
  have hnv := hI.2.2.2.2.1.1.2.1
  have hsk := skW_le n b hkn
  refine am_mt ok_R_readValue (by simp [am_arg, Value.category, m_R_readValue, am_ml]) ?_
  refine am_eq_r (q' := (0, [some (.ref 16), some (.int (nI dp)), none, none, none], [], wd C Y og)) rfl ?_
  refine am_steps_r ok_R_readValue 5 (q' := (9, [some (.ref 16), some (.int (nI dp)), none, none, none], [.int (C.1 4), .ref 1, .ref 16], wd C Y og)) rfl ?_
  rw [show (C.1 4 : Int32) = nI k from hI.2.1]
  have w_1 := skW_le n b (k := k) (by omega)
  refine am_callV_r (As := [.int (nI k)]) (rest := [.ref 16]) ok_R_readValue rfl rfl ok_T_behindWhite oi_T_behindWhite lk_1_56 (Or.inl ⟨_, _, _, rfl, rfl, rfl⟩) rfl rfl (Nat.le_of_ble_eq_true rfl) (c_T_behindWhite _ C Y og n b hT k (by omega)) ?_
  rintro v_ w_ ⟨rfl, rfl⟩ -
  refine am_eq_r (q' := (12, [some (.ref 16), some (.int (nI dp)), none, none, none], [.int (nI (skW n b k)), .ref 16], wd C Y og)) rfl ?_
  refine am_steps_r ok_R_readValue 5 (q' := (23, [some (.ref 16), some (.int (nI dp)), none, none, none], [.int (nI (skW n b k)), .ref 1], wd (upd C.1 4 (nI (skW n b k)), C.2) Y og)) rfl ?_
  refine am_callV_r (As := [.int (nI (skW n b k))]) (rest := []) ok_R_readValue rfl rfl ok_T_at oi_T_at lk_1_125 (Or.inl ⟨_, _, _, rfl, rfl, rfl⟩) rfl rfl (Nat.le_of_ble_eq_true rfl) (c_T_at _ (upd C.1 4 (nI (skW n b k)), C.2) Y og n b hT (skW n b k) (by omega)) ?_
  rintro v_ w_ ⟨rfl, rfl⟩ -
  refine am_eq_r (q' := (26, [some (.ref 16), some (.int (nI dp)), none, none, none], [.int (b (skW n b k))], wd (upd C.1 4 (nI (skW n b k)), C.2) Y og)) rfl ?_
  refine am_steps_r ok_R_readValue 4 (q' := (bif decide ((b (skW n b k)) = (-1)) then 32 else 42, [some (.ref 16), some (.int (nI dp)), some (.int (b (skW n b k))), none, none], [], wd (upd C.1 4 (nI (skW n b k)), C.2) Y og)) rfl ?_
  refine am_br_r (fun h_4 => ?_) (fun h_4 => ?_)
  · skip
    have hge : skW n b k = n := by rcases Nat.lt_or_ge (skW n b k) n with g | g; (obtain ⟨j, j1, j2⟩ := tpC_B hT g; rw [j2] at h_4; exact absurd h_4 (nI_nm (by omega))); omega
    refine am_steps_r ok_R_readValue 4 (q' := (38, [some (.ref 16), some (.int (nI dp)), some (.int (b (skW n b k))), none, none], [.int (nI (skW n b k)), .int 1, .ref 16], wd (upd C.1 4 (nI (skW n b k)), C.2) Y og)) rfl ?_
    refine am_callV_r (As := [.int 1, .int (nI (skW n b k))]) (rest := []) ok_R_readValue rfl rfl ok_R_fail oi_R_fail lk_1_122 (Or.inl ⟨_, _, _, rfl, rfl, rfl⟩) rfl rfl (Nat.le_of_ble_eq_true rfl) (c_R_fail _ (upd C.1 4 (nI (skW n b k)), C.2) Y og 1 (nI (skW n b k))) ?_
    rintro v_ w_ ⟨rfl, rfl⟩ -
    refine am_eq_r (q' := (41, [some (.ref 16), some (.int (nI dp)), some (.int (b (skW n b k))), none, none], [.int (-1)], wd (upd (upd (upd C.1 4 (nI (skW n b k))) 5 1) 6 (nI (skW n b k)), C.2) Y og)) rfl ?_
    refine am_iret_r ok_R_readValue rfl rfl rfl ?_
    exact ⟨.inl (1, skW n b k, no), Rd_v1 dp k nv u V no 1 (skW n b k) ⟨vsC_ok hI.2.2.2.2.1, hI.2.2.2.2.1.1.2.1, hI.2.2.2.2.2.2.1, hI.2.2.2.2.2.1⟩ (Or.inl ⟨hge, rfl, hge⟩), rdO_f hI _ 1 (by decide) (by omega)⟩
  · skip
    have hlt : skW n b k < n := by rcases Nat.lt_or_ge (skW n b k) n with g | g; exact g; exact absurd (hT.2.2.2 _ g) h_4
    refine am_steps_r ok_R_readValue 3 (q' := (bif decide ((b (skW n b k)) = 60) then 48 else 70, [some (.ref 16), some (.int (nI dp)), some (.int (b (skW n b k))), none, none], [], wd (upd C.1 4 (nI (skW n b k)), C.2) Y og)) rfl ?_
    refine am_br_r (fun h_6 => ?_) (fun h_6 => ?_)
    · skip
      refine am_steps_r ok_R_readValue 6 (q' := (58, [some (.ref 16), some (.int (nI dp)), some (.int (b (skW n b k))), none, none], [.int ((nI (skW n b k)) + 1), .ref 1], wd (upd C.1 4 (nI (skW n b k)), C.2) Y og)) rfl ?_
      rw [show ((nI (skW n b k)) + 1 : Int32) = nI ((skW n b k) + 1) from nI_add (skW n b k) 1]
      refine am_callV_r (As := [.int (nI ((skW n b k) + 1))]) (rest := []) ok_R_readValue rfl rfl ok_T_at oi_T_at lk_1_125 (Or.inl ⟨_, _, _, rfl, rfl, rfl⟩) rfl rfl (Nat.le_of_ble_eq_true rfl) (c_T_at _ (upd C.1 4 (nI (skW n b k)), C.2) Y og n b hT ((skW n b k) + 1) (by omega)) ?_
      rintro v_ w_ ⟨rfl, rfl⟩ -
      refine am_eq_r (q' := (61, [some (.ref 16), some (.int (nI dp)), some (.int (b (skW n b k))), none, none], [.int (b ((skW n b k) + 1))], wd (upd C.1 4 (nI (skW n b k)), C.2) Y og)) rfl ?_
      refine am_steps_r ok_R_readValue 2 (q' := (bif decide ((b ((skW n b k) + 1)) = 60) then 66 else 70, [some (.ref 16), some (.int (nI dp)), some (.int (b (skW n b k))), none, none], [], wd (upd C.1 4 (nI (skW n b k)), C.2) Y og)) rfl ?_
      refine am_br_r (fun h_8 => ?_) (fun h_8 => ?_)
      · skip
        refine am_steps_r ok_R_readValue 6 (q' := (bif decide ((b (skW n b k)) = 91) then 82 else 78, [some (.ref 16), some (.int (nI dp)), some (.int (b (skW n b k))), some (.int 1), none], [], wd (upd C.1 4 (nI (skW n b k)), C.2) Y og)) rfl ?_
        refine am_br_r (fun h_9 => ?_) (fun h_9 => ?_)
        · skip
          exact absurd ((show (b (skW n b k)) = 60 by assumption).symm.trans (show (b (skW n b k)) = 91 by assumption)) (by decide)
        · skip
          refine am_steps_r ok_R_readValue 5 (q' := (bif decide ((nI dp) < 8) then 98 else 88, [some (.ref 16), some (.int (nI dp)), some (.int (b (skW n b k))), some (.int 1), none], [], wd (upd C.1 4 (nI (skW n b k)), C.2) Y og)) rfl ?_
          refine am_br_r (fun h_10 => ?_) (fun h_10 => ?_)
          · skip
            have h_10 : dp < 8 := (nI_ltI (show dp < 2 ^ 31 by omega) (show 8 < 2 ^ 31 by omega)).mp h_10
            refine am_steps_r ok_R_readValue 1 (q' := (99, [some (.ref 16), some (.int (nI dp)), some (.int (b (skW n b k))), some (.int 1), none], [.int (b (skW n b k))], wd (upd C.1 4 (nI (skW n b k)), C.2) Y og)) rfl ?_
            refine am_callS_r (As := [.int (b (skW n b k))]) (rest := []) ok_R_readValue rfl rfl ok_R_beginsValue os_R_beginsValue lk_1_131 rfl rfl (Nat.le_of_ble_eq_true rfl) (c_R_beginsValue _ (upd C.1 4 (nI (skW n b k)), C.2) Y og (b (skW n b k))) ?_
            rintro v_ w_ ⟨rfl, rfl⟩ -
            refine am_eq_r (q' := (102, [some (.ref 16), some (.int (nI dp)), some (.int (b (skW n b k))), some (.int 1), none], [.int (bz (bgV (b (skW n b k))))], wd (upd C.1 4 (nI (skW n b k)), C.2) Y og)) rfl ?_
            refine am_steps_r ok_R_readValue 1 (q' := (bif decide ((bz (bgV (b (skW n b k)))) = 0) then 105 else 115, [some (.ref 16), some (.int (nI dp)), some (.int (b (skW n b k))), some (.int 1), none], [], wd (upd C.1 4 (nI (skW n b k)), C.2) Y og)) rfl ?_
            refine am_bz_r (fun h_12 => ?_) (fun h_12 => ?_)
            · skip
              have hbg : bgV (b (skW n b k)) = true := h_12
              refine am_steps_r ok_R_readValue 2 (q' := (119, [some (.ref 16), some (.int (nI dp)), some (.int (b (skW n b k))), some (.int 1), none], [.ref 3], wd (upd C.1 4 (nI (skW n b k)), C.2) Y og)) rfl ?_
              refine am_callV_r (As := []) (rest := []) ok_R_readValue rfl rfl ok_V_add oi_V_add lk_1_134 (Or.inl ⟨_, _, _, rfl, rfl, rfl⟩) rfl rfl (Nat.le_of_ble_eq_true rfl) (c_V_add_full _ (upd C.1 4 (nI (skW n b k)), C.2) Y og nv u hI.2.2.2.2.1.1 h3) ?_
              rintro v_ w_ ⟨rfl, rfl⟩ -
              refine am_eq_r (q' := (122, [some (.ref 16), some (.int (nI dp)), some (.int (b (skW n b k))), some (.int 1), none], [.int (-1)], wd (upd C.1 4 (nI (skW n b k)), C.2) Y og)) rfl ?_
              refine am_steps_r ok_R_readValue 8 (q' := (137, [some (.ref 16), some (.int (nI dp)), some (.int (b (skW n b k))), some (.int 1), some (.int (-1))], [.int (nI (skW n b k)), .int 6, .ref 16], wd (upd C.1 4 (nI (skW n b k)), C.2) Y og)) rfl ?_
              refine am_callV_r (As := [.int 6, .int (nI (skW n b k))]) (rest := []) ok_R_readValue rfl rfl ok_R_fail oi_R_fail lk_1_122 (Or.inl ⟨_, _, _, rfl, rfl, rfl⟩) rfl rfl (Nat.le_of_ble_eq_true rfl) (c_R_fail _ (upd C.1 4 (nI (skW n b k)), C.2) Y og 6 (nI (skW n b k))) ?_
              rintro v_ w_ ⟨rfl, rfl⟩ -
              refine am_eq_r (q' := (140, [some (.ref 16), some (.int (nI dp)), some (.int (b (skW n b k))), some (.int 1), some (.int (-1))], [.int (-1)], wd (upd (upd (upd C.1 4 (nI (skW n b k))) 5 6) 6 (nI (skW n b k)), C.2) Y og)) rfl ?_
              refine am_iret_r ok_R_readValue rfl rfl rfl ?_
              exact ⟨.inl (6, skW n b k, no), Rd_v1 dp k nv u V no 6 (skW n b k) ⟨vsC_ok hI.2.2.2.2.1, hI.2.2.2.2.1.1.2.1, hI.2.2.2.2.2.2.1, hI.2.2.2.2.2.1⟩ (Or.inr (Or.inr (Or.inr (Or.inl ⟨hlt, hbg, fun z => by first | omega | (rcases z with z | z; (first | contradiction | exact absurd (z.symm.trans (show (b (skW n b k)) = _ by assumption)) (by decide)); (first | exact absurd z.1 (by assumption) | exact absurd z.2 (by assumption) | exact absurd (z.1.symm.trans (show (b (skW n b k)) = _ by assumption)) (by decide))), h3, rfl, rfl⟩)))), rdO_f hI _ 6 (by decide) (by omega)⟩
            · skip
              have hbg : bgV (b (skW n b k)) = false := h_12
              refine am_steps_r ok_R_readValue 4 (q' := (111, [some (.ref 16), some (.int (nI dp)), some (.int (b (skW n b k))), some (.int 1), none], [.int (nI (skW n b k)), .int 2, .ref 16], wd (upd C.1 4 (nI (skW n b k)), C.2) Y og)) rfl ?_
              refine am_callV_r (As := [.int 2, .int (nI (skW n b k))]) (rest := []) ok_R_readValue rfl rfl ok_R_fail oi_R_fail lk_1_122 (Or.inl ⟨_, _, _, rfl, rfl, rfl⟩) rfl rfl (Nat.le_of_ble_eq_true rfl) (c_R_fail _ (upd C.1 4 (nI (skW n b k)), C.2) Y og 2 (nI (skW n b k))) ?_
              rintro v_ w_ ⟨rfl, rfl⟩ -
              refine am_eq_r (q' := (114, [some (.ref 16), some (.int (nI dp)), some (.int (b (skW n b k))), some (.int 1), none], [.int (-1)], wd (upd (upd (upd C.1 4 (nI (skW n b k))) 5 2) 6 (nI (skW n b k)), C.2) Y og)) rfl ?_
              refine am_iret_r ok_R_readValue rfl rfl rfl ?_
              exact ⟨.inl (2, skW n b k, no), Rd_v1 dp k nv u V no 2 (skW n b k) ⟨vsC_ok hI.2.2.2.2.1, hI.2.2.2.2.1.1.2.1, hI.2.2.2.2.2.2.1, hI.2.2.2.2.2.1⟩ (Or.inr (Or.inr (Or.inl ⟨hlt, hbg, rfl, rfl⟩))), rdO_f hI _ 2 (by decide) (by omega)⟩
          · skip
            have h_10 : ¬ dp < 8 := fun z => h_10 ((nI_ltI (show dp < 2 ^ 31 by omega) (show 8 < 2 ^ 31 by omega)).mpr z)
            refine am_steps_r ok_R_readValue 4 (q' := (94, [some (.ref 16), some (.int (nI dp)), some (.int (b (skW n b k))), some (.int 1), none], [.int (nI (skW n b k)), .int 5, .ref 16], wd (upd C.1 4 (nI (skW n b k)), C.2) Y og)) rfl ?_
            refine am_callV_r (As := [.int 5, .int (nI (skW n b k))]) (rest := []) ok_R_readValue rfl rfl ok_R_fail oi_R_fail lk_1_122 (Or.inl ⟨_, _, _, rfl, rfl, rfl⟩) rfl rfl (Nat.le_of_ble_eq_true rfl) (c_R_fail _ (upd C.1 4 (nI (skW n b k)), C.2) Y og 5 (nI (skW n b k))) ?_
            rintro v_ w_ ⟨rfl, rfl⟩ -
            refine am_eq_r (q' := (97, [some (.ref 16), some (.int (nI dp)), some (.int (b (skW n b k))), some (.int 1), none], [.int (-1)], wd (upd (upd (upd C.1 4 (nI (skW n b k))) 5 5) 6 (nI (skW n b k)), C.2) Y og)) rfl ?_
            refine am_iret_r ok_R_readValue rfl rfl rfl ?_
            exact ⟨.inl (5, skW n b k, no), Rd_v1 dp k nv u V no 5 (skW n b k) ⟨vsC_ok hI.2.2.2.2.1, hI.2.2.2.2.1.1.2.1, hI.2.2.2.2.2.2.1, hI.2.2.2.2.2.1⟩ (Or.inr (Or.inl ⟨hlt, by first | exact Or.inl (by assumption) | exact Or.inr ⟨by assumption, by assumption⟩, by omega, rfl, rfl⟩)), rdO_f hI _ 5 (by decide) (by omega)⟩
      · skip
        refine am_steps_r ok_R_readValue 5 (q' := (bif decide ((b (skW n b k)) = 91) then 82 else 78, [some (.ref 16), some (.int (nI dp)), some (.int (b (skW n b k))), some (.int 0), none], [], wd (upd C.1 4 (nI (skW n b k)), C.2) Y og)) rfl ?_
        refine am_br_r (fun h_17 => ?_) (fun h_17 => ?_)
        · skip
          exact absurd ((show (b (skW n b k)) = 60 by assumption).symm.trans (show (b (skW n b k)) = 91 by assumption)) (by decide)
        · skip
          refine am_steps_r ok_R_readValue 3 (q' := (99, [some (.ref 16), some (.int (nI dp)), some (.int (b (skW n b k))), some (.int 0), none], [.int (b (skW n b k))], wd (upd C.1 4 (nI (skW n b k)), C.2) Y og)) rfl ?_
          refine am_callS_r (As := [.int (b (skW n b k))]) (rest := []) ok_R_readValue rfl rfl ok_R_beginsValue os_R_beginsValue lk_1_131 rfl rfl (Nat.le_of_ble_eq_true rfl) (c_R_beginsValue _ (upd C.1 4 (nI (skW n b k)), C.2) Y og (b (skW n b k))) ?_
          rintro v_ w_ ⟨rfl, rfl⟩ -
          refine am_eq_r (q' := (102, [some (.ref 16), some (.int (nI dp)), some (.int (b (skW n b k))), some (.int 0), none], [.int (bz (bgV (b (skW n b k))))], wd (upd C.1 4 (nI (skW n b k)), C.2) Y og)) rfl ?_
          refine am_steps_r ok_R_readValue 1 (q' := (bif decide ((bz (bgV (b (skW n b k)))) = 0) then 105 else 115, [some (.ref 16), some (.int (nI dp)), some (.int (b (skW n b k))), some (.int 0), none], [], wd (upd C.1 4 (nI (skW n b k)), C.2) Y og)) rfl ?_
          refine am_bz_r (fun h_19 => ?_) (fun h_19 => ?_)
          · skip
            have hbg : bgV (b (skW n b k)) = true := h_19
            refine am_steps_r ok_R_readValue 2 (q' := (119, [some (.ref 16), some (.int (nI dp)), some (.int (b (skW n b k))), some (.int 0), none], [.ref 3], wd (upd C.1 4 (nI (skW n b k)), C.2) Y og)) rfl ?_
            refine am_callV_r (As := []) (rest := []) ok_R_readValue rfl rfl ok_V_add oi_V_add lk_1_134 (Or.inl ⟨_, _, _, rfl, rfl, rfl⟩) rfl rfl (Nat.le_of_ble_eq_true rfl) (c_V_add_full _ (upd C.1 4 (nI (skW n b k)), C.2) Y og nv u hI.2.2.2.2.1.1 h3) ?_
            rintro v_ w_ ⟨rfl, rfl⟩ -
            refine am_eq_r (q' := (122, [some (.ref 16), some (.int (nI dp)), some (.int (b (skW n b k))), some (.int 0), none], [.int (-1)], wd (upd C.1 4 (nI (skW n b k)), C.2) Y og)) rfl ?_
            refine am_steps_r ok_R_readValue 8 (q' := (137, [some (.ref 16), some (.int (nI dp)), some (.int (b (skW n b k))), some (.int 0), some (.int (-1))], [.int (nI (skW n b k)), .int 6, .ref 16], wd (upd C.1 4 (nI (skW n b k)), C.2) Y og)) rfl ?_
            refine am_callV_r (As := [.int 6, .int (nI (skW n b k))]) (rest := []) ok_R_readValue rfl rfl ok_R_fail oi_R_fail lk_1_122 (Or.inl ⟨_, _, _, rfl, rfl, rfl⟩) rfl rfl (Nat.le_of_ble_eq_true rfl) (c_R_fail _ (upd C.1 4 (nI (skW n b k)), C.2) Y og 6 (nI (skW n b k))) ?_
            rintro v_ w_ ⟨rfl, rfl⟩ -
            refine am_eq_r (q' := (140, [some (.ref 16), some (.int (nI dp)), some (.int (b (skW n b k))), some (.int 0), some (.int (-1))], [.int (-1)], wd (upd (upd (upd C.1 4 (nI (skW n b k))) 5 6) 6 (nI (skW n b k)), C.2) Y og)) rfl ?_
            refine am_iret_r ok_R_readValue rfl rfl rfl ?_
            exact ⟨.inl (6, skW n b k, no), Rd_v1 dp k nv u V no 6 (skW n b k) ⟨vsC_ok hI.2.2.2.2.1, hI.2.2.2.2.1.1.2.1, hI.2.2.2.2.2.2.1, hI.2.2.2.2.2.1⟩ (Or.inr (Or.inr (Or.inr (Or.inl ⟨hlt, hbg, fun z => by first | omega | (rcases z with z | z; (first | contradiction | exact absurd (z.symm.trans (show (b (skW n b k)) = _ by assumption)) (by decide)); (first | exact absurd z.1 (by assumption) | exact absurd z.2 (by assumption) | exact absurd (z.1.symm.trans (show (b (skW n b k)) = _ by assumption)) (by decide))), h3, rfl, rfl⟩)))), rdO_f hI _ 6 (by decide) (by omega)⟩
          · skip
            have hbg : bgV (b (skW n b k)) = false := h_19
            refine am_steps_r ok_R_readValue 4 (q' := (111, [some (.ref 16), some (.int (nI dp)), some (.int (b (skW n b k))), some (.int 0), none], [.int (nI (skW n b k)), .int 2, .ref 16], wd (upd C.1 4 (nI (skW n b k)), C.2) Y og)) rfl ?_
            refine am_callV_r (As := [.int 2, .int (nI (skW n b k))]) (rest := []) ok_R_readValue rfl rfl ok_R_fail oi_R_fail lk_1_122 (Or.inl ⟨_, _, _, rfl, rfl, rfl⟩) rfl rfl (Nat.le_of_ble_eq_true rfl) (c_R_fail _ (upd C.1 4 (nI (skW n b k)), C.2) Y og 2 (nI (skW n b k))) ?_
            rintro v_ w_ ⟨rfl, rfl⟩ -
            refine am_eq_r (q' := (114, [some (.ref 16), some (.int (nI dp)), some (.int (b (skW n b k))), some (.int 0), none], [.int (-1)], wd (upd (upd (upd C.1 4 (nI (skW n b k))) 5 2) 6 (nI (skW n b k)), C.2) Y og)) rfl ?_
            refine am_iret_r ok_R_readValue rfl rfl rfl ?_
            exact ⟨.inl (2, skW n b k, no), Rd_v1 dp k nv u V no 2 (skW n b k) ⟨vsC_ok hI.2.2.2.2.1, hI.2.2.2.2.1.1.2.1, hI.2.2.2.2.2.2.1, hI.2.2.2.2.2.1⟩ (Or.inr (Or.inr (Or.inl ⟨hlt, hbg, rfl, rfl⟩))), rdO_f hI _ 2 (by decide) (by omega)⟩
    · skip
      refine am_steps_r ok_R_readValue 5 (q' := (bif decide ((b (skW n b k)) = 91) then 82 else 78, [some (.ref 16), some (.int (nI dp)), some (.int (b (skW n b k))), some (.int 0), none], [], wd (upd C.1 4 (nI (skW n b k)), C.2) Y og)) rfl ?_
      refine am_br_r (fun h_23 => ?_) (fun h_23 => ?_)
      · skip
        refine am_steps_r ok_R_readValue 3 (q' := (bif decide ((nI dp) < 8) then 98 else 88, [some (.ref 16), some (.int (nI dp)), some (.int (b (skW n b k))), some (.int 0), none], [], wd (upd C.1 4 (nI (skW n b k)), C.2) Y og)) rfl ?_
        refine am_br_r (fun h_24 => ?_) (fun h_24 => ?_)
        · skip
          have h_24 : dp < 8 := (nI_ltI (show dp < 2 ^ 31 by omega) (show 8 < 2 ^ 31 by omega)).mp h_24
          refine am_steps_r ok_R_readValue 1 (q' := (99, [some (.ref 16), some (.int (nI dp)), some (.int (b (skW n b k))), some (.int 0), none], [.int (b (skW n b k))], wd (upd C.1 4 (nI (skW n b k)), C.2) Y og)) rfl ?_
          refine am_callS_r (As := [.int (b (skW n b k))]) (rest := []) ok_R_readValue rfl rfl ok_R_beginsValue os_R_beginsValue lk_1_131 rfl rfl (Nat.le_of_ble_eq_true rfl) (c_R_beginsValue _ (upd C.1 4 (nI (skW n b k)), C.2) Y og (b (skW n b k))) ?_
          rintro v_ w_ ⟨rfl, rfl⟩ -
          refine am_eq_r (q' := (102, [some (.ref 16), some (.int (nI dp)), some (.int (b (skW n b k))), some (.int 0), none], [.int (bz (bgV (b (skW n b k))))], wd (upd C.1 4 (nI (skW n b k)), C.2) Y og)) rfl ?_
          refine am_steps_r ok_R_readValue 1 (q' := (bif decide ((bz (bgV (b (skW n b k)))) = 0) then 105 else 115, [some (.ref 16), some (.int (nI dp)), some (.int (b (skW n b k))), some (.int 0), none], [], wd (upd C.1 4 (nI (skW n b k)), C.2) Y og)) rfl ?_
          refine am_bz_r (fun h_26 => ?_) (fun h_26 => ?_)
          · skip
            have hbg : bgV (b (skW n b k)) = true := h_26
            refine am_steps_r ok_R_readValue 2 (q' := (119, [some (.ref 16), some (.int (nI dp)), some (.int (b (skW n b k))), some (.int 0), none], [.ref 3], wd (upd C.1 4 (nI (skW n b k)), C.2) Y og)) rfl ?_
            refine am_callV_r (As := []) (rest := []) ok_R_readValue rfl rfl ok_V_add oi_V_add lk_1_134 (Or.inl ⟨_, _, _, rfl, rfl, rfl⟩) rfl rfl (Nat.le_of_ble_eq_true rfl) (c_V_add_full _ (upd C.1 4 (nI (skW n b k)), C.2) Y og nv u hI.2.2.2.2.1.1 h3) ?_
            rintro v_ w_ ⟨rfl, rfl⟩ -
            refine am_eq_r (q' := (122, [some (.ref 16), some (.int (nI dp)), some (.int (b (skW n b k))), some (.int 0), none], [.int (-1)], wd (upd C.1 4 (nI (skW n b k)), C.2) Y og)) rfl ?_
            refine am_steps_r ok_R_readValue 8 (q' := (137, [some (.ref 16), some (.int (nI dp)), some (.int (b (skW n b k))), some (.int 0), some (.int (-1))], [.int (nI (skW n b k)), .int 6, .ref 16], wd (upd C.1 4 (nI (skW n b k)), C.2) Y og)) rfl ?_
            refine am_callV_r (As := [.int 6, .int (nI (skW n b k))]) (rest := []) ok_R_readValue rfl rfl ok_R_fail oi_R_fail lk_1_122 (Or.inl ⟨_, _, _, rfl, rfl, rfl⟩) rfl rfl (Nat.le_of_ble_eq_true rfl) (c_R_fail _ (upd C.1 4 (nI (skW n b k)), C.2) Y og 6 (nI (skW n b k))) ?_
            rintro v_ w_ ⟨rfl, rfl⟩ -
            refine am_eq_r (q' := (140, [some (.ref 16), some (.int (nI dp)), some (.int (b (skW n b k))), some (.int 0), some (.int (-1))], [.int (-1)], wd (upd (upd (upd C.1 4 (nI (skW n b k))) 5 6) 6 (nI (skW n b k)), C.2) Y og)) rfl ?_
            refine am_iret_r ok_R_readValue rfl rfl rfl ?_
            exact ⟨.inl (6, skW n b k, no), Rd_v1 dp k nv u V no 6 (skW n b k) ⟨vsC_ok hI.2.2.2.2.1, hI.2.2.2.2.1.1.2.1, hI.2.2.2.2.2.2.1, hI.2.2.2.2.2.1⟩ (Or.inr (Or.inr (Or.inr (Or.inl ⟨hlt, hbg, fun z => by first | omega | (rcases z with z | z; (first | contradiction | exact absurd (z.symm.trans (show (b (skW n b k)) = _ by assumption)) (by decide)); (first | exact absurd z.1 (by assumption) | exact absurd z.2 (by assumption) | exact absurd (z.1.symm.trans (show (b (skW n b k)) = _ by assumption)) (by decide))), h3, rfl, rfl⟩)))), rdO_f hI _ 6 (by decide) (by omega)⟩
          · skip
            have hbg : bgV (b (skW n b k)) = false := h_26
            refine am_steps_r ok_R_readValue 4 (q' := (111, [some (.ref 16), some (.int (nI dp)), some (.int (b (skW n b k))), some (.int 0), none], [.int (nI (skW n b k)), .int 2, .ref 16], wd (upd C.1 4 (nI (skW n b k)), C.2) Y og)) rfl ?_
            refine am_callV_r (As := [.int 2, .int (nI (skW n b k))]) (rest := []) ok_R_readValue rfl rfl ok_R_fail oi_R_fail lk_1_122 (Or.inl ⟨_, _, _, rfl, rfl, rfl⟩) rfl rfl (Nat.le_of_ble_eq_true rfl) (c_R_fail _ (upd C.1 4 (nI (skW n b k)), C.2) Y og 2 (nI (skW n b k))) ?_
            rintro v_ w_ ⟨rfl, rfl⟩ -
            refine am_eq_r (q' := (114, [some (.ref 16), some (.int (nI dp)), some (.int (b (skW n b k))), some (.int 0), none], [.int (-1)], wd (upd (upd (upd C.1 4 (nI (skW n b k))) 5 2) 6 (nI (skW n b k)), C.2) Y og)) rfl ?_
            refine am_iret_r ok_R_readValue rfl rfl rfl ?_
            exact ⟨.inl (2, skW n b k, no), Rd_v1 dp k nv u V no 2 (skW n b k) ⟨vsC_ok hI.2.2.2.2.1, hI.2.2.2.2.1.1.2.1, hI.2.2.2.2.2.2.1, hI.2.2.2.2.2.1⟩ (Or.inr (Or.inr (Or.inl ⟨hlt, hbg, rfl, rfl⟩))), rdO_f hI _ 2 (by decide) (by omega)⟩
        · skip
          have h_24 : ¬ dp < 8 := fun z => h_24 ((nI_ltI (show dp < 2 ^ 31 by omega) (show 8 < 2 ^ 31 by omega)).mpr z)
          refine am_steps_r ok_R_readValue 4 (q' := (94, [some (.ref 16), some (.int (nI dp)), some (.int (b (skW n b k))), some (.int 0), none], [.int (nI (skW n b k)), .int 5, .ref 16], wd (upd C.1 4 (nI (skW n b k)), C.2) Y og)) rfl ?_
          refine am_callV_r (As := [.int 5, .int (nI (skW n b k))]) (rest := []) ok_R_readValue rfl rfl ok_R_fail oi_R_fail lk_1_122 (Or.inl ⟨_, _, _, rfl, rfl, rfl⟩) rfl rfl (Nat.le_of_ble_eq_true rfl) (c_R_fail _ (upd C.1 4 (nI (skW n b k)), C.2) Y og 5 (nI (skW n b k))) ?_
          rintro v_ w_ ⟨rfl, rfl⟩ -
          refine am_eq_r (q' := (97, [some (.ref 16), some (.int (nI dp)), some (.int (b (skW n b k))), some (.int 0), none], [.int (-1)], wd (upd (upd (upd C.1 4 (nI (skW n b k))) 5 5) 6 (nI (skW n b k)), C.2) Y og)) rfl ?_
          refine am_iret_r ok_R_readValue rfl rfl rfl ?_
          exact ⟨.inl (5, skW n b k, no), Rd_v1 dp k nv u V no 5 (skW n b k) ⟨vsC_ok hI.2.2.2.2.1, hI.2.2.2.2.1.1.2.1, hI.2.2.2.2.2.2.1, hI.2.2.2.2.2.1⟩ (Or.inr (Or.inl ⟨hlt, by first | exact Or.inl (by assumption) | exact Or.inr ⟨by assumption, by assumption⟩, by omega, rfl, rfl⟩)), rdO_f hI _ 5 (by decide) (by omega)⟩
      · skip
        refine am_steps_r ok_R_readValue 3 (q' := (99, [some (.ref 16), some (.int (nI dp)), some (.int (b (skW n b k))), some (.int 0), none], [.int (b (skW n b k))], wd (upd C.1 4 (nI (skW n b k)), C.2) Y og)) rfl ?_
        refine am_callS_r (As := [.int (b (skW n b k))]) (rest := []) ok_R_readValue rfl rfl ok_R_beginsValue os_R_beginsValue lk_1_131 rfl rfl (Nat.le_of_ble_eq_true rfl) (c_R_beginsValue _ (upd C.1 4 (nI (skW n b k)), C.2) Y og (b (skW n b k))) ?_
        rintro v_ w_ ⟨rfl, rfl⟩ -
        refine am_eq_r (q' := (102, [some (.ref 16), some (.int (nI dp)), some (.int (b (skW n b k))), some (.int 0), none], [.int (bz (bgV (b (skW n b k))))], wd (upd C.1 4 (nI (skW n b k)), C.2) Y og)) rfl ?_
        refine am_steps_r ok_R_readValue 1 (q' := (bif decide ((bz (bgV (b (skW n b k)))) = 0) then 105 else 115, [some (.ref 16), some (.int (nI dp)), some (.int (b (skW n b k))), some (.int 0), none], [], wd (upd C.1 4 (nI (skW n b k)), C.2) Y og)) rfl ?_
        refine am_bz_r (fun h_32 => ?_) (fun h_32 => ?_)
        · skip
          have hbg : bgV (b (skW n b k)) = true := h_32
          refine am_steps_r ok_R_readValue 2 (q' := (119, [some (.ref 16), some (.int (nI dp)), some (.int (b (skW n b k))), some (.int 0), none], [.ref 3], wd (upd C.1 4 (nI (skW n b k)), C.2) Y og)) rfl ?_
          refine am_callV_r (As := []) (rest := []) ok_R_readValue rfl rfl ok_V_add oi_V_add lk_1_134 (Or.inl ⟨_, _, _, rfl, rfl, rfl⟩) rfl rfl (Nat.le_of_ble_eq_true rfl) (c_V_add_full _ (upd C.1 4 (nI (skW n b k)), C.2) Y og nv u hI.2.2.2.2.1.1 h3) ?_
          rintro v_ w_ ⟨rfl, rfl⟩ -
          refine am_eq_r (q' := (122, [some (.ref 16), some (.int (nI dp)), some (.int (b (skW n b k))), some (.int 0), none], [.int (-1)], wd (upd C.1 4 (nI (skW n b k)), C.2) Y og)) rfl ?_
          refine am_steps_r ok_R_readValue 8 (q' := (137, [some (.ref 16), some (.int (nI dp)), some (.int (b (skW n b k))), some (.int 0), some (.int (-1))], [.int (nI (skW n b k)), .int 6, .ref 16], wd (upd C.1 4 (nI (skW n b k)), C.2) Y og)) rfl ?_
          refine am_callV_r (As := [.int 6, .int (nI (skW n b k))]) (rest := []) ok_R_readValue rfl rfl ok_R_fail oi_R_fail lk_1_122 (Or.inl ⟨_, _, _, rfl, rfl, rfl⟩) rfl rfl (Nat.le_of_ble_eq_true rfl) (c_R_fail _ (upd C.1 4 (nI (skW n b k)), C.2) Y og 6 (nI (skW n b k))) ?_
          rintro v_ w_ ⟨rfl, rfl⟩ -
          refine am_eq_r (q' := (140, [some (.ref 16), some (.int (nI dp)), some (.int (b (skW n b k))), some (.int 0), some (.int (-1))], [.int (-1)], wd (upd (upd (upd C.1 4 (nI (skW n b k))) 5 6) 6 (nI (skW n b k)), C.2) Y og)) rfl ?_
          refine am_iret_r ok_R_readValue rfl rfl rfl ?_
          exact ⟨.inl (6, skW n b k, no), Rd_v1 dp k nv u V no 6 (skW n b k) ⟨vsC_ok hI.2.2.2.2.1, hI.2.2.2.2.1.1.2.1, hI.2.2.2.2.2.2.1, hI.2.2.2.2.2.1⟩ (Or.inr (Or.inr (Or.inr (Or.inl ⟨hlt, hbg, fun z => by first | omega | (rcases z with z | z; (first | contradiction | exact absurd (z.symm.trans (show (b (skW n b k)) = _ by assumption)) (by decide)); (first | exact absurd z.1 (by assumption) | exact absurd z.2 (by assumption) | exact absurd (z.1.symm.trans (show (b (skW n b k)) = _ by assumption)) (by decide))), h3, rfl, rfl⟩)))), rdO_f hI _ 6 (by decide) (by omega)⟩
        · skip
          have hbg : bgV (b (skW n b k)) = false := h_32
          refine am_steps_r ok_R_readValue 4 (q' := (111, [some (.ref 16), some (.int (nI dp)), some (.int (b (skW n b k))), some (.int 0), none], [.int (nI (skW n b k)), .int 2, .ref 16], wd (upd C.1 4 (nI (skW n b k)), C.2) Y og)) rfl ?_
          refine am_callV_r (As := [.int 2, .int (nI (skW n b k))]) (rest := []) ok_R_readValue rfl rfl ok_R_fail oi_R_fail lk_1_122 (Or.inl ⟨_, _, _, rfl, rfl, rfl⟩) rfl rfl (Nat.le_of_ble_eq_true rfl) (c_R_fail _ (upd C.1 4 (nI (skW n b k)), C.2) Y og 2 (nI (skW n b k))) ?_
          rintro v_ w_ ⟨rfl, rfl⟩ -
          refine am_eq_r (q' := (114, [some (.ref 16), some (.int (nI dp)), some (.int (b (skW n b k))), some (.int 0), none], [.int (-1)], wd (upd (upd (upd C.1 4 (nI (skW n b k))) 5 2) 6 (nI (skW n b k)), C.2) Y og)) rfl ?_
          refine am_iret_r ok_R_readValue rfl rfl rfl ?_
          exact ⟨.inl (2, skW n b k, no), Rd_v1 dp k nv u V no 2 (skW n b k) ⟨vsC_ok hI.2.2.2.2.1, hI.2.2.2.2.1.1.2.1, hI.2.2.2.2.2.2.1, hI.2.2.2.2.2.1⟩ (Or.inr (Or.inr (Or.inl ⟨hlt, hbg, rfl, rfl⟩))), rdO_f hI _ 2 (by decide) (by omega)⟩
/-- at every depth -/
theorem c_R_readValue (Y : wd_Y) (og : Nat → Int64) (n : Nat) (b : Nat → Int32) (nv0 : Nat) (hfm : fm = .null ∨ fm = .ref 3000) : ∀ (e d dp : Nat), dp + e = 8 → ∀ (C : wd_C) (ht : Nat → Nat) (k nv u : Nat) (V : VT) (no : Int32), rdI C n b nv0 ht k nv u V no → am_Mt l D cA ad fm (d + 11 + 2 * e) m_R_readValue [.ref 16, .int (nI dp)] (wd C Y og) (rdP n b C Y og nv0 dp none ht k nv u V no)
  | 0, d, dp, hd, C, ht, k, nv, u, V, no, hI => by
    have hnv := hI.2.2.2.2.1.1.2.1
    rcases Nat.lt_or_ge nv 300 with h3 | h3
    · exact c_R_readValue_i d Y og n b nv0 dp (by omega) hfm (fun z => absurd z (by omega)) C ht k nv u V no hI h3
    · exact c_R_readValue_f d Y og n b nv0 dp (by omega) hfm (fun z => absurd z (by omega)) C ht k nv u V no hI (by omega)
  | e + 1, d, dp, hd, C, ht, k, nv, u, V, no, hI => by
    have hnv := hI.2.2.2.2.1.1.2.1
    have ih : dp < 8 → ∀ (C : wd_C) (ht : Nat → Nat) (k nv u : Nat) (V : VT) (no : Int32), rdI C n b nv0 ht k nv u V no → am_Mt l D cA ad fm (d + 2 + 2 * e + 9) m_R_readValue [.ref 16, .int (nI (dp + 1))] (wd C Y og) (rdP n b C Y og nv0 (dp + 1) none ht k nv u V no) := fun _ C ht k nv u V no hI => by
      have := c_R_readValue Y og n b nv0 hfm e d (dp + 1) (by omega) C ht k nv u V no hI
      rw [show d + 2 + 2 * e + 9 = d + 11 + 2 * e by omega]
      exact this
    rw [show d + 11 + 2 * (e + 1) = d + 2 + 2 * e + 11 by omega]
    rcases Nat.lt_or_ge nv 300 with h3 | h3
    · exact c_R_readValue_i (d + 2 + 2 * e) Y og n b nv0 dp (by omega) hfm ih C ht k nv u V no hI h3
    · exact c_R_readValue_f (d + 2 + 2 * e) Y og n b nv0 dp (by omega) hfm ih C ht k nv u V no hI (by omega)
end C62
