/-! the reference reads names and strings; printed by wip/gen/g50.py -/
section C50
variable {l : Launch} {D : va_G} {cA : Nat → ClassId} {ad : Nat → Nat} {fm : Value}
set_option maxHeartbeats 1000000 in
set_option maxRecDepth 100000 in
theorem c_M_gets (d : Nat) (C : wd_C) (Y : wd_Y) (og : Nat → Int64) (Y0 : wd_Y) (nv u : Nat) (V : VT) (kd : Int32) (acc : List Int32) (hL : lfD Y0 Y nv u V kd acc) (x : Int32) (m : Nat) (ham : acc.length ≤ m) (hm : m < 420) (p k : Nat) (ha : Y.1 6 = nI k) : am_Mt l D cA ad fm (d + 1) m_M_gets [.ref 19, .int x, .int (nI m), .int (nI p)] (wd C Y og) (fun vr w' => (acc.length < m ∧ vr = some (.int 1) ∧ ∃ Y' : wd_Y, w' = wd C Y' og ∧ Y'.1 6 = nI k ∧ lfD Y0 Y' nv u V kd (acc ++ [x])) ∨ (m ≤ acc.length ∧ vr = some (.int 0) ∧ w' = wd C (upd (upd Y.1 7 3) 8 (nI p), Y.2) og)) := by
  refine am_mt ok_M_gets (by simp [am_arg, Value.category, m_M_gets, am_ml]) ?_
  refine am_eq_r (q' := (0, [some (.ref 19), some (.int x), some (.int (nI m)), some (.int (nI p))], [], wd C Y og)) rfl ?_
  refine am_steps_r ok_M_gets 4 (q' := (bif decide ((Y.1 10) = (nI m)) then 8 else 15, [some (.ref 19), some (.int x), some (.int (nI m)), some (.int (nI p))], [], wd C Y og)) rfl ?_
  rw [show (Y.1 10 : Int32) = nI acc.length from hL.2.1]
  refine am_br_r (fun h_1 => ?_) (fun h_1 => ?_)
  · skip
    have h_1 : acc.length = m := (nI_eq (show acc.length < 2 ^ 31 by omega) (show m < 2 ^ 31 by omega)).mp h_1
    refine am_steps_r ok_M_gets 3 (q' := (11, [some (.ref 19), some (.int x), some (.int (nI m)), some (.int (nI p))], [.int (nI p), .int 3, .ref 19], wd C Y og)) rfl ?_
    refine am_callV_r (As := [.int 3, .int (nI p)]) (rest := []) ok_M_gets rfl rfl ok_M_fails oi_M_fails lk_6_139 (Or.inl ⟨_, _, _, rfl, rfl, rfl⟩) rfl rfl (Nat.le_of_ble_eq_true rfl) (c_M_fails _ C Y og 3 (nI p)) ?_
    rintro v_ w_ ⟨rfl, rfl⟩ -
    refine am_eq_r (q' := (14, [some (.ref 19), some (.int x), some (.int (nI m)), some (.int (nI p))], [.int 0], wd C (upd (upd Y.1 7 3) 8 (nI p), Y.2) og)) rfl ?_
    refine am_zret_r ok_M_gets rfl rfl rfl rfl ?_
    exact Or.inr ⟨by omega, rfl, rfl⟩
  · skip
    have h_1 : ¬ acc.length = m := fun z => h_1 ((nI_eq (show acc.length < 2 ^ 31 by omega) (show m < 2 ^ 31 by omega)).mpr z)
    refine am_steps_r ok_M_gets 5 (q' := (24, [some (.ref 19), some (.int x), some (.int (nI m)), some (.int (nI p))], [.int x, .int (Y.1 10), .ref 31], wd C Y og)) rfl ?_
    rw [show (Y.1 10 : Int32) = nI acc.length from hL.2.1]
    refine am_iast_r ok_M_gets rfl (w := wd C Y og) (f := Y.2.1 10) rfl rfl (pk_in acc.length 420 (by omega)) ?_
    rw [nI_clamp (show acc.length < 2 ^ 31 by omega)]
    refine am_eq_r (q' := (25, [some (.ref 19), some (.int x), some (.int (nI m)), some (.int (nI p))], [], wd C (Y.1, wd_u Y.2.1 10 (upd (Y.2.1 10) acc.length x), Y.2.2) og)) rfl ?_
    refine am_steps_r ok_M_gets 7 (q' := (36, [some (.ref 19), some (.int x), some (.int (nI m)), some (.int (nI p))], [.int 1], wd C (upd Y.1 10 ((Y.1 10) + 1), wd_u Y.2.1 10 (upd (Y.2.1 10) acc.length x), Y.2.2) og)) rfl ?_
    rw [show (Y.1 10 : Int32) = nI acc.length from hL.2.1]
    rw [show ((nI acc.length) + 1 : Int32) = nI (acc.length + 1) from nI_add acc.length 1]
    refine am_zret_r ok_M_gets rfl rfl rfl rfl ?_
    exact Or.inl ⟨by omega, rfl, _, rfl, ha, lfD_get hL x⟩
set_option maxHeartbeats 1000000 in
set_option maxRecDepth 100000 in
theorem c_M_readName_full (d : Nat) (C : wd_C) (Y : wd_Y) (og : Nat → Int64) (n : Nat) (b : Nat → Int32) (hT : tpY Y n b) (nv u : Nat) (V : VT) (hY : vsY Y nv u V) (h3 : nv = 300) (k : Nat) (ha : Y.1 6 = nI k) : am_Mt l D cA ad fm (d + 2) m_M_readName [.ref 19] (wd C Y og) (fun vr w' => vr = some (.int 0) ∧ w' = wd C (upd (upd Y.1 7 6) 8 (nI k), Y.2) og) := by
  refine am_mt ok_M_readName (by simp [am_arg, Value.category, m_M_readName, am_ml]) ?_
  refine am_eq_r (q' := (0, [some (.ref 19), none, none, none, none, none], [], wd C Y og)) rfl ?_
  refine am_steps_r ok_M_readName 6 (q' := (8, [some (.ref 19), some (.int (Y.1 6)), none, none, none, none], [.int (Y.1 6), .int 4, .ref 19], wd C Y og)) rfl ?_
  rw [show (Y.1 6 : Int32) = nI k from ha]
  refine am_callV_r (As := [.int 4, .int (nI k)]) (rest := []) ok_M_readName rfl rfl ok_M_begins oi_M_begins lk_6_151 (Or.inl ⟨_, _, _, rfl, rfl, rfl⟩) rfl rfl (Nat.le_of_ble_eq_true rfl) (c_M_begins_full _ C Y og nv u hY.1 h3 4 (nI k)) ?_
  rintro v_ w_ ⟨rfl, rfl⟩ -
  refine am_eq_r (q' := (11, [some (.ref 19), some (.int (nI k)), none, none, none, none], [.int 0], wd C (upd (upd Y.1 7 6) 8 (nI k), Y.2) og)) rfl ?_
  refine am_steps_r ok_M_readName 2 (q' := (15, [some (.ref 19), some (.int (nI k)), none, none, none, none], [.int 0], wd C (upd (upd Y.1 7 6) 8 (nI k), Y.2) og)) rfl ?_
  refine am_zret_r ok_M_readName rfl rfl rfl rfl ?_
  exact ⟨rfl, rfl⟩
set_option maxHeartbeats 1000000 in
set_option maxRecDepth 100000 in
theorem c_M_readRound_full (d : Nat) (C : wd_C) (Y : wd_Y) (og : Nat → Int64) (n : Nat) (b : Nat → Int32) (hT : tpY Y n b) (nv u : Nat) (V : VT) (hY : vsY Y nv u V) (h3 : nv = 300) (k : Nat) (ha : Y.1 6 = nI k) : am_Mt l D cA ad fm (d + 2) m_M_readRound [.ref 19] (wd C Y og) (fun vr w' => vr = some (.int 0) ∧ w' = wd C (upd (upd Y.1 7 6) 8 (nI k), Y.2) og) := by
  refine am_mt ok_M_readRound (by simp [am_arg, Value.category, m_M_readRound, am_ml]) ?_
  refine am_eq_r (q' := (0, [some (.ref 19), none, none, none, none], [], wd C Y og)) rfl ?_
  refine am_steps_r ok_M_readRound 6 (q' := (8, [some (.ref 19), some (.int (Y.1 6)), none, none, none], [.int (Y.1 6), .int 5, .ref 19], wd C Y og)) rfl ?_
  rw [show (Y.1 6 : Int32) = nI k from ha]
  refine am_callV_r (As := [.int 5, .int (nI k)]) (rest := []) ok_M_readRound rfl rfl ok_M_begins oi_M_begins lk_6_151 (Or.inl ⟨_, _, _, rfl, rfl, rfl⟩) rfl rfl (Nat.le_of_ble_eq_true rfl) (c_M_begins_full _ C Y og nv u hY.1 h3 5 (nI k)) ?_
  rintro v_ w_ ⟨rfl, rfl⟩ -
  refine am_eq_r (q' := (11, [some (.ref 19), some (.int (nI k)), none, none, none], [.int 0], wd C (upd (upd Y.1 7 6) 8 (nI k), Y.2) og)) rfl ?_
  refine am_steps_r ok_M_readRound 2 (q' := (15, [some (.ref 19), some (.int (nI k)), none, none, none], [.int 0], wd C (upd (upd Y.1 7 6) 8 (nI k), Y.2) og)) rfl ?_
  refine am_zret_r ok_M_readRound rfl rfl rfl rfl ?_
  exact ⟨rfl, rfl⟩
set_option maxHeartbeats 1000000 in
set_option maxRecDepth 100000 in
theorem c_M_readAngled_full (d : Nat) (C : wd_C) (Y : wd_Y) (og : Nat → Int64) (n : Nat) (b : Nat → Int32) (hT : tpY Y n b) (nv u : Nat) (V : VT) (hY : vsY Y nv u V) (h3 : nv = 300) (k : Nat) (ha : Y.1 6 = nI k) : am_Mt l D cA ad fm (d + 2) m_M_readAngled [.ref 19] (wd C Y og) (fun vr w' => vr = some (.int 0) ∧ w' = wd C (upd (upd Y.1 7 6) 8 (nI k), Y.2) og) := by
  refine am_mt ok_M_readAngled (by simp [am_arg, Value.category, m_M_readAngled, am_ml]) ?_
  refine am_eq_r (q' := (0, [some (.ref 19), none, none, none, none], [], wd C Y og)) rfl ?_
  refine am_steps_r ok_M_readAngled 6 (q' := (8, [some (.ref 19), some (.int (Y.1 6)), none, none, none], [.int (Y.1 6), .int 5, .ref 19], wd C Y og)) rfl ?_
  rw [show (Y.1 6 : Int32) = nI k from ha]
  refine am_callV_r (As := [.int 5, .int (nI k)]) (rest := []) ok_M_readAngled rfl rfl ok_M_begins oi_M_begins lk_6_151 (Or.inl ⟨_, _, _, rfl, rfl, rfl⟩) rfl rfl (Nat.le_of_ble_eq_true rfl) (c_M_begins_full _ C Y og nv u hY.1 h3 5 (nI k)) ?_
  rintro v_ w_ ⟨rfl, rfl⟩ -
  refine am_eq_r (q' := (11, [some (.ref 19), some (.int (nI k)), none, none, none], [.int 0], wd C (upd (upd Y.1 7 6) 8 (nI k), Y.2) og)) rfl ?_
  refine am_steps_r ok_M_readAngled 2 (q' := (15, [some (.ref 19), some (.int (nI k)), none, none, none], [.int 0], wd C (upd (upd Y.1 7 6) 8 (nI k), Y.2) og)) rfl ?_
  refine am_zret_r ok_M_readAngled rfl rfl rfl rfl ?_
  exact ⟨rfl, rfl⟩
set_option maxHeartbeats 1000000 in
set_option maxRecDepth 100000 in
theorem lp_M_readName_38 (d : Nat) (C : wd_C) (og : Nat → Int64) (n : Nat) (b : Nat → Int32) (Y0 : wd_Y) (hT0 : tpY Y0 n b) (nv u : Nat) (V : VT) (p e : Nat) (hp : p < n) (he : e = wEnd n b (p + 1))  : ∀ (fu : Nat) (post : Option Value → am_W → Prop) (Y : wd_Y) (k : Nat) (acc : List Int32), (lfD Y0 Y nv u V 4 acc) → (Y.1 6 = nI k) → (p + 1 ≤ k) → (k ≤ e) → (acc.length ≤ 40) → (u + acc.length < k) → (∀ vr w', lfQ Y0 C og nv u V (nmL p (nmR b e fu k acc)) vr w' → post vr w') → e - k < fu → am_Rn l D cA ad fm (d + 2) m_M_readName (wd C Y og).length post (38, [some (.ref 19), some (.int (nI p)), some (.int (nI nv)), none, none, none], [], wd C Y og) := by
  intro fu
  induction fu with
  | zero => intro post Y k acc hL ha hk hke hacc hua hpo hfu; exact absurd hfu (Nat.not_lt_zero _)
  | succ fu ih =>
    intro post Y k acc hL ha hk hke hacc hua hpo hfu
    have hT := tpY_f hT0 hL.2.2.2.1
    have hn := hT.2.1
    have hal := hL.1.1.2.1
    have hen := wEnd_le n b (k := p + 1) (by omega)
    refine am_steps_r ok_M_readName 3 (q' := (43, [some (.ref 19), some (.int (nI p)), some (.int (nI nv)), none, none, none], [.int (Y.1 6), .ref 19], wd C Y og)) rfl ?_
    rw [show (Y.1 6 : Int32) = nI k from ha]
    refine am_callV_r (As := [.int (nI k)]) (rest := []) ok_M_readName rfl rfl ok_M_byteAt oi_M_byteAt lk_6_78 (Or.inl ⟨_, _, _, rfl, rfl, rfl⟩) rfl rfl (Nat.le_of_ble_eq_true rfl) (c_M_byteAt _ C Y og n b hT k (by omega)) ?_
    rintro v_ w_ ⟨rfl, rfl⟩ -
    refine am_eq_r (q' := (46, [some (.ref 19), some (.int (nI p)), some (.int (nI nv)), none, none, none], [.int (b k)], wd C Y og)) rfl ?_
    refine am_callS_r (As := [.int (b k)]) (rest := []) ok_M_readName rfl rfl ok_M_isRegular os_M_isRegular lk_6_85 rfl rfl (Nat.le_of_ble_eq_true rfl) (c_M_isRegular _ C Y og (b k)) ?_
    rintro v_ w_ ⟨rfl, rfl⟩ -
    refine am_eq_r (q' := (49, [some (.ref 19), some (.int (nI p)), some (.int (nI nv)), none, none, none], [.int (bz (isReg (b k)))], wd C Y og)) rfl ?_
    refine am_steps_r ok_M_readName 1 (q' := (bif decide ((bz (isReg (b k))) = 0) then 172 else 52, [some (.ref 19), some (.int (nI p)), some (.int (nI nv)), none, none, none], [], wd C Y og)) rfl ?_
    refine am_bz_r (fun h_3 => ?_) (fun h_3 => ?_)
    · skip
      have hlt : k < e := by rw [he]; exact (wEnd_iff hT.2.2.2.1 (p := p + 1) (by omega) (by omega) (by omega)).mp h_3
      have hrd := hT.2.2.1 k (by omega)
      refine am_steps_r ok_M_readName 4 (q' := (60, [some (.ref 19), some (.int (nI p)), some (.int (nI nv)), none, none, none], [.int (Y.1 6), .ref 20], wd C Y og)) rfl ?_
      rw [show (Y.1 6 : Int32) = nI k from ha]
      refine am_iald_r ok_M_readName rfl (w := wd C Y og) (f := Y.2.1 0) rfl rfl (pk_in k 1600 (by omega)) ?_
      rw [nI_clamp (show k < 2 ^ 31 by omega)]
      rw [hrd]
      refine am_steps_r ok_M_readName 4 (q' := (bif decide ((b k) = 35) then 68 else 84, [some (.ref 19), some (.int (nI p)), some (.int (nI nv)), some (.int (b k)), none, none], [], wd C Y og)) rfl ?_
      refine am_br_r (fun h_4 => ?_) (fun h_4 => ?_)
      · skip
        refine am_steps_r ok_M_readName 5 (q' := (75, [some (.ref 19), some (.int (nI p)), some (.int (nI nv)), some (.int (b k)), none, none], [.int ((Y.1 6) + 1), .ref 19], wd C Y og)) rfl ?_
        rw [show (Y.1 6 : Int32) = nI k from ha]
        rw [show ((nI k) + 1 : Int32) = nI (k + 1) from nI_add k 1]
        refine am_callV_r (As := [.int (nI (k + 1))]) (rest := []) ok_M_readName rfl rfl ok_M_byteAt oi_M_byteAt lk_6_78 (Or.inl ⟨_, _, _, rfl, rfl, rfl⟩) rfl rfl (Nat.le_of_ble_eq_true rfl) (c_M_byteAt _ C Y og n b hT (k + 1) (by omega)) ?_
        rintro v_ w_ ⟨rfl, rfl⟩ -
        refine am_eq_r (q' := (78, [some (.ref 19), some (.int (nI p)), some (.int (nI nv)), some (.int (b k)), none, none], [.int (b (k + 1))], wd C Y og)) rfl ?_
        refine am_callS_r (As := [.int (b (k + 1))]) (rest := []) ok_M_readName rfl rfl ok_M_hex os_M_hex lk_6_154 rfl rfl (Nat.le_of_ble_eq_true rfl) (c_M_hex _ C Y og (b (k + 1))) ?_
        rintro v_ w_ ⟨rfl, rfl⟩ -
        refine am_eq_r (q' := (81, [some (.ref 19), some (.int (nI p)), some (.int (nI nv)), some (.int (b k)), none, none], [.int (hexV (b (k + 1)))], wd C Y og)) rfl ?_
        refine am_steps_r ok_M_readName 4 (q' := (bif decide ((hexV (b (k + 1))) < 0) then 108 else 92, [some (.ref 19), some (.int (nI p)), some (.int (nI nv)), some (.int (b k)), some (.int (hexV (b (k + 1)))), none], [], wd C Y og)) rfl ?_
        refine am_br_r (fun h_7 => ?_) (fun h_7 => ?_)
        · skip
          have hv_8 : hexV (b (k + 1)) = -1 := hexV_neg h_7
          refine am_steps_r ok_M_readName 8 (q' := (151, [some (.ref 19), some (.int (nI p)), some (.int (nI nv)), some (.int (b k)), some (.int (hexV (b (k + 1)))), some (.int (-1))], [.int (nI p), .int 40, .int (b k), .ref 19], wd C Y og)) rfl ?_
          refine am_callV_r (As := [.int (b k), .int 40, .int (nI p)]) (rest := []) ok_M_readName rfl rfl ok_M_gets oi_M_gets lk_6_157 (Or.inl ⟨_, _, _, rfl, rfl, rfl⟩) rfl rfl (Nat.le_of_ble_eq_true rfl) (c_M_gets _ C Y og Y0 nv u V _ acc hL (b k) 40 (by omega) (by omega) p k (by first | rfl | exact ha)) ?_
          rintro v_ w_ (⟨q_12, rfl, Y_9, rfl, ha_10, hL_11⟩ | ⟨q_12, rfl, rfl⟩) -
          · skip
            have hT := tpY_f hT0 hL_11.2.2.2.1
            refine am_eq_r (q' := (154, [some (.ref 19), some (.int (nI p)), some (.int (nI nv)), some (.int (b k)), some (.int (hexV (b (k + 1)))), some (.int (-1))], [.int 1], wd C Y_9 og)) rfl ?_
            refine am_steps_r ok_M_readName 8 (q' := (38, [some (.ref 19), some (.int (nI p)), some (.int (nI nv)), some (.int (b k)), some (.int (hexV (b (k + 1)))), some (.int (-1))], [], wd C (upd Y_9.1 6 ((Y_9.1 6) + 1), Y_9.2) og)) rfl ?_
            rw [show (Y_9.1 6 : Int32) = nI k from ha_10]
            rw [show ((nI k) + 1 : Int32) = nI (k + 1) from nI_add k 1]
            refine am_drop_r [3, 4, 5] (L' := [some (.ref 19), some (.int (nI p)), some (.int (nI nv)), none, none, none]) rfl ?_
            have hc : nmC b k = false := by simp [nmC, *]
            refine ih post (upd Y_9.1 6 (nI (k + 1)), Y_9.2) (k + 1) (acc ++ [(b k)]) hL_11 rfl (by omega) (by omega) (by simp; omega) (by simp; omega) (fun vr w' hw => hpo vr w' ?_) (by omega)
            rw [nmR_pla (by omega) (by omega) hc]
            exact hw
          · skip
            refine am_eq_r (q' := (154, [some (.ref 19), some (.int (nI p)), some (.int (nI nv)), some (.int (b k)), some (.int (hexV (b (k + 1)))), some (.int (-1))], [.int 0], wd C (upd (upd Y.1 7 3) 8 (nI p), Y.2) og)) rfl ?_
            refine am_steps_r ok_M_readName 2 (q' := (158, [some (.ref 19), some (.int (nI p)), some (.int (nI nv)), some (.int (b k)), some (.int (hexV (b (k + 1)))), some (.int (-1))], [.int 0], wd C (upd (upd Y.1 7 3) 8 (nI p), Y.2) og)) rfl ?_
            refine am_zret_r ok_M_readName rfl rfl rfl rfl ?_
            refine hpo _ _ ?_
            rw [nmR_ful (by omega) (by omega)]
            exact lfQ_bad  hL 3 p
        · skip
          have hv_13 : ¬ hexV (b (k + 1)) = -1 := hexV_pos h_7
          refine am_steps_r ok_M_readName 5 (q' := (99, [some (.ref 19), some (.int (nI p)), some (.int (nI nv)), some (.int (b k)), some (.int (hexV (b (k + 1)))), none], [.int ((Y.1 6) + 2), .ref 19], wd C Y og)) rfl ?_
          rw [show (Y.1 6 : Int32) = nI k from ha]
          rw [show ((nI k) + 2 : Int32) = nI (k + 2) from nI_add k 2]
          refine am_callV_r (As := [.int (nI (k + 2))]) (rest := []) ok_M_readName rfl rfl ok_M_byteAt oi_M_byteAt lk_6_78 (Or.inl ⟨_, _, _, rfl, rfl, rfl⟩) rfl rfl (Nat.le_of_ble_eq_true rfl) (c_M_byteAt _ C Y og n b hT (k + 2) (by omega)) ?_
          rintro v_ w_ ⟨rfl, rfl⟩ -
          refine am_eq_r (q' := (102, [some (.ref 19), some (.int (nI p)), some (.int (nI nv)), some (.int (b k)), some (.int (hexV (b (k + 1)))), none], [.int (b (k + 2))], wd C Y og)) rfl ?_
          refine am_callS_r (As := [.int (b (k + 2))]) (rest := []) ok_M_readName rfl rfl ok_M_hex os_M_hex lk_6_154 rfl rfl (Nat.le_of_ble_eq_true rfl) (c_M_hex _ C Y og (b (k + 2))) ?_
          rintro v_ w_ ⟨rfl, rfl⟩ -
          refine am_eq_r (q' := (105, [some (.ref 19), some (.int (nI p)), some (.int (nI nv)), some (.int (b k)), some (.int (hexV (b (k + 1)))), none], [.int (hexV (b (k + 2)))], wd C Y og)) rfl ?_
          refine am_steps_r ok_M_readName 4 (q' := (bif decide ((hexV (b (k + 2))) < 0) then 146 else 116, [some (.ref 19), some (.int (nI p)), some (.int (nI nv)), some (.int (b k)), some (.int (hexV (b (k + 1)))), some (.int (hexV (b (k + 2))))], [], wd C Y og)) rfl ?_
          refine am_br_r (fun h_16 => ?_) (fun h_16 => ?_)
          · skip
            have hv_17 : hexV (b (k + 2)) = -1 := hexV_neg h_16
            refine am_steps_r ok_M_readName 4 (q' := (151, [some (.ref 19), some (.int (nI p)), some (.int (nI nv)), some (.int (b k)), some (.int (hexV (b (k + 1)))), some (.int (hexV (b (k + 2))))], [.int (nI p), .int 40, .int (b k), .ref 19], wd C Y og)) rfl ?_
            refine am_callV_r (As := [.int (b k), .int 40, .int (nI p)]) (rest := []) ok_M_readName rfl rfl ok_M_gets oi_M_gets lk_6_157 (Or.inl ⟨_, _, _, rfl, rfl, rfl⟩) rfl rfl (Nat.le_of_ble_eq_true rfl) (c_M_gets _ C Y og Y0 nv u V _ acc hL (b k) 40 (by omega) (by omega) p k (by first | rfl | exact ha)) ?_
            rintro v_ w_ (⟨q_21, rfl, Y_18, rfl, ha_19, hL_20⟩ | ⟨q_21, rfl, rfl⟩) -
            · skip
              have hT := tpY_f hT0 hL_20.2.2.2.1
              refine am_eq_r (q' := (154, [some (.ref 19), some (.int (nI p)), some (.int (nI nv)), some (.int (b k)), some (.int (hexV (b (k + 1)))), some (.int (hexV (b (k + 2))))], [.int 1], wd C Y_18 og)) rfl ?_
              refine am_steps_r ok_M_readName 8 (q' := (38, [some (.ref 19), some (.int (nI p)), some (.int (nI nv)), some (.int (b k)), some (.int (hexV (b (k + 1)))), some (.int (hexV (b (k + 2))))], [], wd C (upd Y_18.1 6 ((Y_18.1 6) + 1), Y_18.2) og)) rfl ?_
              rw [show (Y_18.1 6 : Int32) = nI k from ha_19]
              rw [show ((nI k) + 1 : Int32) = nI (k + 1) from nI_add k 1]
              refine am_drop_r [3, 4, 5] (L' := [some (.ref 19), some (.int (nI p)), some (.int (nI nv)), none, none, none]) rfl ?_
              have hc : nmC b k = false := by simp [nmC, *]
              refine ih post (upd Y_18.1 6 (nI (k + 1)), Y_18.2) (k + 1) (acc ++ [(b k)]) hL_20 rfl (by omega) (by omega) (by simp; omega) (by simp; omega) (fun vr w' hw => hpo vr w' ?_) (by omega)
              rw [nmR_pla (by omega) (by omega) hc]
              exact hw
            · skip
              refine am_eq_r (q' := (154, [some (.ref 19), some (.int (nI p)), some (.int (nI nv)), some (.int (b k)), some (.int (hexV (b (k + 1)))), some (.int (hexV (b (k + 2))))], [.int 0], wd C (upd (upd Y.1 7 3) 8 (nI p), Y.2) og)) rfl ?_
              refine am_steps_r ok_M_readName 2 (q' := (158, [some (.ref 19), some (.int (nI p)), some (.int (nI nv)), some (.int (b k)), some (.int (hexV (b (k + 1)))), some (.int (hexV (b (k + 2))))], [.int 0], wd C (upd (upd Y.1 7 3) 8 (nI p), Y.2) og)) rfl ?_
              refine am_zret_r ok_M_readName rfl rfl rfl rfl ?_
              refine hpo _ _ ?_
              rw [nmR_ful (by omega) (by omega)]
              exact lfQ_bad  hL 3 p
          · skip
            have hv_22 : ¬ hexV (b (k + 2)) = -1 := hexV_pos h_16
            have hc : nmC b k = true := by simp [nmC, *]
            have hin := nmC_in hT.2.2.2.1 (p := p + 1) (by omega) (by omega) (by omega) hc
            refine am_steps_r ok_M_readName 14 (q' := (bif decide (((16 * (hexV (b (k + 1)))) + (hexV (b (k + 2)))) = 0) then 139 else 146, [some (.ref 19), some (.int (nI p)), some (.int (nI nv)), some (.int ((16 * (hexV (b (k + 1)))) + (hexV (b (k + 2))))), some (.int (hexV (b (k + 1)))), some (.int (hexV (b (k + 2))))], [], wd C (upd Y.1 6 ((Y.1 6) + 2), Y.2) og)) rfl ?_
            rw [show (Y.1 6 : Int32) = nI k from ha]
            rw [show ((nI k) + 2 : Int32) = nI (k + 2) from nI_add k 2]
            refine am_br_r (fun h_23 => ?_) (fun h_23 => ?_)
            · skip
              refine am_steps_r ok_M_readName 3 (q' := (142, [some (.ref 19), some (.int (nI p)), some (.int (nI nv)), some (.int ((16 * (hexV (b (k + 1)))) + (hexV (b (k + 2))))), some (.int (hexV (b (k + 1)))), some (.int (hexV (b (k + 2))))], [.int (nI p), .int 3, .ref 19], wd C (upd Y.1 6 (nI (k + 2)), Y.2) og)) rfl ?_
              refine am_callV_r (As := [.int 3, .int (nI p)]) (rest := []) ok_M_readName rfl rfl ok_M_fails oi_M_fails lk_6_139 (Or.inl ⟨_, _, _, rfl, rfl, rfl⟩) rfl rfl (Nat.le_of_ble_eq_true rfl) (c_M_fails _ C (upd Y.1 6 (nI (k + 2)), Y.2) og 3 (nI p)) ?_
              rintro v_ w_ ⟨rfl, rfl⟩ -
              refine am_eq_r (q' := (145, [some (.ref 19), some (.int (nI p)), some (.int (nI nv)), some (.int ((16 * (hexV (b (k + 1)))) + (hexV (b (k + 2))))), some (.int (hexV (b (k + 1)))), some (.int (hexV (b (k + 2))))], [.int 0], wd C (upd (upd (upd Y.1 6 (nI (k + 2))) 7 3) 8 (nI p), Y.2) og)) rfl ?_
              refine am_zret_r ok_M_readName rfl rfl rfl rfl ?_
              refine hpo _ _ ?_
              rw [nmR_nul (by omega) hc (by rw [Int32.mul_comm (hexV (b (k + 1))) 16]; assumption)]
              exact lfQ_bad (Y := (upd Y.1 6 (nI (k + 2)), Y.2)) hL 3 p
            · skip
              refine am_steps_r ok_M_readName 4 (q' := (151, [some (.ref 19), some (.int (nI p)), some (.int (nI nv)), some (.int ((16 * (hexV (b (k + 1)))) + (hexV (b (k + 2))))), some (.int (hexV (b (k + 1)))), some (.int (hexV (b (k + 2))))], [.int (nI p), .int 40, .int ((16 * (hexV (b (k + 1)))) + (hexV (b (k + 2)))), .ref 19], wd C (upd Y.1 6 (nI (k + 2)), Y.2) og)) rfl ?_
              refine am_callV_r (As := [.int ((16 * (hexV (b (k + 1)))) + (hexV (b (k + 2)))), .int 40, .int (nI p)]) (rest := []) ok_M_readName rfl rfl ok_M_gets oi_M_gets lk_6_157 (Or.inl ⟨_, _, _, rfl, rfl, rfl⟩) rfl rfl (Nat.le_of_ble_eq_true rfl) (c_M_gets _ C (upd Y.1 6 (nI (k + 2)), Y.2) og Y0 nv u V _ acc hL ((16 * (hexV (b (k + 1)))) + (hexV (b (k + 2)))) 40 (by omega) (by omega) p (k + 2) (by first | rfl | exact ha)) ?_
              rintro v_ w_ (⟨q_28, rfl, Y_25, rfl, ha_26, hL_27⟩ | ⟨q_28, rfl, rfl⟩) -
              · skip
                have hT := tpY_f hT0 hL_27.2.2.2.1
                refine am_eq_r (q' := (154, [some (.ref 19), some (.int (nI p)), some (.int (nI nv)), some (.int ((16 * (hexV (b (k + 1)))) + (hexV (b (k + 2))))), some (.int (hexV (b (k + 1)))), some (.int (hexV (b (k + 2))))], [.int 1], wd C Y_25 og)) rfl ?_
                refine am_steps_r ok_M_readName 8 (q' := (38, [some (.ref 19), some (.int (nI p)), some (.int (nI nv)), some (.int ((16 * (hexV (b (k + 1)))) + (hexV (b (k + 2))))), some (.int (hexV (b (k + 1)))), some (.int (hexV (b (k + 2))))], [], wd C (upd Y_25.1 6 ((Y_25.1 6) + 1), Y_25.2) og)) rfl ?_
                rw [show (Y_25.1 6 : Int32) = nI (k + 2) from ha_26]
                rw [show ((nI (k + 2)) + 1 : Int32) = nI ((k + 2) + 1) from nI_add (k + 2) 1]
                refine am_drop_r [3, 4, 5] (L' := [some (.ref 19), some (.int (nI p)), some (.int (nI nv)), none, none, none]) rfl ?_
                refine am_eq_r (q' := (38, [some (.ref 19), some (.int (nI p)), some (.int (nI nv)), none, none, none], [], wd C (upd Y_25.1 6 (nI (k + 3)), Y_25.2) og)) rfl ?_
                refine ih post (upd Y_25.1 6 (nI (k + 3)), Y_25.2) (k + 3) (acc ++ [((16 * (hexV (b (k + 1)))) + (hexV (b (k + 2))))]) hL_27 rfl (by omega) (by omega) (by simp; omega) (by simp; omega) (fun vr w' hw => hpo vr w' ?_) (by omega)
                rw [nmR_cod (by omega) (by omega) hc (by rw [Int32.mul_comm (hexV (b (k + 1))) 16]; assumption), Int32.mul_comm (hexV (b (k + 1))) 16]
                exact hw
              · skip
                refine am_eq_r (q' := (154, [some (.ref 19), some (.int (nI p)), some (.int (nI nv)), some (.int ((16 * (hexV (b (k + 1)))) + (hexV (b (k + 2))))), some (.int (hexV (b (k + 1)))), some (.int (hexV (b (k + 2))))], [.int 0], wd C (upd (upd (upd Y.1 6 (nI (k + 2))) 7 3) 8 (nI p), Y.2) og)) rfl ?_
                refine am_steps_r ok_M_readName 2 (q' := (158, [some (.ref 19), some (.int (nI p)), some (.int (nI nv)), some (.int ((16 * (hexV (b (k + 1)))) + (hexV (b (k + 2))))), some (.int (hexV (b (k + 1)))), some (.int (hexV (b (k + 2))))], [.int 0], wd C (upd (upd (upd Y.1 6 (nI (k + 2))) 7 3) 8 (nI p), Y.2) og)) rfl ?_
                refine am_zret_r ok_M_readName rfl rfl rfl rfl ?_
                refine hpo _ _ ?_
                rw [nmR_ful (by omega) (by omega)]
                exact lfQ_bad (Y := (upd Y.1 6 (nI (k + 2)), Y.2)) hL 3 p
      · skip
        refine am_steps_r ok_M_readName 12 (q' := (151, [some (.ref 19), some (.int (nI p)), some (.int (nI nv)), some (.int (b k)), some (.int (-1)), some (.int (-1))], [.int (nI p), .int 40, .int (b k), .ref 19], wd C Y og)) rfl ?_
        refine am_callV_r (As := [.int (b k), .int 40, .int (nI p)]) (rest := []) ok_M_readName rfl rfl ok_M_gets oi_M_gets lk_6_157 (Or.inl ⟨_, _, _, rfl, rfl, rfl⟩) rfl rfl (Nat.le_of_ble_eq_true rfl) (c_M_gets _ C Y og Y0 nv u V _ acc hL (b k) 40 (by omega) (by omega) p k (by first | rfl | exact ha)) ?_
        rintro v_ w_ (⟨q_32, rfl, Y_29, rfl, ha_30, hL_31⟩ | ⟨q_32, rfl, rfl⟩) -
        · skip
          have hT := tpY_f hT0 hL_31.2.2.2.1
          refine am_eq_r (q' := (154, [some (.ref 19), some (.int (nI p)), some (.int (nI nv)), some (.int (b k)), some (.int (-1)), some (.int (-1))], [.int 1], wd C Y_29 og)) rfl ?_
          refine am_steps_r ok_M_readName 8 (q' := (38, [some (.ref 19), some (.int (nI p)), some (.int (nI nv)), some (.int (b k)), some (.int (-1)), some (.int (-1))], [], wd C (upd Y_29.1 6 ((Y_29.1 6) + 1), Y_29.2) og)) rfl ?_
          rw [show (Y_29.1 6 : Int32) = nI k from ha_30]
          rw [show ((nI k) + 1 : Int32) = nI (k + 1) from nI_add k 1]
          refine am_drop_r [3, 4, 5] (L' := [some (.ref 19), some (.int (nI p)), some (.int (nI nv)), none, none, none]) rfl ?_
          have hc : nmC b k = false := by simp [nmC, *]
          refine ih post (upd Y_29.1 6 (nI (k + 1)), Y_29.2) (k + 1) (acc ++ [(b k)]) hL_31 rfl (by omega) (by omega) (by simp; omega) (by simp; omega) (fun vr w' hw => hpo vr w' ?_) (by omega)
          rw [nmR_pla (by omega) (by omega) hc]
          exact hw
        · skip
          refine am_eq_r (q' := (154, [some (.ref 19), some (.int (nI p)), some (.int (nI nv)), some (.int (b k)), some (.int (-1)), some (.int (-1))], [.int 0], wd C (upd (upd Y.1 7 3) 8 (nI p), Y.2) og)) rfl ?_
          refine am_steps_r ok_M_readName 2 (q' := (158, [some (.ref 19), some (.int (nI p)), some (.int (nI nv)), some (.int (b k)), some (.int (-1)), some (.int (-1))], [.int 0], wd C (upd (upd Y.1 7 3) 8 (nI p), Y.2) og)) rfl ?_
          refine am_zret_r ok_M_readName rfl rfl rfl rfl ?_
          refine hpo _ _ ?_
          rw [nmR_ful (by omega) (by omega)]
          exact lfQ_bad  hL 3 p
    · skip
      have hge : ¬ k < e := fun z => by rw [he] at z; rw [(wEnd_iff hT.2.2.2.1 (p := p + 1) (by omega) (by omega) (by omega)).mpr z] at h_3; cases h_3
      refine am_steps_r ok_M_readName 3 (q' := (175, [some (.ref 19), some (.int (nI p)), some (.int (nI nv)), none, none, none], [.int (nI p), .int (nI nv), .ref 19], wd C Y og)) rfl ?_
      refine am_callV_r (As := [.int (nI nv), .int (nI p)]) (rest := []) ok_M_readName rfl rfl ok_M_keepBytes oi_M_keepBytes lk_6_161 (Or.inl ⟨_, _, _, rfl, rfl, rfl⟩) rfl rfl (Nat.le_of_ble_eq_true rfl) (c_M_keepBytes _ C Y og (nv + 1) u hL.1.1 nv acc.length (by omega) hL.2.1 (by omega) (by omega) (nI p)) ?_
      rintro v_ w_ ⟨rfl, rfl⟩ -
      refine am_eq_r (q' := (178, [some (.ref 19), some (.int (nI p)), some (.int (nI nv)), none, none, none], [.int 1], wd C (yKeep Y nv u acc.length) og)) rfl ?_
      refine am_zret_r ok_M_readName rfl rfl rfl rfl ?_
      refine hpo _ _ ?_
      rw [nmR_end hge]
      exact lfQ_ok hL ha (by omega)
set_option maxHeartbeats 1000000 in
set_option maxRecDepth 100000 in
theorem c_M_readName (d : Nat) (C : wd_C) (Y : wd_Y) (og : Nat → Int64) (n : Nat) (b : Nat → Int32) (hT : tpY Y n b) (nv u : Nat) (V : VT) (hY : vsY Y nv u V) (ho : vok nv V) (h3 : nv < 300) (k : Nat) (ha : Y.1 6 = nI k) (hk : k < n) (huk : u ≤ k)  : am_Mt l D cA ad fm (d + 2) m_M_readName [.ref 19] (wd C Y og) (lfQ Y C og nv u V (nmL k (nmR b (wEnd n b (k + 1)) 2000 (k + 1) []))) := by
  have hn := hT.2.1
  have hw := wEnd_le n b (k := k + 1) (by omega)
  refine am_mt ok_M_readName (by simp [am_arg, Value.category, m_M_readName, am_ml]) ?_
  refine am_eq_r (q' := (0, [some (.ref 19), none, none, none, none, none], [], wd C Y og)) rfl ?_
  refine am_steps_r ok_M_readName 6 (q' := (8, [some (.ref 19), some (.int (Y.1 6)), none, none, none, none], [.int (Y.1 6), .int 4, .ref 19], wd C Y og)) rfl ?_
  rw [show (Y.1 6 : Int32) = nI k from ha]
  refine am_callV_r (As := [.int 4, .int (nI k)]) (rest := []) ok_M_readName rfl rfl ok_M_begins oi_M_begins lk_6_151 (Or.inl ⟨_, _, _, rfl, rfl, rfl⟩) rfl rfl (Nat.le_of_ble_eq_true rfl) (c_M_begins_in _ C Y og nv u hY.1 h3 4 (nI k)) ?_
  rintro v_ w_ ⟨rfl, rfl⟩ -
  refine am_eq_r (q' := (11, [some (.ref 19), some (.int (nI k)), none, none, none, none], [.int 1], wd C (yNew Y nv u 4) og)) rfl ?_
  refine am_steps_r ok_M_readName 15 (q' := (38, [some (.ref 19), some (.int (nI k)), some (.int (((yNew Y nv u 4).1 4) - 1)), none, none, none], [], wd C (upd (upd ((yNew Y nv u 4).1) 10 0) 6 (((yNew Y nv u 4).1 6) + 1), (yNew Y nv u 4).2) og)) rfl ?_
  rw [show ((yNew Y nv u 4).1 4 : Int32) = nI (nv + 1) from rfl]
  rw [show ((nI (nv + 1)) - 1 : Int32) = nI nv from pk_sub (a := nv + 1) (b := 1) (by omega)]
  rw [show ((yNew Y nv u 4).1 6 : Int32) = nI k from ha]
  rw [show ((nI k) + 1 : Int32) = nI (k + 1) from nI_add k 1]
  refine am_eq_r (q' := (38, [some (.ref 19), some (.int (nI k)), some (.int (nI nv)), none, none, none], [], wd C (upd (upd ((yNew Y nv u 4).1) 10 0) 6 (nI (k + 1)), (yNew Y nv u 4).2) og)) rfl ?_
  exact lp_M_readName_38 d C og n b Y hT nv u V k _ hk rfl 2000 _ (upd (upd ((yNew Y nv u 4).1) 10 0) 6 (nI (k + 1)), (yNew Y nv u 4).2) (k + 1) [] (lfD_begin hY ho h3 4 _) rfl (by omega) (by omega) (by simp) (by simp; omega) (fun _ _ hw => hw) (by omega)
set_option maxHeartbeats 1000000 in
set_option maxRecDepth 100000 in
theorem lp_M_escaped_25 (d : Nat) (C : wd_C) (Y : wd_Y) (og : Nat → Int64) (n : Nat) (b : Nat → Int32) (hT : tpY Y n b) (c : Int32) : ∀ (fu : Nat) (post : Option Value → am_W → Prop) (i : Nat) (j : Nat) (s : Int32), (i ≤ 3) → (j + (3 - i) ≤ 3000) →  post (some (.int (ocV b (3 - i) j s &&& 255))) (wd C (upd Y.1 6 (nI (ocE b (3 - i) j)), Y.2) og) → 3 - i < fu → am_Rn l D cA ad fm (d + 2) m_M_escaped (wd C Y og).length post (25, [some (.ref 19), some (.int c), some (.int s), some (.int (nI i))], [], wd C (upd Y.1 6 (nI j), Y.2) og) := by
  intro fu
  induction fu with
  | zero => intro post i j s hi hj hp hfu; exact absurd hfu (Nat.not_lt_zero _)
  | succ fu ih =>
    intro post i j s hi hj hp hfu
    have hn := hT.2.1
    refine am_steps_r ok_M_escaped 3 (q' := (bif decide (3 ≤ (nI i)) then 90 else 30, [some (.ref 19), some (.int c), some (.int s), some (.int (nI i))], [], wd C (upd Y.1 6 (nI j), Y.2) og)) rfl ?_
    refine am_br_r (fun h_1 => ?_) (fun h_1 => ?_)
    · skip
      have h_1 : 3 ≤ i := (nI_leI (show 3 < 2 ^ 31 by omega) (show i < 2 ^ 31 by omega)).mp h_1
      refine am_steps_r ok_M_escaped 3 (q' := (95, [some (.ref 19), some (.int c), some (.int s), some (.int (nI i))], [.int (s &&& 255)], wd C (upd Y.1 6 (nI j), Y.2) og)) rfl ?_
      refine am_iret_r ok_M_escaped rfl rfl rfl ?_
      first | (rw [show 3 - i = 0 by omega, ocV, ocE] at hp; exact hp) | (rw [(ocV_lo (b := b) (f := 3 - i) (k := j) (s := s) (fun z => by first | exact absurd (Int32.lt_of_lt_of_le (by assumption) z.1) Int32.lt_irrefl | exact absurd (Int32.lt_of_lt_of_le (by assumption) z.2) Int32.lt_irrefl)).1, (ocV_lo (b := b) (f := 3 - i) (k := j) (s := s) (fun z => by first | exact absurd (Int32.lt_of_lt_of_le (by assumption) z.1) Int32.lt_irrefl | exact absurd (Int32.lt_of_lt_of_le (by assumption) z.2) Int32.lt_irrefl)).2] at hp; exact hp)
    · skip
      have h_1 : ¬ 3 ≤ i := fun z => h_1 ((nI_leI (show 3 < 2 ^ 31 by omega) (show i < 2 ^ 31 by omega)).mpr z)
      refine am_steps_r ok_M_escaped 3 (q' := (35, [some (.ref 19), some (.int c), some (.int s), some (.int (nI i))], [.int (nI j), .ref 19], wd C (upd Y.1 6 (nI j), Y.2) og)) rfl ?_
      refine am_callV_r (As := [.int (nI j)]) (rest := []) ok_M_escaped rfl rfl ok_M_byteAt oi_M_byteAt lk_6_78 (Or.inl ⟨_, _, _, rfl, rfl, rfl⟩) rfl rfl (Nat.le_of_ble_eq_true rfl) (c_M_byteAt _ C (upd Y.1 6 (nI j), Y.2) og n b hT j (by omega)) ?_
      rintro v_ w_ ⟨rfl, rfl⟩ -
      refine am_eq_r (q' := (38, [some (.ref 19), some (.int c), some (.int s), some (.int (nI i))], [.int (b j)], wd C (upd Y.1 6 (nI j), Y.2) og)) rfl ?_
      refine am_steps_r ok_M_escaped 2 (q' := (bif decide ((b j) < 48) then 90 else 43, [some (.ref 19), some (.int c), some (.int s), some (.int (nI i))], [], wd C (upd Y.1 6 (nI j), Y.2) og)) rfl ?_
      refine am_br_r (fun h_3 => ?_) (fun h_3 => ?_)
      · skip
        refine am_steps_r ok_M_escaped 3 (q' := (95, [some (.ref 19), some (.int c), some (.int s), some (.int (nI i))], [.int (s &&& 255)], wd C (upd Y.1 6 (nI j), Y.2) og)) rfl ?_
        refine am_iret_r ok_M_escaped rfl rfl rfl ?_
        first | (rw [show 3 - i = 0 by omega, ocV, ocE] at hp; exact hp) | (rw [(ocV_lo (b := b) (f := 3 - i) (k := j) (s := s) (fun z => by first | exact absurd (Int32.lt_of_lt_of_le (by assumption) z.1) Int32.lt_irrefl | exact absurd (Int32.lt_of_lt_of_le (by assumption) z.2) Int32.lt_irrefl)).1, (ocV_lo (b := b) (f := 3 - i) (k := j) (s := s) (fun z => by first | exact absurd (Int32.lt_of_lt_of_le (by assumption) z.1) Int32.lt_irrefl | exact absurd (Int32.lt_of_lt_of_le (by assumption) z.2) Int32.lt_irrefl)).2] at hp; exact hp)
      · skip
        refine am_steps_r ok_M_escaped 3 (q' := (48, [some (.ref 19), some (.int c), some (.int s), some (.int (nI i))], [.int (nI j), .ref 19], wd C (upd Y.1 6 (nI j), Y.2) og)) rfl ?_
        refine am_callV_r (As := [.int (nI j)]) (rest := []) ok_M_escaped rfl rfl ok_M_byteAt oi_M_byteAt lk_6_78 (Or.inl ⟨_, _, _, rfl, rfl, rfl⟩) rfl rfl (Nat.le_of_ble_eq_true rfl) (c_M_byteAt _ C (upd Y.1 6 (nI j), Y.2) og n b hT j (by omega)) ?_
        rintro v_ w_ ⟨rfl, rfl⟩ -
        refine am_eq_r (q' := (51, [some (.ref 19), some (.int c), some (.int s), some (.int (nI i))], [.int (b j)], wd C (upd Y.1 6 (nI j), Y.2) og)) rfl ?_
        refine am_steps_r ok_M_escaped 2 (q' := (bif decide (55 < (b j)) then 90 else 56, [some (.ref 19), some (.int c), some (.int s), some (.int (nI i))], [], wd C (upd Y.1 6 (nI j), Y.2) og)) rfl ?_
        refine am_br_r (fun h_5 => ?_) (fun h_5 => ?_)
        · skip
          refine am_steps_r ok_M_escaped 3 (q' := (95, [some (.ref 19), some (.int c), some (.int s), some (.int (nI i))], [.int (s &&& 255)], wd C (upd Y.1 6 (nI j), Y.2) og)) rfl ?_
          refine am_iret_r ok_M_escaped rfl rfl rfl ?_
          first | (rw [show 3 - i = 0 by omega, ocV, ocE] at hp; exact hp) | (rw [(ocV_lo (b := b) (f := 3 - i) (k := j) (s := s) (fun z => by first | exact absurd (Int32.lt_of_lt_of_le (by assumption) z.1) Int32.lt_irrefl | exact absurd (Int32.lt_of_lt_of_le (by assumption) z.2) Int32.lt_irrefl)).1, (ocV_lo (b := b) (f := 3 - i) (k := j) (s := s) (fun z => by first | exact absurd (Int32.lt_of_lt_of_le (by assumption) z.1) Int32.lt_irrefl | exact absurd (Int32.lt_of_lt_of_le (by assumption) z.2) Int32.lt_irrefl)).2] at hp; exact hp)
        · skip
          have hr : 48 ≤ b j ∧ b j ≤ 55 := ⟨Int32.not_lt.mp (by assumption), Int32.not_lt.mp (by assumption)⟩
          have hjn : j < n := by rcases Nat.lt_or_ge j n with h | h; exact h; rw [hT.2.2.2.1 j h] at hr; exact absurd hr.1 (by decide)
          have hrd := hT.2.2.1 j hjn
          refine am_steps_r ok_M_escaped 7 (q' := (68, [some (.ref 19), some (.int c), some (.int s), some (.int (nI i))], [.int (nI j), .ref 20, .int (8 * s)], wd C (upd Y.1 6 (nI j), Y.2) og)) rfl ?_
          refine am_iald_r ok_M_escaped rfl (w := wd C (upd Y.1 6 (nI j), Y.2) og) (f := Y.2.1 0) rfl rfl (pk_in j 1600 (by omega)) ?_
          rw [nI_clamp (show j < 2 ^ 31 by omega)]
          rw [hrd]
          refine am_steps_r ok_M_escaped 12 (q' := (25, [some (.ref 19), some (.int c), some (.int (((8 * s) + (b j)) - 48)), some (.int ((nI i) + 1))], [], wd C (upd Y.1 6 ((nI j) + 1), Y.2) og)) rfl ?_
          rw [show ((nI j) + 1 : Int32) = nI (j + 1) from nI_add j 1]
          rw [show ((nI i) + 1 : Int32) = nI (i + 1) from nI_add i 1]
          rw [Int32.mul_comm 8 s]
          refine ih post (i + 1) (j + 1) (s * 8 + b j - 48) (by omega) (by omega) ?_ (by omega)
          rw [show 3 - i = (3 - (i + 1)) + 1 by omega, ocV, ocE, if_pos hr, if_pos hr] at hp
          exact hp
set_option maxHeartbeats 1000000 in
set_option maxRecDepth 100000 in
theorem c_M_escaped (d : Nat) (C : wd_C) (Y : wd_Y) (og : Nat → Int64) (n : Nat) (b : Nat → Int32) (hT : tpY Y n b) (k : Nat) (hk : k < n) : am_Mt l D cA ad fm (d + 2) m_M_escaped [.ref 19] (wd C (upd Y.1 6 (nI k), Y.2) og) (fun vr w' => (isLE (b k) = true ∧ vr = some (.int (-1)) ∧ w' = wd C (upd Y.1 6 (nI (leE b k)), Y.2) og) ∨ (isLE (b k) = false ∧ vr = some (.int (esV b k)) ∧ w' = wd C (upd Y.1 6 (nI (esE b k)), Y.2) og)) := by
  have hn := hT.2.1
  refine am_mt ok_M_escaped (by simp [am_arg, Value.category, m_M_escaped, am_ml]) ?_
  refine am_eq_r (q' := (0, [some (.ref 19), none, none, none], [], wd C (upd Y.1 6 (nI k), Y.2) og)) rfl ?_
  refine am_steps_r ok_M_escaped 3 (q' := (5, [some (.ref 19), none, none, none], [.int (nI k), .ref 19], wd C (upd Y.1 6 (nI k), Y.2) og)) rfl ?_
  refine am_callV_r (As := [.int (nI k)]) (rest := []) ok_M_escaped rfl rfl ok_M_byteAt oi_M_byteAt lk_6_78 (Or.inl ⟨_, _, _, rfl, rfl, rfl⟩) rfl rfl (Nat.le_of_ble_eq_true rfl) (c_M_byteAt _ C (upd Y.1 6 (nI k), Y.2) og n b hT k (by omega)) ?_
  rintro v_ w_ ⟨rfl, rfl⟩ -
  refine am_eq_r (q' := (8, [some (.ref 19), none, none, none], [.int (b k)], wd C (upd Y.1 6 (nI k), Y.2) og)) rfl ?_
  refine am_steps_r ok_M_escaped 4 (q' := (bif decide ((b k) < 48) then 96 else 15, [some (.ref 19), some (.int (b k)), none, none], [], wd C (upd Y.1 6 (nI k), Y.2) og)) rfl ?_
  refine am_br_r (fun h_2 => ?_) (fun h_2 => ?_)
  · skip
    refine am_steps_r ok_M_escaped 3 (q' := (bif decide ((b k) = 10) then 108 else 102, [some (.ref 19), some (.int (b k)), none, none], [], wd C (upd Y.1 6 (nI k), Y.2) og)) rfl ?_
    refine am_br_r (fun h_3 => ?_) (fun h_3 => ?_)
    · skip
      refine am_steps_r ok_M_escaped 4 (q' := (114, [some (.ref 19), some (.int (b k)), none, none], [.int (nI k), .ref 19, .ref 19], wd C (upd Y.1 6 (nI k), Y.2) og)) rfl ?_
      refine am_callV_r (As := [.int (nI k)]) (rest := [.ref 19]) ok_M_escaped rfl rfl ok_M_behindLineEnd oi_M_behindLineEnd lk_6_164 (Or.inl ⟨_, _, _, rfl, rfl, rfl⟩) rfl rfl (Nat.le_of_ble_eq_true rfl) (c_M_behindLineEnd _ C (upd Y.1 6 (nI k), Y.2) og n b hT k (by omega)) ?_
      rintro v_ w_ ⟨rfl, rfl⟩ -
      refine am_eq_r (q' := (117, [some (.ref 19), some (.int (b k)), none, none], [.int (nI (leE b k)), .ref 19], wd C (upd Y.1 6 (nI k), Y.2) og)) rfl ?_
      refine am_steps_r ok_M_escaped 2 (q' := (121, [some (.ref 19), some (.int (b k)), none, none], [.int (-1)], wd C (upd Y.1 6 (nI (leE b k)), Y.2) og)) rfl ?_
      refine am_iret_r ok_M_escaped rfl rfl rfl ?_
      exact Or.inl ⟨by simp [isLE, *], rfl, rfl⟩
    · skip
      refine am_steps_r ok_M_escaped 3 (q' := (bif decide ((b k) = 13) then 108 else 122, [some (.ref 19), some (.int (b k)), none, none], [], wd C (upd Y.1 6 (nI k), Y.2) og)) rfl ?_
      refine am_br_r (fun h_5 => ?_) (fun h_5 => ?_)
      · skip
        refine am_steps_r ok_M_escaped 4 (q' := (114, [some (.ref 19), some (.int (b k)), none, none], [.int (nI k), .ref 19, .ref 19], wd C (upd Y.1 6 (nI k), Y.2) og)) rfl ?_
        refine am_callV_r (As := [.int (nI k)]) (rest := [.ref 19]) ok_M_escaped rfl rfl ok_M_behindLineEnd oi_M_behindLineEnd lk_6_164 (Or.inl ⟨_, _, _, rfl, rfl, rfl⟩) rfl rfl (Nat.le_of_ble_eq_true rfl) (c_M_behindLineEnd _ C (upd Y.1 6 (nI k), Y.2) og n b hT k (by omega)) ?_
        rintro v_ w_ ⟨rfl, rfl⟩ -
        refine am_eq_r (q' := (117, [some (.ref 19), some (.int (b k)), none, none], [.int (nI (leE b k)), .ref 19], wd C (upd Y.1 6 (nI k), Y.2) og)) rfl ?_
        refine am_steps_r ok_M_escaped 2 (q' := (121, [some (.ref 19), some (.int (b k)), none, none], [.int (-1)], wd C (upd Y.1 6 (nI (leE b k)), Y.2) og)) rfl ?_
        refine am_iret_r ok_M_escaped rfl rfl rfl ?_
        exact Or.inl ⟨by simp [isLE, *], rfl, rfl⟩
      · skip
        refine am_steps_r ok_M_escaped 9 (q' := (bif decide ((b k) = 110) then 138 else 143, [some (.ref 19), some (.int (b k)), none, none], [], wd C (upd Y.1 6 ((nI k) + 1), Y.2) og)) rfl ?_
        rw [show ((nI k) + 1 : Int32) = nI (k + 1) from nI_add k 1]
        refine am_br_r (fun h_7 => ?_) (fun h_7 => ?_)
        · skip
          refine am_steps_r ok_M_escaped 2 (q' := (188, [some (.ref 19), some (.int (b k)), none, none], [.int 10], wd C (upd Y.1 6 (nI (k + 1)), Y.2) og)) rfl ?_
          refine am_iret_r ok_M_escaped rfl rfl rfl ?_
          have hr : ¬ (48 ≤ b k ∧ b k ≤ 55) := fun z => by first | exact absurd (Int32.lt_of_lt_of_le (by assumption) z.1) Int32.lt_irrefl | exact absurd (Int32.lt_of_lt_of_le (by assumption) z.2) Int32.lt_irrefl
          refine Or.inr ⟨by simp [isLE, *], ?_, ?_⟩
          · rw [esV, if_neg hr]
            simp [esM, *]
          · rw [esE, if_neg hr]
        · skip
          refine am_steps_r ok_M_escaped 3 (q' := (bif decide ((b k) = 114) then 149 else 154, [some (.ref 19), some (.int (b k)), none, none], [], wd C (upd Y.1 6 (nI (k + 1)), Y.2) og)) rfl ?_
          refine am_br_r (fun h_8 => ?_) (fun h_8 => ?_)
          · skip
            refine am_steps_r ok_M_escaped 2 (q' := (188, [some (.ref 19), some (.int (b k)), none, none], [.int 13], wd C (upd Y.1 6 (nI (k + 1)), Y.2) og)) rfl ?_
            refine am_iret_r ok_M_escaped rfl rfl rfl ?_
            have hr : ¬ (48 ≤ b k ∧ b k ≤ 55) := fun z => by first | exact absurd (Int32.lt_of_lt_of_le (by assumption) z.1) Int32.lt_irrefl | exact absurd (Int32.lt_of_lt_of_le (by assumption) z.2) Int32.lt_irrefl
            refine Or.inr ⟨by simp [isLE, *], ?_, ?_⟩
            · rw [esV, if_neg hr]
              simp [esM, *]
            · rw [esE, if_neg hr]
          · skip
            refine am_steps_r ok_M_escaped 3 (q' := (bif decide ((b k) = 116) then 160 else 165, [some (.ref 19), some (.int (b k)), none, none], [], wd C (upd Y.1 6 (nI (k + 1)), Y.2) og)) rfl ?_
            refine am_br_r (fun h_9 => ?_) (fun h_9 => ?_)
            · skip
              refine am_steps_r ok_M_escaped 2 (q' := (188, [some (.ref 19), some (.int (b k)), none, none], [.int 9], wd C (upd Y.1 6 (nI (k + 1)), Y.2) og)) rfl ?_
              refine am_iret_r ok_M_escaped rfl rfl rfl ?_
              have hr : ¬ (48 ≤ b k ∧ b k ≤ 55) := fun z => by first | exact absurd (Int32.lt_of_lt_of_le (by assumption) z.1) Int32.lt_irrefl | exact absurd (Int32.lt_of_lt_of_le (by assumption) z.2) Int32.lt_irrefl
              refine Or.inr ⟨by simp [isLE, *], ?_, ?_⟩
              · rw [esV, if_neg hr]
                simp [esM, *]
              · rw [esE, if_neg hr]
            · skip
              refine am_steps_r ok_M_escaped 3 (q' := (bif decide ((b k) = 98) then 171 else 176, [some (.ref 19), some (.int (b k)), none, none], [], wd C (upd Y.1 6 (nI (k + 1)), Y.2) og)) rfl ?_
              refine am_br_r (fun h_10 => ?_) (fun h_10 => ?_)
              · skip
                refine am_steps_r ok_M_escaped 2 (q' := (188, [some (.ref 19), some (.int (b k)), none, none], [.int 8], wd C (upd Y.1 6 (nI (k + 1)), Y.2) og)) rfl ?_
                refine am_iret_r ok_M_escaped rfl rfl rfl ?_
                have hr : ¬ (48 ≤ b k ∧ b k ≤ 55) := fun z => by first | exact absurd (Int32.lt_of_lt_of_le (by assumption) z.1) Int32.lt_irrefl | exact absurd (Int32.lt_of_lt_of_le (by assumption) z.2) Int32.lt_irrefl
                refine Or.inr ⟨by simp [isLE, *], ?_, ?_⟩
                · rw [esV, if_neg hr]
                  simp [esM, *]
                · rw [esE, if_neg hr]
              · skip
                refine am_steps_r ok_M_escaped 3 (q' := (bif decide ((b k) = 102) then 182 else 187, [some (.ref 19), some (.int (b k)), none, none], [], wd C (upd Y.1 6 (nI (k + 1)), Y.2) og)) rfl ?_
                refine am_br_r (fun h_11 => ?_) (fun h_11 => ?_)
                · skip
                  refine am_steps_r ok_M_escaped 2 (q' := (188, [some (.ref 19), some (.int (b k)), none, none], [.int 12], wd C (upd Y.1 6 (nI (k + 1)), Y.2) og)) rfl ?_
                  refine am_iret_r ok_M_escaped rfl rfl rfl ?_
                  have hr : ¬ (48 ≤ b k ∧ b k ≤ 55) := fun z => by first | exact absurd (Int32.lt_of_lt_of_le (by assumption) z.1) Int32.lt_irrefl | exact absurd (Int32.lt_of_lt_of_le (by assumption) z.2) Int32.lt_irrefl
                  refine Or.inr ⟨by simp [isLE, *], ?_, ?_⟩
                  · rw [esV, if_neg hr]
                    simp [esM, *]
                  · rw [esE, if_neg hr]
                · skip
                  refine am_steps_r ok_M_escaped 1 (q' := (188, [some (.ref 19), some (.int (b k)), none, none], [.int (b k)], wd C (upd Y.1 6 (nI (k + 1)), Y.2) og)) rfl ?_
                  refine am_iret_r ok_M_escaped rfl rfl rfl ?_
                  have hr : ¬ (48 ≤ b k ∧ b k ≤ 55) := fun z => by first | exact absurd (Int32.lt_of_lt_of_le (by assumption) z.1) Int32.lt_irrefl | exact absurd (Int32.lt_of_lt_of_le (by assumption) z.2) Int32.lt_irrefl
                  refine Or.inr ⟨by simp [isLE, *], ?_, ?_⟩
                  · rw [esV, if_neg hr]
                    simp [esM, *]
                  · rw [esE, if_neg hr]
  · skip
    refine am_steps_r ok_M_escaped 3 (q' := (bif decide (55 < (b k)) then 96 else 21, [some (.ref 19), some (.int (b k)), none, none], [], wd C (upd Y.1 6 (nI k), Y.2) og)) rfl ?_
    refine am_br_r (fun h_12 => ?_) (fun h_12 => ?_)
    · skip
      refine am_steps_r ok_M_escaped 3 (q' := (bif decide ((b k) = 10) then 108 else 102, [some (.ref 19), some (.int (b k)), none, none], [], wd C (upd Y.1 6 (nI k), Y.2) og)) rfl ?_
      refine am_br_r (fun h_13 => ?_) (fun h_13 => ?_)
      · skip
        refine am_steps_r ok_M_escaped 4 (q' := (114, [some (.ref 19), some (.int (b k)), none, none], [.int (nI k), .ref 19, .ref 19], wd C (upd Y.1 6 (nI k), Y.2) og)) rfl ?_
        refine am_callV_r (As := [.int (nI k)]) (rest := [.ref 19]) ok_M_escaped rfl rfl ok_M_behindLineEnd oi_M_behindLineEnd lk_6_164 (Or.inl ⟨_, _, _, rfl, rfl, rfl⟩) rfl rfl (Nat.le_of_ble_eq_true rfl) (c_M_behindLineEnd _ C (upd Y.1 6 (nI k), Y.2) og n b hT k (by omega)) ?_
        rintro v_ w_ ⟨rfl, rfl⟩ -
        refine am_eq_r (q' := (117, [some (.ref 19), some (.int (b k)), none, none], [.int (nI (leE b k)), .ref 19], wd C (upd Y.1 6 (nI k), Y.2) og)) rfl ?_
        refine am_steps_r ok_M_escaped 2 (q' := (121, [some (.ref 19), some (.int (b k)), none, none], [.int (-1)], wd C (upd Y.1 6 (nI (leE b k)), Y.2) og)) rfl ?_
        refine am_iret_r ok_M_escaped rfl rfl rfl ?_
        exact Or.inl ⟨by simp [isLE, *], rfl, rfl⟩
      · skip
        refine am_steps_r ok_M_escaped 3 (q' := (bif decide ((b k) = 13) then 108 else 122, [some (.ref 19), some (.int (b k)), none, none], [], wd C (upd Y.1 6 (nI k), Y.2) og)) rfl ?_
        refine am_br_r (fun h_15 => ?_) (fun h_15 => ?_)
        · skip
          refine am_steps_r ok_M_escaped 4 (q' := (114, [some (.ref 19), some (.int (b k)), none, none], [.int (nI k), .ref 19, .ref 19], wd C (upd Y.1 6 (nI k), Y.2) og)) rfl ?_
          refine am_callV_r (As := [.int (nI k)]) (rest := [.ref 19]) ok_M_escaped rfl rfl ok_M_behindLineEnd oi_M_behindLineEnd lk_6_164 (Or.inl ⟨_, _, _, rfl, rfl, rfl⟩) rfl rfl (Nat.le_of_ble_eq_true rfl) (c_M_behindLineEnd _ C (upd Y.1 6 (nI k), Y.2) og n b hT k (by omega)) ?_
          rintro v_ w_ ⟨rfl, rfl⟩ -
          refine am_eq_r (q' := (117, [some (.ref 19), some (.int (b k)), none, none], [.int (nI (leE b k)), .ref 19], wd C (upd Y.1 6 (nI k), Y.2) og)) rfl ?_
          refine am_steps_r ok_M_escaped 2 (q' := (121, [some (.ref 19), some (.int (b k)), none, none], [.int (-1)], wd C (upd Y.1 6 (nI (leE b k)), Y.2) og)) rfl ?_
          refine am_iret_r ok_M_escaped rfl rfl rfl ?_
          exact Or.inl ⟨by simp [isLE, *], rfl, rfl⟩
        · skip
          refine am_steps_r ok_M_escaped 9 (q' := (bif decide ((b k) = 110) then 138 else 143, [some (.ref 19), some (.int (b k)), none, none], [], wd C (upd Y.1 6 ((nI k) + 1), Y.2) og)) rfl ?_
          rw [show ((nI k) + 1 : Int32) = nI (k + 1) from nI_add k 1]
          refine am_br_r (fun h_17 => ?_) (fun h_17 => ?_)
          · skip
            refine am_steps_r ok_M_escaped 2 (q' := (188, [some (.ref 19), some (.int (b k)), none, none], [.int 10], wd C (upd Y.1 6 (nI (k + 1)), Y.2) og)) rfl ?_
            refine am_iret_r ok_M_escaped rfl rfl rfl ?_
            have hr : ¬ (48 ≤ b k ∧ b k ≤ 55) := fun z => by first | exact absurd (Int32.lt_of_lt_of_le (by assumption) z.1) Int32.lt_irrefl | exact absurd (Int32.lt_of_lt_of_le (by assumption) z.2) Int32.lt_irrefl
            refine Or.inr ⟨by simp [isLE, *], ?_, ?_⟩
            · rw [esV, if_neg hr]
              simp [esM, *]
            · rw [esE, if_neg hr]
          · skip
            refine am_steps_r ok_M_escaped 3 (q' := (bif decide ((b k) = 114) then 149 else 154, [some (.ref 19), some (.int (b k)), none, none], [], wd C (upd Y.1 6 (nI (k + 1)), Y.2) og)) rfl ?_
            refine am_br_r (fun h_18 => ?_) (fun h_18 => ?_)
            · skip
              refine am_steps_r ok_M_escaped 2 (q' := (188, [some (.ref 19), some (.int (b k)), none, none], [.int 13], wd C (upd Y.1 6 (nI (k + 1)), Y.2) og)) rfl ?_
              refine am_iret_r ok_M_escaped rfl rfl rfl ?_
              have hr : ¬ (48 ≤ b k ∧ b k ≤ 55) := fun z => by first | exact absurd (Int32.lt_of_lt_of_le (by assumption) z.1) Int32.lt_irrefl | exact absurd (Int32.lt_of_lt_of_le (by assumption) z.2) Int32.lt_irrefl
              refine Or.inr ⟨by simp [isLE, *], ?_, ?_⟩
              · rw [esV, if_neg hr]
                simp [esM, *]
              · rw [esE, if_neg hr]
            · skip
              refine am_steps_r ok_M_escaped 3 (q' := (bif decide ((b k) = 116) then 160 else 165, [some (.ref 19), some (.int (b k)), none, none], [], wd C (upd Y.1 6 (nI (k + 1)), Y.2) og)) rfl ?_
              refine am_br_r (fun h_19 => ?_) (fun h_19 => ?_)
              · skip
                refine am_steps_r ok_M_escaped 2 (q' := (188, [some (.ref 19), some (.int (b k)), none, none], [.int 9], wd C (upd Y.1 6 (nI (k + 1)), Y.2) og)) rfl ?_
                refine am_iret_r ok_M_escaped rfl rfl rfl ?_
                have hr : ¬ (48 ≤ b k ∧ b k ≤ 55) := fun z => by first | exact absurd (Int32.lt_of_lt_of_le (by assumption) z.1) Int32.lt_irrefl | exact absurd (Int32.lt_of_lt_of_le (by assumption) z.2) Int32.lt_irrefl
                refine Or.inr ⟨by simp [isLE, *], ?_, ?_⟩
                · rw [esV, if_neg hr]
                  simp [esM, *]
                · rw [esE, if_neg hr]
              · skip
                refine am_steps_r ok_M_escaped 3 (q' := (bif decide ((b k) = 98) then 171 else 176, [some (.ref 19), some (.int (b k)), none, none], [], wd C (upd Y.1 6 (nI (k + 1)), Y.2) og)) rfl ?_
                refine am_br_r (fun h_20 => ?_) (fun h_20 => ?_)
                · skip
                  refine am_steps_r ok_M_escaped 2 (q' := (188, [some (.ref 19), some (.int (b k)), none, none], [.int 8], wd C (upd Y.1 6 (nI (k + 1)), Y.2) og)) rfl ?_
                  refine am_iret_r ok_M_escaped rfl rfl rfl ?_
                  have hr : ¬ (48 ≤ b k ∧ b k ≤ 55) := fun z => by first | exact absurd (Int32.lt_of_lt_of_le (by assumption) z.1) Int32.lt_irrefl | exact absurd (Int32.lt_of_lt_of_le (by assumption) z.2) Int32.lt_irrefl
                  refine Or.inr ⟨by simp [isLE, *], ?_, ?_⟩
                  · rw [esV, if_neg hr]
                    simp [esM, *]
                  · rw [esE, if_neg hr]
                · skip
                  refine am_steps_r ok_M_escaped 3 (q' := (bif decide ((b k) = 102) then 182 else 187, [some (.ref 19), some (.int (b k)), none, none], [], wd C (upd Y.1 6 (nI (k + 1)), Y.2) og)) rfl ?_
                  refine am_br_r (fun h_21 => ?_) (fun h_21 => ?_)
                  · skip
                    refine am_steps_r ok_M_escaped 2 (q' := (188, [some (.ref 19), some (.int (b k)), none, none], [.int 12], wd C (upd Y.1 6 (nI (k + 1)), Y.2) og)) rfl ?_
                    refine am_iret_r ok_M_escaped rfl rfl rfl ?_
                    have hr : ¬ (48 ≤ b k ∧ b k ≤ 55) := fun z => by first | exact absurd (Int32.lt_of_lt_of_le (by assumption) z.1) Int32.lt_irrefl | exact absurd (Int32.lt_of_lt_of_le (by assumption) z.2) Int32.lt_irrefl
                    refine Or.inr ⟨by simp [isLE, *], ?_, ?_⟩
                    · rw [esV, if_neg hr]
                      simp [esM, *]
                    · rw [esE, if_neg hr]
                  · skip
                    refine am_steps_r ok_M_escaped 1 (q' := (188, [some (.ref 19), some (.int (b k)), none, none], [.int (b k)], wd C (upd Y.1 6 (nI (k + 1)), Y.2) og)) rfl ?_
                    refine am_iret_r ok_M_escaped rfl rfl rfl ?_
                    have hr : ¬ (48 ≤ b k ∧ b k ≤ 55) := fun z => by first | exact absurd (Int32.lt_of_lt_of_le (by assumption) z.1) Int32.lt_irrefl | exact absurd (Int32.lt_of_lt_of_le (by assumption) z.2) Int32.lt_irrefl
                    refine Or.inr ⟨by simp [isLE, *], ?_, ?_⟩
                    · rw [esV, if_neg hr]
                      simp [esM, *]
                    · rw [esE, if_neg hr]
    · skip
      refine am_steps_r ok_M_escaped 4 (q' := (25, [some (.ref 19), some (.int (b k)), some (.int 0), some (.int 0)], [], wd C (upd Y.1 6 (nI k), Y.2) og)) rfl ?_
      have hr : 48 ≤ b k ∧ b k ≤ 55 := ⟨Int32.not_lt.mp (by assumption), Int32.not_lt.mp (by assumption)⟩
      refine lp_M_escaped_25 d C Y og n b hT (b k) 4 _ 0 k 0 (by omega) (by omega) (Or.inr ⟨?_, ?_, ?_⟩) (by omega)
      · have h10 : ¬ b k = 10 := fun z => by rw [z] at hr; exact absurd hr.1 (by decide)
        have h13 : ¬ b k = 13 := fun z => by rw [z] at hr; exact absurd hr.1 (by decide)
        simp [isLE, h10, h13]
      · rw [esV, if_pos hr]
      · rw [esE, if_pos hr]
set_option maxHeartbeats 1000000 in
set_option maxRecDepth 100000 in
theorem lp_M_readRound_40 (d : Nat) (C : wd_C) (og : Nat → Int64) (n : Nat) (b : Nat → Int32) (Y0 : wd_Y) (hT0 : tpY Y0 n b) (nv u : Nat) (V : VT) (p : Nat) (hp : p < n)  : ∀ (fu : Nat) (post : Option Value → am_W → Prop) (Y : wd_Y) (k : Nat) (oo : Nat) (acc : List Int32), (lfD Y0 Y nv u V 5 acc) → (Y.1 6 = nI k) → (p + 1 ≤ k) → (k ≤ n) → (1 ≤ oo ∧ oo ≤ k + 1) → (acc.length ≤ 200) → (u + acc.length < k) → (∀ vr w', lfQ Y0 C og nv u V (rdR n b p fu k oo acc) vr w' → post vr w') → n - k < fu → am_Rn l D cA ad fm (d + 3) m_M_readRound (wd C Y og).length post (40, [some (.ref 19), some (.int (nI p)), some (.int (nI nv)), some (.int (nI oo)), none], [], wd C Y og) := by
  intro fu
  induction fu with
  | zero => intro post Y k oo acc hL ha hk hkn ho hacc hua hpo hfu; exact absurd hfu (Nat.not_lt_zero _)
  | succ fu ih =>
    intro post Y k oo acc hL ha hk hkn ho hacc hua hpo hfu
    have hT := tpY_f hT0 hL.2.2.2.1
    have hn := hT.2.1
    have hal := hL.1.1.2.1
    refine am_steps_r ok_M_readRound 2 (q' := (bif decide ((nI oo) ≤ 0) then 221 else 44, [some (.ref 19), some (.int (nI p)), some (.int (nI nv)), some (.int (nI oo)), none], [], wd C Y og)) rfl ?_
    refine am_br_r (fun h_1 => ?_) (fun h_1 => ?_)
    · skip
      have h_1 : oo ≤ 0 := (nI_leI (show oo < 2 ^ 31 by omega) (show 0 < 2 ^ 31 by omega)).mp h_1
      exfalso; omega
    · skip
      have h_1 : ¬ oo ≤ 0 := fun z => h_1 ((nI_leI (show oo < 2 ^ 31 by omega) (show 0 < 2 ^ 31 by omega)).mpr z)
      refine am_steps_r ok_M_readRound 5 (q' := (bif decide ((Y.1 6) < (Y.1 1)) then 65 else 55, [some (.ref 19), some (.int (nI p)), some (.int (nI nv)), some (.int (nI oo)), none], [], wd C Y og)) rfl ?_
      rw [show (Y.1 6 : Int32) = nI k from ha]
      rw [show (Y.1 1 : Int32) = nI n from hT.1]
      refine am_br_r (fun h_2 => ?_) (fun h_2 => ?_)
      · skip
        have h_2 : k < n := (nI_ltI (show k < 2 ^ 31 by omega) (show n < 2 ^ 31 by omega)).mp h_2
        have hrd := hT.2.2.1 k (by omega)
        refine am_steps_r ok_M_readRound 4 (q' := (73, [some (.ref 19), some (.int (nI p)), some (.int (nI nv)), some (.int (nI oo)), none], [.int (Y.1 6), .ref 20], wd C Y og)) rfl ?_
        rw [show (Y.1 6 : Int32) = nI k from ha]
        refine am_iald_r ok_M_readRound rfl (w := wd C Y og) (f := Y.2.1 0) rfl rfl (pk_in k 1600 (by omega)) ?_
        rw [nI_clamp (show k < 2 ^ 31 by omega)]
        rw [hrd]
        refine am_steps_r ok_M_readRound 4 (q' := (bif decide ((b k) = 92) then 83 else 123, [some (.ref 19), some (.int (nI p)), some (.int (nI nv)), some (.int (nI oo)), some (.int (b k))], [], wd C Y og)) rfl ?_
        refine am_br_r (fun h_3 => ?_) (fun h_3 => ?_)
        · skip
          refine am_steps_r ok_M_readRound 11 (q' := (bif decide (((Y.1 6) + 1) < (Y.1 1)) then 114 else 104, [some (.ref 19), some (.int (nI p)), some (.int (nI nv)), some (.int (nI oo)), some (.int (b k))], [], wd C (upd Y.1 6 ((Y.1 6) + 1), Y.2) og)) rfl ?_
          rw [show (Y.1 6 : Int32) = nI k from ha]
          rw [show ((nI k) + 1 : Int32) = nI (k + 1) from nI_add k 1]
          rw [show (Y.1 1 : Int32) = nI n from hT.1]
          refine am_br_r (fun h_4 => ?_) (fun h_4 => ?_)
          · skip
            have h_4 : (k + 1) < n := (nI_ltI (show (k + 1) < 2 ^ 31 by omega) (show n < 2 ^ 31 by omega)).mp h_4
            refine am_steps_r ok_M_readRound 1 (q' := (115, [some (.ref 19), some (.int (nI p)), some (.int (nI nv)), some (.int (nI oo)), some (.int (b k))], [.ref 19], wd C (upd Y.1 6 (nI (k + 1)), Y.2) og)) rfl ?_
            refine am_callV_r (As := []) (rest := []) ok_M_readRound rfl rfl ok_M_escaped oi_M_escaped lk_6_167 (Or.inl ⟨_, _, _, rfl, rfl, rfl⟩) rfl rfl (Nat.le_of_ble_eq_true rfl) (c_M_escaped _ C Y og n b hT (k + 1) (by omega)) ?_
            rintro v_ w_ (⟨q_5, rfl, rfl⟩ | ⟨q_5, rfl, rfl⟩) -
            · skip
              have hat := leE_in hT.2.2.2.1 q_5
              refine am_eq_r (q' := (118, [some (.ref 19), some (.int (nI p)), some (.int (nI nv)), some (.int (nI oo)), some (.int (b k))], [.int (-1)], wd C (upd Y.1 6 (nI (leE b (k + 1))), Y.2) og)) rfl ?_
              refine am_steps_r ok_M_readRound 4 (q' := (bif decide ((nI oo) ≤ 0) then 218 else 198, [some (.ref 19), some (.int (nI p)), some (.int (nI nv)), some (.int (nI oo)), some (.int (-1))], [], wd C (upd Y.1 6 (nI (leE b (k + 1))), Y.2) og)) rfl ?_
              refine am_br_r (fun h_6 => ?_) (fun h_6 => ?_)
              · skip
                have h_6 : oo ≤ 0 := (nI_leI (show oo < 2 ^ 31 by omega) (show 0 < 2 ^ 31 by omega)).mp h_6
                first | contradiction | exact absurd (show 0 < (nI oo) by assumption) (Int32.not_lt.mpr (show (nI oo) ≤ 0 by assumption)) | (exfalso; omega)
              · skip
                have h_6 : ¬ oo ≤ 0 := fun z => h_6 ((nI_leI (show oo < 2 ^ 31 by omega) (show 0 < 2 ^ 31 by omega)).mpr z)
                refine am_steps_r ok_M_readRound 3 (q' := (40, [some (.ref 19), some (.int (nI p)), some (.int (nI nv)), some (.int (nI oo)), some (.int (-1))], [], wd C (upd Y.1 6 (nI (leE b (k + 1))), Y.2) og)) rfl ?_
                refine am_drop_r [4] (L' := [some (.ref 19), some (.int (nI p)), some (.int (nI nv)), some (.int (nI oo)), none]) rfl ?_
                refine ih post (upd Y.1 6 (nI (leE b (k + 1))), Y.2) ((leE b (k + 1))) (oo) acc hL rfl (by omega) (by omega) (by omega) (by omega) (by omega) (fun vr w' hw => hpo vr w' ?_) (by omega)
                rw [rdR_e2 (by omega) (by assumption) q_5]
                exact hw
            · skip
              have hat := esE_le hT.2.2.2.1 (j := k + 1) (by omega)
              refine am_eq_r (q' := (118, [some (.ref 19), some (.int (nI p)), some (.int (nI nv)), some (.int (nI oo)), some (.int (b k))], [.int (esV b (k + 1))], wd C (upd Y.1 6 (nI (esE b (k + 1))), Y.2) og)) rfl ?_
              refine am_steps_r ok_M_readRound 4 (q' := (bif decide ((nI oo) ≤ 0) then 218 else 198, [some (.ref 19), some (.int (nI p)), some (.int (nI nv)), some (.int (nI oo)), some (.int (esV b (k + 1)))], [], wd C (upd Y.1 6 (nI (esE b (k + 1))), Y.2) og)) rfl ?_
              refine am_br_r (fun h_7 => ?_) (fun h_7 => ?_)
              · skip
                have h_7 : oo ≤ 0 := (nI_leI (show oo < 2 ^ 31 by omega) (show 0 < 2 ^ 31 by omega)).mp h_7
                first | contradiction | exact absurd (show 0 < (nI oo) by assumption) (Int32.not_lt.mpr (show (nI oo) ≤ 0 by assumption)) | (exfalso; omega)
              · skip
                have h_7 : ¬ oo ≤ 0 := fun z => h_7 ((nI_leI (show oo < 2 ^ 31 by omega) (show 0 < 2 ^ 31 by omega)).mpr z)
                refine am_steps_r ok_M_readRound 2 (q' := (bif decide ((esV b (k + 1)) < 0) then 218 else 203, [some (.ref 19), some (.int (nI p)), some (.int (nI nv)), some (.int (nI oo)), some (.int (esV b (k + 1)))], [], wd C (upd Y.1 6 (nI (esE b (k + 1))), Y.2) og)) rfl ?_
                refine am_br_r (fun h_8 => ?_) (fun h_8 => ?_)
                · skip
                  exact absurd h_8 (isB_neg (esV_B (tpY_B hT (by omega))))
                · skip
                  refine am_steps_r ok_M_readRound 4 (q' := (210, [some (.ref 19), some (.int (nI p)), some (.int (nI nv)), some (.int (nI oo)), some (.int (esV b (k + 1)))], [.int (nI p), .int 200, .int (esV b (k + 1)), .ref 19], wd C (upd Y.1 6 (nI (esE b (k + 1))), Y.2) og)) rfl ?_
                  refine am_callV_r (As := [.int (esV b (k + 1)), .int 200, .int (nI p)]) (rest := []) ok_M_readRound rfl rfl ok_M_gets oi_M_gets lk_6_157 (Or.inl ⟨_, _, _, rfl, rfl, rfl⟩) rfl rfl (Nat.le_of_ble_eq_true rfl) (c_M_gets _ C (upd Y.1 6 (nI (esE b (k + 1))), Y.2) og Y0 nv u V _ acc hL (esV b (k + 1)) 200 (by omega) (by omega) p (esE b (k + 1)) (by first | rfl | exact ha)) ?_
                  rintro v_ w_ (⟨q_12, rfl, Y_9, rfl, ha_10, hL_11⟩ | ⟨q_12, rfl, rfl⟩) -
                  · skip
                    have hT := tpY_f hT0 hL_11.2.2.2.1
                    refine am_eq_r (q' := (213, [some (.ref 19), some (.int (nI p)), some (.int (nI nv)), some (.int (nI oo)), some (.int (esV b (k + 1)))], [.int 1], wd C Y_9 og)) rfl ?_
                    refine am_steps_r ok_M_readRound 2 (q' := (40, [some (.ref 19), some (.int (nI p)), some (.int (nI nv)), some (.int (nI oo)), some (.int (esV b (k + 1)))], [], wd C Y_9 og)) rfl ?_
                    refine am_drop_r [4] (L' := [some (.ref 19), some (.int (nI p)), some (.int (nI nv)), some (.int (nI oo)), none]) rfl ?_
                    refine ih post Y_9 ((esE b (k + 1))) (oo) (acc ++ [(esV b (k + 1))]) hL_11 ha_10 (by omega) (by omega) (by omega) (by simp; omega) (by simp; omega) (fun vr w' hw => hpo vr w' ?_) (by omega)
                    rw [rdR_e4 (by omega) (by assumption) q_5 (by omega)]
                    exact hw
                  · skip
                    refine am_eq_r (q' := (213, [some (.ref 19), some (.int (nI p)), some (.int (nI nv)), some (.int (nI oo)), some (.int (esV b (k + 1)))], [.int 0], wd C (upd (upd (upd Y.1 6 (nI (esE b (k + 1)))) 7 3) 8 (nI p), Y.2) og)) rfl ?_
                    refine am_steps_r ok_M_readRound 2 (q' := (217, [some (.ref 19), some (.int (nI p)), some (.int (nI nv)), some (.int (nI oo)), some (.int (esV b (k + 1)))], [.int 0], wd C (upd (upd (upd Y.1 6 (nI (esE b (k + 1)))) 7 3) 8 (nI p), Y.2) og)) rfl ?_
                    refine am_zret_r ok_M_readRound rfl rfl rfl rfl ?_
                    refine hpo _ _ ?_
                    rw [rdR_e3 (by omega) (by assumption) q_5 (by omega)]
                    exact lfQ_bad (Y := (upd Y.1 6 (nI (esE b (k + 1))), Y.2)) hL 3 p
          · skip
            have h_4 : ¬ (k + 1) < n := fun z => h_4 ((nI_ltI (show (k + 1) < 2 ^ 31 by omega) (show n < 2 ^ 31 by omega)).mpr z)
            refine am_steps_r ok_M_readRound 4 (q' := (110, [some (.ref 19), some (.int (nI p)), some (.int (nI nv)), some (.int (nI oo)), some (.int (b k))], [.int (Y.1 1), .int 1, .ref 19], wd C (upd Y.1 6 (nI (k + 1)), Y.2) og)) rfl ?_
            rw [show (Y.1 1 : Int32) = nI n from hT.1]
            refine am_callV_r (As := [.int 1, .int (nI n)]) (rest := []) ok_M_readRound rfl rfl ok_M_fails oi_M_fails lk_6_139 (Or.inl ⟨_, _, _, rfl, rfl, rfl⟩) rfl rfl (Nat.le_of_ble_eq_true rfl) (c_M_fails _ C (upd Y.1 6 (nI (k + 1)), Y.2) og 1 (nI n)) ?_
            rintro v_ w_ ⟨rfl, rfl⟩ -
            refine am_eq_r (q' := (113, [some (.ref 19), some (.int (nI p)), some (.int (nI nv)), some (.int (nI oo)), some (.int (b k))], [.int 0], wd C (upd (upd (upd Y.1 6 (nI (k + 1))) 7 1) 8 (nI n), Y.2) og)) rfl ?_
            refine am_zret_r ok_M_readRound rfl rfl rfl rfl ?_
            refine hpo _ _ ?_
            rw [rdR_e1 (by omega) (by assumption) (by omega)]
            exact lfQ_bad (Y := (upd Y.1 6 (nI (k + 1)), Y.2)) hL 1 n
        · skip
          refine am_steps_r ok_M_readRound 3 (q' := (bif decide ((b k) = 13) then 137 else 130, [some (.ref 19), some (.int (nI p)), some (.int (nI nv)), some (.int (nI oo)), some (.int (b k))], [], wd C Y og)) rfl ?_
          refine am_br_r (fun h_14 => ?_) (fun h_14 => ?_)
          · skip
            refine am_steps_r ok_M_readRound 4 (q' := (143, [some (.ref 19), some (.int (nI p)), some (.int (nI nv)), some (.int (nI oo)), some (.int (b k))], [.int (Y.1 6), .ref 19, .ref 19], wd C Y og)) rfl ?_
            rw [show (Y.1 6 : Int32) = nI k from ha]
            have hle : isLE (b k) = true := by simp [isLE, *]
            have hat := leE_in hT.2.2.2.1 hle
            refine am_callV_r (As := [.int (nI k)]) (rest := [.ref 19]) ok_M_readRound rfl rfl ok_M_behindLineEnd oi_M_behindLineEnd lk_6_164 (Or.inl ⟨_, _, _, rfl, rfl, rfl⟩) rfl rfl (Nat.le_of_ble_eq_true rfl) (c_M_behindLineEnd _ C Y og n b hT k (by omega)) ?_
            rintro v_ w_ ⟨rfl, rfl⟩ -
            refine am_eq_r (q' := (146, [some (.ref 19), some (.int (nI p)), some (.int (nI nv)), some (.int (nI oo)), some (.int (b k))], [.int (nI (leE b k)), .ref 19], wd C Y og)) rfl ?_
            refine am_steps_r ok_M_readRound 6 (q' := (bif decide ((nI oo) ≤ 0) then 218 else 198, [some (.ref 19), some (.int (nI p)), some (.int (nI nv)), some (.int (nI oo)), some (.int 10)], [], wd C (upd Y.1 6 (nI (leE b k)), Y.2) og)) rfl ?_
            refine am_br_r (fun h_16 => ?_) (fun h_16 => ?_)
            · skip
              have h_16 : oo ≤ 0 := (nI_leI (show oo < 2 ^ 31 by omega) (show 0 < 2 ^ 31 by omega)).mp h_16
              first | contradiction | exact absurd (show 0 < (nI oo) by assumption) (Int32.not_lt.mpr (show (nI oo) ≤ 0 by assumption)) | (exfalso; omega)
            · skip
              have h_16 : ¬ oo ≤ 0 := fun z => h_16 ((nI_leI (show oo < 2 ^ 31 by omega) (show 0 < 2 ^ 31 by omega)).mpr z)
              refine am_steps_r ok_M_readRound 6 (q' := (210, [some (.ref 19), some (.int (nI p)), some (.int (nI nv)), some (.int (nI oo)), some (.int 10)], [.int (nI p), .int 200, .int 10, .ref 19], wd C (upd Y.1 6 (nI (leE b k)), Y.2) og)) rfl ?_
              refine am_callV_r (As := [.int 10, .int 200, .int (nI p)]) (rest := []) ok_M_readRound rfl rfl ok_M_gets oi_M_gets lk_6_157 (Or.inl ⟨_, _, _, rfl, rfl, rfl⟩) rfl rfl (Nat.le_of_ble_eq_true rfl) (c_M_gets _ C (upd Y.1 6 (nI (leE b k)), Y.2) og Y0 nv u V _ acc hL 10 200 (by omega) (by omega) p (leE b k) (by first | rfl | exact ha)) ?_
              rintro v_ w_ (⟨q_20, rfl, Y_17, rfl, ha_18, hL_19⟩ | ⟨q_20, rfl, rfl⟩) -
              · skip
                have hT := tpY_f hT0 hL_19.2.2.2.1
                refine am_eq_r (q' := (213, [some (.ref 19), some (.int (nI p)), some (.int (nI nv)), some (.int (nI oo)), some (.int 10)], [.int 1], wd C Y_17 og)) rfl ?_
                refine am_steps_r ok_M_readRound 2 (q' := (40, [some (.ref 19), some (.int (nI p)), some (.int (nI nv)), some (.int (nI oo)), some (.int 10)], [], wd C Y_17 og)) rfl ?_
                refine am_drop_r [4] (L' := [some (.ref 19), some (.int (nI p)), some (.int (nI nv)), some (.int (nI oo)), none]) rfl ?_
                refine ih post Y_17 ((leE b k)) (oo) (acc ++ [10]) hL_19 ha_18 (by omega) (by omega) (by omega) (by simp; omega) (by simp; omega) (fun vr w' hw => hpo vr w' ?_) (by omega)
                first | rw [rdR_le (by omega) (fun z => by first | exact absurd ((show b k = 13 by assumption).symm.trans z.1) (by decide) | exact absurd ((show b k = 10 by assumption).symm.trans z.1) (by decide)) (by assumption) (by omega) hle] | rw [rdR_40 (by omega) (by omega) (by assumption)] | rw [rdR_41 (by omega) (by omega) (by omega) (by assumption)] | rw [rdR_pl (by omega) (by assumption) (by omega) (by assumption) (by assumption) hle]
                exact hw
              · skip
                refine am_eq_r (q' := (213, [some (.ref 19), some (.int (nI p)), some (.int (nI nv)), some (.int (nI oo)), some (.int 10)], [.int 0], wd C (upd (upd (upd Y.1 6 (nI (leE b k))) 7 3) 8 (nI p), Y.2) og)) rfl ?_
                refine am_steps_r ok_M_readRound 2 (q' := (217, [some (.ref 19), some (.int (nI p)), some (.int (nI nv)), some (.int (nI oo)), some (.int 10)], [.int 0], wd C (upd (upd (upd Y.1 6 (nI (leE b k))) 7 3) 8 (nI p), Y.2) og)) rfl ?_
                refine am_zret_r ok_M_readRound rfl rfl rfl rfl ?_
                refine hpo _ _ ?_
                rw [rdR_ful (by omega) (fun z => by first | (exfalso; omega) | exact absurd z.1 (by assumption) | exact absurd ((show b k = 13 by assumption).symm.trans z.1) (by decide) | exact absurd ((show b k = 10 by assumption).symm.trans z.1) (by decide) | exact absurd ((show b k = 40 by assumption).symm.trans z.1) (by decide)) (by assumption) (by omega)]
                exact lfQ_bad (Y := (upd Y.1 6 (nI (leE b k)), Y.2)) hL 3 p
          · skip
            refine am_steps_r ok_M_readRound 3 (q' := (bif decide ((b k) = 10) then 137 else 156, [some (.ref 19), some (.int (nI p)), some (.int (nI nv)), some (.int (nI oo)), some (.int (b k))], [], wd C Y og)) rfl ?_
            refine am_br_r (fun h_21 => ?_) (fun h_21 => ?_)
            · skip
              refine am_steps_r ok_M_readRound 4 (q' := (143, [some (.ref 19), some (.int (nI p)), some (.int (nI nv)), some (.int (nI oo)), some (.int (b k))], [.int (Y.1 6), .ref 19, .ref 19], wd C Y og)) rfl ?_
              rw [show (Y.1 6 : Int32) = nI k from ha]
              have hle : isLE (b k) = true := by simp [isLE, *]
              have hat := leE_in hT.2.2.2.1 hle
              refine am_callV_r (As := [.int (nI k)]) (rest := [.ref 19]) ok_M_readRound rfl rfl ok_M_behindLineEnd oi_M_behindLineEnd lk_6_164 (Or.inl ⟨_, _, _, rfl, rfl, rfl⟩) rfl rfl (Nat.le_of_ble_eq_true rfl) (c_M_behindLineEnd _ C Y og n b hT k (by omega)) ?_
              rintro v_ w_ ⟨rfl, rfl⟩ -
              refine am_eq_r (q' := (146, [some (.ref 19), some (.int (nI p)), some (.int (nI nv)), some (.int (nI oo)), some (.int (b k))], [.int (nI (leE b k)), .ref 19], wd C Y og)) rfl ?_
              refine am_steps_r ok_M_readRound 6 (q' := (bif decide ((nI oo) ≤ 0) then 218 else 198, [some (.ref 19), some (.int (nI p)), some (.int (nI nv)), some (.int (nI oo)), some (.int 10)], [], wd C (upd Y.1 6 (nI (leE b k)), Y.2) og)) rfl ?_
              refine am_br_r (fun h_23 => ?_) (fun h_23 => ?_)
              · skip
                have h_23 : oo ≤ 0 := (nI_leI (show oo < 2 ^ 31 by omega) (show 0 < 2 ^ 31 by omega)).mp h_23
                first | contradiction | exact absurd (show 0 < (nI oo) by assumption) (Int32.not_lt.mpr (show (nI oo) ≤ 0 by assumption)) | (exfalso; omega)
              · skip
                have h_23 : ¬ oo ≤ 0 := fun z => h_23 ((nI_leI (show oo < 2 ^ 31 by omega) (show 0 < 2 ^ 31 by omega)).mpr z)
                refine am_steps_r ok_M_readRound 6 (q' := (210, [some (.ref 19), some (.int (nI p)), some (.int (nI nv)), some (.int (nI oo)), some (.int 10)], [.int (nI p), .int 200, .int 10, .ref 19], wd C (upd Y.1 6 (nI (leE b k)), Y.2) og)) rfl ?_
                refine am_callV_r (As := [.int 10, .int 200, .int (nI p)]) (rest := []) ok_M_readRound rfl rfl ok_M_gets oi_M_gets lk_6_157 (Or.inl ⟨_, _, _, rfl, rfl, rfl⟩) rfl rfl (Nat.le_of_ble_eq_true rfl) (c_M_gets _ C (upd Y.1 6 (nI (leE b k)), Y.2) og Y0 nv u V _ acc hL 10 200 (by omega) (by omega) p (leE b k) (by first | rfl | exact ha)) ?_
                rintro v_ w_ (⟨q_27, rfl, Y_24, rfl, ha_25, hL_26⟩ | ⟨q_27, rfl, rfl⟩) -
                · skip
                  have hT := tpY_f hT0 hL_26.2.2.2.1
                  refine am_eq_r (q' := (213, [some (.ref 19), some (.int (nI p)), some (.int (nI nv)), some (.int (nI oo)), some (.int 10)], [.int 1], wd C Y_24 og)) rfl ?_
                  refine am_steps_r ok_M_readRound 2 (q' := (40, [some (.ref 19), some (.int (nI p)), some (.int (nI nv)), some (.int (nI oo)), some (.int 10)], [], wd C Y_24 og)) rfl ?_
                  refine am_drop_r [4] (L' := [some (.ref 19), some (.int (nI p)), some (.int (nI nv)), some (.int (nI oo)), none]) rfl ?_
                  refine ih post Y_24 ((leE b k)) (oo) (acc ++ [10]) hL_26 ha_25 (by omega) (by omega) (by omega) (by simp; omega) (by simp; omega) (fun vr w' hw => hpo vr w' ?_) (by omega)
                  first | rw [rdR_le (by omega) (fun z => by first | exact absurd ((show b k = 13 by assumption).symm.trans z.1) (by decide) | exact absurd ((show b k = 10 by assumption).symm.trans z.1) (by decide)) (by assumption) (by omega) hle] | rw [rdR_40 (by omega) (by omega) (by assumption)] | rw [rdR_41 (by omega) (by omega) (by omega) (by assumption)] | rw [rdR_pl (by omega) (by assumption) (by omega) (by assumption) (by assumption) hle]
                  exact hw
                · skip
                  refine am_eq_r (q' := (213, [some (.ref 19), some (.int (nI p)), some (.int (nI nv)), some (.int (nI oo)), some (.int 10)], [.int 0], wd C (upd (upd (upd Y.1 6 (nI (leE b k))) 7 3) 8 (nI p), Y.2) og)) rfl ?_
                  refine am_steps_r ok_M_readRound 2 (q' := (217, [some (.ref 19), some (.int (nI p)), some (.int (nI nv)), some (.int (nI oo)), some (.int 10)], [.int 0], wd C (upd (upd (upd Y.1 6 (nI (leE b k))) 7 3) 8 (nI p), Y.2) og)) rfl ?_
                  refine am_zret_r ok_M_readRound rfl rfl rfl rfl ?_
                  refine hpo _ _ ?_
                  rw [rdR_ful (by omega) (fun z => by first | (exfalso; omega) | exact absurd z.1 (by assumption) | exact absurd ((show b k = 13 by assumption).symm.trans z.1) (by decide) | exact absurd ((show b k = 10 by assumption).symm.trans z.1) (by decide) | exact absurd ((show b k = 40 by assumption).symm.trans z.1) (by decide)) (by assumption) (by omega)]
                  exact lfQ_bad (Y := (upd Y.1 6 (nI (leE b k)), Y.2)) hL 3 p
            · skip
              have hle : isLE (b k) = false := by simp [isLE, *]
              refine am_steps_r ok_M_readRound 9 (q' := (bif decide ((b k) = 40) then 173 else 179, [some (.ref 19), some (.int (nI p)), some (.int (nI nv)), some (.int (nI oo)), some (.int (b k))], [], wd C (upd Y.1 6 ((Y.1 6) + 1), Y.2) og)) rfl ?_
              rw [show (Y.1 6 : Int32) = nI k from ha]
              rw [show ((nI k) + 1 : Int32) = nI (k + 1) from nI_add k 1]
              refine am_br_r (fun h_28 => ?_) (fun h_28 => ?_)
              · skip
                refine am_steps_r ok_M_readRound 7 (q' := (bif decide (((nI oo) + 1) ≤ 0) then 218 else 198, [some (.ref 19), some (.int (nI p)), some (.int (nI nv)), some (.int ((nI oo) + 1)), some (.int (b k))], [], wd C (upd Y.1 6 (nI (k + 1)), Y.2) og)) rfl ?_
                rw [show ((nI oo) + 1 : Int32) = nI (oo + 1) from nI_add oo 1]
                refine am_br_r (fun h_29 => ?_) (fun h_29 => ?_)
                · skip
                  have h_29 : (oo + 1) ≤ 0 := (nI_leI (show (oo + 1) < 2 ^ 31 by omega) (show 0 < 2 ^ 31 by omega)).mp h_29
                  refine am_steps_r ok_M_readRound 1 (q' := (40, [some (.ref 19), some (.int (nI p)), some (.int (nI nv)), some (.int (nI (oo + 1))), some (.int (b k))], [], wd C (upd Y.1 6 (nI (k + 1)), Y.2) og)) rfl ?_
                  refine am_drop_r [4] (L' := [some (.ref 19), some (.int (nI p)), some (.int (nI nv)), some (.int (nI (oo + 1))), none]) rfl ?_
                  refine am_steps_r ok_M_readRound 2 (q' := (bif decide ((nI (oo + 1)) ≤ 0) then 221 else 44, [some (.ref 19), some (.int (nI p)), some (.int (nI nv)), some (.int (nI (oo + 1))), none], [], wd C (upd Y.1 6 (nI (k + 1)), Y.2) og)) rfl ?_
                  refine am_br_r (fun h_30 => ?_) (fun h_30 => ?_)
                  · skip
                    have h_30 : (oo + 1) ≤ 0 := (nI_leI (show (oo + 1) < 2 ^ 31 by omega) (show 0 < 2 ^ 31 by omega)).mp h_30
                    refine am_steps_r ok_M_readRound 3 (q' := (224, [some (.ref 19), some (.int (nI p)), some (.int (nI nv)), some (.int (nI (oo + 1))), none], [.int (nI p), .int (nI nv), .ref 19], wd C (upd Y.1 6 (nI (k + 1)), Y.2) og)) rfl ?_
                    refine am_callV_r (As := [.int (nI nv), .int (nI p)]) (rest := []) ok_M_readRound rfl rfl ok_M_keepBytes oi_M_keepBytes lk_6_161 (Or.inl ⟨_, _, _, rfl, rfl, rfl⟩) rfl rfl (Nat.le_of_ble_eq_true rfl) (c_M_keepBytes _ C (upd Y.1 6 (nI (k + 1)), Y.2) og (nv + 1) u hL.1.1 nv acc.length (by omega) hL.2.1 (by omega) (by omega) (nI p)) ?_
                    rintro v_ w_ ⟨rfl, rfl⟩ -
                    refine am_eq_r (q' := (227, [some (.ref 19), some (.int (nI p)), some (.int (nI nv)), some (.int (nI (oo + 1))), none], [.int 1], wd C (yKeep (upd Y.1 6 (nI (k + 1)), Y.2) nv u acc.length) og)) rfl ?_
                    refine am_zret_r ok_M_readRound rfl rfl rfl rfl ?_
                    first | (exfalso; omega) | (refine hpo _ _ ?_; rw [rdR_cls (by omega) (by assumption) (by omega)]; exact lfQ_ok (Y := (upd Y.1 6 (nI (k + 1)), Y.2)) hL rfl (by omega))
                  · skip
                    have h_30 : ¬ (oo + 1) ≤ 0 := fun z => h_30 ((nI_leI (show (oo + 1) < 2 ^ 31 by omega) (show 0 < 2 ^ 31 by omega)).mpr z)
                    first | contradiction | exact absurd (show 0 < (nI (oo + 1)) by assumption) (Int32.not_lt.mpr (show (nI (oo + 1)) ≤ 0 by assumption)) | (exfalso; omega)
                · skip
                  have h_29 : ¬ (oo + 1) ≤ 0 := fun z => h_29 ((nI_leI (show (oo + 1) < 2 ^ 31 by omega) (show 0 < 2 ^ 31 by omega)).mpr z)
                  refine am_steps_r ok_M_readRound 2 (q' := (bif decide ((b k) < 0) then 218 else 203, [some (.ref 19), some (.int (nI p)), some (.int (nI nv)), some (.int (nI (oo + 1))), some (.int (b k))], [], wd C (upd Y.1 6 (nI (k + 1)), Y.2) og)) rfl ?_
                  refine am_br_r (fun h_32 => ?_) (fun h_32 => ?_)
                  · skip
                    exact absurd h_32 (isB_neg (tpY_B hT (by omega)))
                  · skip
                    refine am_steps_r ok_M_readRound 4 (q' := (210, [some (.ref 19), some (.int (nI p)), some (.int (nI nv)), some (.int (nI (oo + 1))), some (.int (b k))], [.int (nI p), .int 200, .int (b k), .ref 19], wd C (upd Y.1 6 (nI (k + 1)), Y.2) og)) rfl ?_
                    refine am_callV_r (As := [.int (b k), .int 200, .int (nI p)]) (rest := []) ok_M_readRound rfl rfl ok_M_gets oi_M_gets lk_6_157 (Or.inl ⟨_, _, _, rfl, rfl, rfl⟩) rfl rfl (Nat.le_of_ble_eq_true rfl) (c_M_gets _ C (upd Y.1 6 (nI (k + 1)), Y.2) og Y0 nv u V _ acc hL (b k) 200 (by omega) (by omega) p (k + 1) (by first | rfl | exact ha)) ?_
                    rintro v_ w_ (⟨q_36, rfl, Y_33, rfl, ha_34, hL_35⟩ | ⟨q_36, rfl, rfl⟩) -
                    · skip
                      have hT := tpY_f hT0 hL_35.2.2.2.1
                      refine am_eq_r (q' := (213, [some (.ref 19), some (.int (nI p)), some (.int (nI nv)), some (.int (nI (oo + 1))), some (.int (b k))], [.int 1], wd C Y_33 og)) rfl ?_
                      refine am_steps_r ok_M_readRound 2 (q' := (40, [some (.ref 19), some (.int (nI p)), some (.int (nI nv)), some (.int (nI (oo + 1))), some (.int (b k))], [], wd C Y_33 og)) rfl ?_
                      refine am_drop_r [4] (L' := [some (.ref 19), some (.int (nI p)), some (.int (nI nv)), some (.int (nI (oo + 1))), none]) rfl ?_
                      refine ih post Y_33 (k + 1) (oo + 1) (acc ++ [(b k)]) hL_35 ha_34 (by omega) (by omega) (by omega) (by simp; omega) (by simp; omega) (fun vr w' hw => hpo vr w' ?_) (by omega)
                      first | rw [rdR_le (by omega) (fun z => by first | exact absurd ((show b k = 13 by assumption).symm.trans z.1) (by decide) | exact absurd ((show b k = 10 by assumption).symm.trans z.1) (by decide)) (by assumption) (by omega) hle] | rw [rdR_40 (by omega) (by omega) (by assumption)] | rw [rdR_41 (by omega) (by omega) (by omega) (by assumption)] | rw [rdR_pl (by omega) (by assumption) (by omega) (by assumption) (by assumption) hle]
                      exact hw
                    · skip
                      refine am_eq_r (q' := (213, [some (.ref 19), some (.int (nI p)), some (.int (nI nv)), some (.int (nI (oo + 1))), some (.int (b k))], [.int 0], wd C (upd (upd (upd Y.1 6 (nI (k + 1))) 7 3) 8 (nI p), Y.2) og)) rfl ?_
                      refine am_steps_r ok_M_readRound 2 (q' := (217, [some (.ref 19), some (.int (nI p)), some (.int (nI nv)), some (.int (nI (oo + 1))), some (.int (b k))], [.int 0], wd C (upd (upd (upd Y.1 6 (nI (k + 1))) 7 3) 8 (nI p), Y.2) og)) rfl ?_
                      refine am_zret_r ok_M_readRound rfl rfl rfl rfl ?_
                      refine hpo _ _ ?_
                      rw [rdR_ful (by omega) (fun z => by first | (exfalso; omega) | exact absurd z.1 (by assumption) | exact absurd ((show b k = 13 by assumption).symm.trans z.1) (by decide) | exact absurd ((show b k = 10 by assumption).symm.trans z.1) (by decide) | exact absurd ((show b k = 40 by assumption).symm.trans z.1) (by decide)) (by assumption) (by omega)]
                      exact lfQ_bad (Y := (upd Y.1 6 (nI (k + 1)), Y.2)) hL 3 p
              · skip
                refine am_steps_r ok_M_readRound 3 (q' := (bif decide ((b k) = 41) then 186 else 192, [some (.ref 19), some (.int (nI p)), some (.int (nI nv)), some (.int (nI oo)), some (.int (b k))], [], wd C (upd Y.1 6 (nI (k + 1)), Y.2) og)) rfl ?_
                refine am_br_r (fun h_37 => ?_) (fun h_37 => ?_)
                · skip
                  refine am_steps_r ok_M_readRound 7 (q' := (bif decide (((nI oo) - 1) ≤ 0) then 218 else 198, [some (.ref 19), some (.int (nI p)), some (.int (nI nv)), some (.int ((nI oo) - 1)), some (.int (b k))], [], wd C (upd Y.1 6 (nI (k + 1)), Y.2) og)) rfl ?_
                  rw [show ((nI oo) - 1 : Int32) = nI (oo - 1) from pk_sub (a := oo) (b := 1) (by omega)]
                  refine am_br_r (fun h_38 => ?_) (fun h_38 => ?_)
                  · skip
                    have h_38 : (oo - 1) ≤ 0 := (nI_leI (show (oo - 1) < 2 ^ 31 by omega) (show 0 < 2 ^ 31 by omega)).mp h_38
                    refine am_steps_r ok_M_readRound 1 (q' := (40, [some (.ref 19), some (.int (nI p)), some (.int (nI nv)), some (.int (nI (oo - 1))), some (.int (b k))], [], wd C (upd Y.1 6 (nI (k + 1)), Y.2) og)) rfl ?_
                    refine am_drop_r [4] (L' := [some (.ref 19), some (.int (nI p)), some (.int (nI nv)), some (.int (nI (oo - 1))), none]) rfl ?_
                    refine am_steps_r ok_M_readRound 2 (q' := (bif decide ((nI (oo - 1)) ≤ 0) then 221 else 44, [some (.ref 19), some (.int (nI p)), some (.int (nI nv)), some (.int (nI (oo - 1))), none], [], wd C (upd Y.1 6 (nI (k + 1)), Y.2) og)) rfl ?_
                    refine am_br_r (fun h_39 => ?_) (fun h_39 => ?_)
                    · skip
                      have h_39 : (oo - 1) ≤ 0 := (nI_leI (show (oo - 1) < 2 ^ 31 by omega) (show 0 < 2 ^ 31 by omega)).mp h_39
                      refine am_steps_r ok_M_readRound 3 (q' := (224, [some (.ref 19), some (.int (nI p)), some (.int (nI nv)), some (.int (nI (oo - 1))), none], [.int (nI p), .int (nI nv), .ref 19], wd C (upd Y.1 6 (nI (k + 1)), Y.2) og)) rfl ?_
                      refine am_callV_r (As := [.int (nI nv), .int (nI p)]) (rest := []) ok_M_readRound rfl rfl ok_M_keepBytes oi_M_keepBytes lk_6_161 (Or.inl ⟨_, _, _, rfl, rfl, rfl⟩) rfl rfl (Nat.le_of_ble_eq_true rfl) (c_M_keepBytes _ C (upd Y.1 6 (nI (k + 1)), Y.2) og (nv + 1) u hL.1.1 nv acc.length (by omega) hL.2.1 (by omega) (by omega) (nI p)) ?_
                      rintro v_ w_ ⟨rfl, rfl⟩ -
                      refine am_eq_r (q' := (227, [some (.ref 19), some (.int (nI p)), some (.int (nI nv)), some (.int (nI (oo - 1))), none], [.int 1], wd C (yKeep (upd Y.1 6 (nI (k + 1)), Y.2) nv u acc.length) og)) rfl ?_
                      refine am_zret_r ok_M_readRound rfl rfl rfl rfl ?_
                      first | (exfalso; omega) | (refine hpo _ _ ?_; rw [rdR_cls (by omega) (by assumption) (by omega)]; exact lfQ_ok (Y := (upd Y.1 6 (nI (k + 1)), Y.2)) hL rfl (by omega))
                    · skip
                      have h_39 : ¬ (oo - 1) ≤ 0 := fun z => h_39 ((nI_leI (show (oo - 1) < 2 ^ 31 by omega) (show 0 < 2 ^ 31 by omega)).mpr z)
                      first | contradiction | exact absurd (show 0 < (nI (oo - 1)) by assumption) (Int32.not_lt.mpr (show (nI (oo - 1)) ≤ 0 by assumption)) | (exfalso; omega)
                  · skip
                    have h_38 : ¬ (oo - 1) ≤ 0 := fun z => h_38 ((nI_leI (show (oo - 1) < 2 ^ 31 by omega) (show 0 < 2 ^ 31 by omega)).mpr z)
                    refine am_steps_r ok_M_readRound 2 (q' := (bif decide ((b k) < 0) then 218 else 203, [some (.ref 19), some (.int (nI p)), some (.int (nI nv)), some (.int (nI (oo - 1))), some (.int (b k))], [], wd C (upd Y.1 6 (nI (k + 1)), Y.2) og)) rfl ?_
                    refine am_br_r (fun h_41 => ?_) (fun h_41 => ?_)
                    · skip
                      exact absurd h_41 (isB_neg (tpY_B hT (by omega)))
                    · skip
                      refine am_steps_r ok_M_readRound 4 (q' := (210, [some (.ref 19), some (.int (nI p)), some (.int (nI nv)), some (.int (nI (oo - 1))), some (.int (b k))], [.int (nI p), .int 200, .int (b k), .ref 19], wd C (upd Y.1 6 (nI (k + 1)), Y.2) og)) rfl ?_
                      refine am_callV_r (As := [.int (b k), .int 200, .int (nI p)]) (rest := []) ok_M_readRound rfl rfl ok_M_gets oi_M_gets lk_6_157 (Or.inl ⟨_, _, _, rfl, rfl, rfl⟩) rfl rfl (Nat.le_of_ble_eq_true rfl) (c_M_gets _ C (upd Y.1 6 (nI (k + 1)), Y.2) og Y0 nv u V _ acc hL (b k) 200 (by omega) (by omega) p (k + 1) (by first | rfl | exact ha)) ?_
                      rintro v_ w_ (⟨q_45, rfl, Y_42, rfl, ha_43, hL_44⟩ | ⟨q_45, rfl, rfl⟩) -
                      · skip
                        have hT := tpY_f hT0 hL_44.2.2.2.1
                        refine am_eq_r (q' := (213, [some (.ref 19), some (.int (nI p)), some (.int (nI nv)), some (.int (nI (oo - 1))), some (.int (b k))], [.int 1], wd C Y_42 og)) rfl ?_
                        refine am_steps_r ok_M_readRound 2 (q' := (40, [some (.ref 19), some (.int (nI p)), some (.int (nI nv)), some (.int (nI (oo - 1))), some (.int (b k))], [], wd C Y_42 og)) rfl ?_
                        refine am_drop_r [4] (L' := [some (.ref 19), some (.int (nI p)), some (.int (nI nv)), some (.int (nI (oo - 1))), none]) rfl ?_
                        refine ih post Y_42 (k + 1) (oo - 1) (acc ++ [(b k)]) hL_44 ha_43 (by omega) (by omega) (by omega) (by simp; omega) (by simp; omega) (fun vr w' hw => hpo vr w' ?_) (by omega)
                        first | rw [rdR_le (by omega) (fun z => by first | exact absurd ((show b k = 13 by assumption).symm.trans z.1) (by decide) | exact absurd ((show b k = 10 by assumption).symm.trans z.1) (by decide)) (by assumption) (by omega) hle] | rw [rdR_40 (by omega) (by omega) (by assumption)] | rw [rdR_41 (by omega) (by omega) (by omega) (by assumption)] | rw [rdR_pl (by omega) (by assumption) (by omega) (by assumption) (by assumption) hle]
                        exact hw
                      · skip
                        refine am_eq_r (q' := (213, [some (.ref 19), some (.int (nI p)), some (.int (nI nv)), some (.int (nI (oo - 1))), some (.int (b k))], [.int 0], wd C (upd (upd (upd Y.1 6 (nI (k + 1))) 7 3) 8 (nI p), Y.2) og)) rfl ?_
                        refine am_steps_r ok_M_readRound 2 (q' := (217, [some (.ref 19), some (.int (nI p)), some (.int (nI nv)), some (.int (nI (oo - 1))), some (.int (b k))], [.int 0], wd C (upd (upd (upd Y.1 6 (nI (k + 1))) 7 3) 8 (nI p), Y.2) og)) rfl ?_
                        refine am_zret_r ok_M_readRound rfl rfl rfl rfl ?_
                        refine hpo _ _ ?_
                        rw [rdR_ful (by omega) (fun z => by first | (exfalso; omega) | exact absurd z.1 (by assumption) | exact absurd ((show b k = 13 by assumption).symm.trans z.1) (by decide) | exact absurd ((show b k = 10 by assumption).symm.trans z.1) (by decide) | exact absurd ((show b k = 40 by assumption).symm.trans z.1) (by decide)) (by assumption) (by omega)]
                        exact lfQ_bad (Y := (upd Y.1 6 (nI (k + 1)), Y.2)) hL 3 p
                · skip
                  refine am_steps_r ok_M_readRound 4 (q' := (bif decide ((nI oo) ≤ 0) then 218 else 198, [some (.ref 19), some (.int (nI p)), some (.int (nI nv)), some (.int (nI oo)), some (.int (b k))], [], wd C (upd Y.1 6 (nI (k + 1)), Y.2) og)) rfl ?_
                  refine am_br_r (fun h_46 => ?_) (fun h_46 => ?_)
                  · skip
                    have h_46 : oo ≤ 0 := (nI_leI (show oo < 2 ^ 31 by omega) (show 0 < 2 ^ 31 by omega)).mp h_46
                    first | contradiction | exact absurd (show 0 < (nI oo) by assumption) (Int32.not_lt.mpr (show (nI oo) ≤ 0 by assumption)) | (exfalso; omega)
                  · skip
                    have h_46 : ¬ oo ≤ 0 := fun z => h_46 ((nI_leI (show oo < 2 ^ 31 by omega) (show 0 < 2 ^ 31 by omega)).mpr z)
                    refine am_steps_r ok_M_readRound 2 (q' := (bif decide ((b k) < 0) then 218 else 203, [some (.ref 19), some (.int (nI p)), some (.int (nI nv)), some (.int (nI oo)), some (.int (b k))], [], wd C (upd Y.1 6 (nI (k + 1)), Y.2) og)) rfl ?_
                    refine am_br_r (fun h_47 => ?_) (fun h_47 => ?_)
                    · skip
                      exact absurd h_47 (isB_neg (tpY_B hT (by omega)))
                    · skip
                      refine am_steps_r ok_M_readRound 4 (q' := (210, [some (.ref 19), some (.int (nI p)), some (.int (nI nv)), some (.int (nI oo)), some (.int (b k))], [.int (nI p), .int 200, .int (b k), .ref 19], wd C (upd Y.1 6 (nI (k + 1)), Y.2) og)) rfl ?_
                      refine am_callV_r (As := [.int (b k), .int 200, .int (nI p)]) (rest := []) ok_M_readRound rfl rfl ok_M_gets oi_M_gets lk_6_157 (Or.inl ⟨_, _, _, rfl, rfl, rfl⟩) rfl rfl (Nat.le_of_ble_eq_true rfl) (c_M_gets _ C (upd Y.1 6 (nI (k + 1)), Y.2) og Y0 nv u V _ acc hL (b k) 200 (by omega) (by omega) p (k + 1) (by first | rfl | exact ha)) ?_
                      rintro v_ w_ (⟨q_51, rfl, Y_48, rfl, ha_49, hL_50⟩ | ⟨q_51, rfl, rfl⟩) -
                      · skip
                        have hT := tpY_f hT0 hL_50.2.2.2.1
                        refine am_eq_r (q' := (213, [some (.ref 19), some (.int (nI p)), some (.int (nI nv)), some (.int (nI oo)), some (.int (b k))], [.int 1], wd C Y_48 og)) rfl ?_
                        refine am_steps_r ok_M_readRound 2 (q' := (40, [some (.ref 19), some (.int (nI p)), some (.int (nI nv)), some (.int (nI oo)), some (.int (b k))], [], wd C Y_48 og)) rfl ?_
                        refine am_drop_r [4] (L' := [some (.ref 19), some (.int (nI p)), some (.int (nI nv)), some (.int (nI oo)), none]) rfl ?_
                        refine ih post Y_48 (k + 1) (oo) (acc ++ [(b k)]) hL_50 ha_49 (by omega) (by omega) (by omega) (by simp; omega) (by simp; omega) (fun vr w' hw => hpo vr w' ?_) (by omega)
                        first | rw [rdR_le (by omega) (fun z => by first | exact absurd ((show b k = 13 by assumption).symm.trans z.1) (by decide) | exact absurd ((show b k = 10 by assumption).symm.trans z.1) (by decide)) (by assumption) (by omega) hle] | rw [rdR_40 (by omega) (by omega) (by assumption)] | rw [rdR_41 (by omega) (by omega) (by omega) (by assumption)] | rw [rdR_pl (by omega) (by assumption) (by omega) (by assumption) (by assumption) hle]
                        exact hw
                      · skip
                        refine am_eq_r (q' := (213, [some (.ref 19), some (.int (nI p)), some (.int (nI nv)), some (.int (nI oo)), some (.int (b k))], [.int 0], wd C (upd (upd (upd Y.1 6 (nI (k + 1))) 7 3) 8 (nI p), Y.2) og)) rfl ?_
                        refine am_steps_r ok_M_readRound 2 (q' := (217, [some (.ref 19), some (.int (nI p)), some (.int (nI nv)), some (.int (nI oo)), some (.int (b k))], [.int 0], wd C (upd (upd (upd Y.1 6 (nI (k + 1))) 7 3) 8 (nI p), Y.2) og)) rfl ?_
                        refine am_zret_r ok_M_readRound rfl rfl rfl rfl ?_
                        refine hpo _ _ ?_
                        rw [rdR_ful (by omega) (fun z => by first | (exfalso; omega) | exact absurd z.1 (by assumption) | exact absurd ((show b k = 13 by assumption).symm.trans z.1) (by decide) | exact absurd ((show b k = 10 by assumption).symm.trans z.1) (by decide) | exact absurd ((show b k = 40 by assumption).symm.trans z.1) (by decide)) (by assumption) (by omega)]
                        exact lfQ_bad (Y := (upd Y.1 6 (nI (k + 1)), Y.2)) hL 3 p
      · skip
        have h_2 : ¬ k < n := fun z => h_2 ((nI_ltI (show k < 2 ^ 31 by omega) (show n < 2 ^ 31 by omega)).mpr z)
        refine am_steps_r ok_M_readRound 4 (q' := (61, [some (.ref 19), some (.int (nI p)), some (.int (nI nv)), some (.int (nI oo)), none], [.int (Y.1 1), .int 1, .ref 19], wd C Y og)) rfl ?_
        rw [show (Y.1 1 : Int32) = nI n from hT.1]
        refine am_callV_r (As := [.int 1, .int (nI n)]) (rest := []) ok_M_readRound rfl rfl ok_M_fails oi_M_fails lk_6_139 (Or.inl ⟨_, _, _, rfl, rfl, rfl⟩) rfl rfl (Nat.le_of_ble_eq_true rfl) (c_M_fails _ C Y og 1 (nI n)) ?_
        rintro v_ w_ ⟨rfl, rfl⟩ -
        refine am_eq_r (q' := (64, [some (.ref 19), some (.int (nI p)), some (.int (nI nv)), some (.int (nI oo)), none], [.int 0], wd C (upd (upd Y.1 7 1) 8 (nI n), Y.2) og)) rfl ?_
        refine am_zret_r ok_M_readRound rfl rfl rfl rfl ?_
        refine hpo _ _ ?_
        rw [rdR_out (by omega)]
        exact lfQ_bad hL 1 n
set_option maxHeartbeats 1000000 in
set_option maxRecDepth 100000 in
theorem c_M_readRound (d : Nat) (C : wd_C) (Y : wd_Y) (og : Nat → Int64) (n : Nat) (b : Nat → Int32) (hT : tpY Y n b) (nv u : Nat) (V : VT) (hY : vsY Y nv u V) (ho : vok nv V) (h3 : nv < 300) (k : Nat) (ha : Y.1 6 = nI k) (hk : k < n) (huk : u ≤ k)  : am_Mt l D cA ad fm (d + 3) m_M_readRound [.ref 19] (wd C Y og) (lfQ Y C og nv u V (rdR n b k 2000 (k + 1) 1 [])) := by
  have hn := hT.2.1
  refine am_mt ok_M_readRound (by simp [am_arg, Value.category, m_M_readRound, am_ml]) ?_
  refine am_eq_r (q' := (0, [some (.ref 19), none, none, none, none], [], wd C Y og)) rfl ?_
  refine am_steps_r ok_M_readRound 6 (q' := (8, [some (.ref 19), some (.int (Y.1 6)), none, none, none], [.int (Y.1 6), .int 5, .ref 19], wd C Y og)) rfl ?_
  rw [show (Y.1 6 : Int32) = nI k from ha]
  refine am_callV_r (As := [.int 5, .int (nI k)]) (rest := []) ok_M_readRound rfl rfl ok_M_begins oi_M_begins lk_6_151 (Or.inl ⟨_, _, _, rfl, rfl, rfl⟩) rfl rfl (Nat.le_of_ble_eq_true rfl) (c_M_begins_in _ C Y og nv u hY.1 h3 5 (nI k)) ?_
  rintro v_ w_ ⟨rfl, rfl⟩ -
  refine am_eq_r (q' := (11, [some (.ref 19), some (.int (nI k)), none, none, none], [.int 1], wd C (yNew Y nv u 5) og)) rfl ?_
  refine am_steps_r ok_M_readRound 17 (q' := (40, [some (.ref 19), some (.int (nI k)), some (.int (((yNew Y nv u 5).1 4) - 1)), some (.int 1), none], [], wd C (upd (upd ((yNew Y nv u 5).1) 10 0) 6 (((yNew Y nv u 5).1 6) + 1), (yNew Y nv u 5).2) og)) rfl ?_
  rw [show ((yNew Y nv u 5).1 4 : Int32) = nI (nv + 1) from rfl]
  rw [show ((nI (nv + 1)) - 1 : Int32) = nI nv from pk_sub (a := nv + 1) (b := 1) (by omega)]
  rw [show ((yNew Y nv u 5).1 6 : Int32) = nI k from ha]
  rw [show ((nI k) + 1 : Int32) = nI (k + 1) from nI_add k 1]
  refine am_eq_r (q' := (40, [some (.ref 19), some (.int (nI k)), some (.int (nI nv)), some (.int (nI 1)), none], [], wd C (upd (upd ((yNew Y nv u 5).1) 10 0) 6 (nI (k + 1)), (yNew Y nv u 5).2) og)) rfl ?_
  exact lp_M_readRound_40 d C og n b Y hT nv u V k hk 2000 _ (upd (upd ((yNew Y nv u 5).1) 10 0) 6 (nI (k + 1)), (yNew Y nv u 5).2) (k + 1) 1 [] (lfD_begin hY ho h3 5 _) rfl (by omega) (by omega) (by omega) (by simp) (by simp; omega) (fun _ _ hw => hw) (by omega)
end C50
