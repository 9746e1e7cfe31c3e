/-! CONTRACTS of the component's tape, printed by wip/gen/g17.py -/
section C17
variable {l : Launch} {D : va_G} {cA : Nat → ClassId} {ad : Nat → Nat} {fm : Value}
set_option maxHeartbeats 4000000 in
set_option maxRecDepth 100000 in
theorem lp_T_behindWord_2 (d : Nat) (C : wd_C) (Y : wd_Y) (og : Nat → Int64) (n : Nat) (b : Nat → Int32) (hT : tpC C n b) (k : Nat) : ∀ (fu : Nat) (post : Option Value → am_W → Prop) (j : Nat), (j ≤ n) →  post (some (.int (nI (wEnd n b j)))) (wd C Y og) → n - j < fu → am_Rn l D cA ad fm (d + 5) m_T_behindWord (wd C Y og).length post (2, [some (.ref 1), some (.int (nI k)), some (.int (nI j))], [], wd C Y og) := by
  intro fu
  induction fu with
  | zero => intro post j hj hp hfu; exact absurd hfu (Nat.not_lt_zero _)
  | succ fu ih =>
    intro post j hj hp hfu
    have hn := hT.2.1
    refine am_steps_r ok_T_behindWord 4 (q' := (bif decide ((C.1 0) ≤ (nI j)) then 29 else 10, [some (.ref 1), some (.int (nI k)), some (.int (nI j))], [], wd C Y og)) rfl ?_
    rw [show (C.1 0 : Int32) = nI n from hT.1]
    refine am_br_r (fun h_1 => ?_) (fun h_1 => ?_)
    · skip
      have h_1 : n ≤ j := (nI_leI (show n < 2 ^ 31 by omega) (show j < 2 ^ 31 by omega)).mp h_1
      refine am_steps_r ok_T_behindWord 2 (q' := (33, [some (.ref 1), some (.int (nI k)), some (.int (nI j))], [.int (C.1 0)], wd C Y og)) rfl ?_
      rw [show (C.1 0 : Int32) = nI n from hT.1]
      refine am_iret_r ok_T_behindWord rfl rfl rfl ?_
      first | (rw [wEnd_not (by assumption)] at hp; exact hp) | (rw [wEnd_out (by omega)] at hp; rw [show n = j by omega]; exact hp)
    · skip
      have h_1 : ¬ n ≤ j := fun z => h_1 ((nI_leI (show n < 2 ^ 31 by omega) (show j < 2 ^ 31 by omega)).mpr z)
      refine am_steps_r ok_T_behindWord 2 (q' := (12, [some (.ref 1), some (.int (nI k)), some (.int (nI j))], [.int (nI j), .ref 1], wd C Y og)) rfl ?_
      refine am_callV_r (As := [.int (nI j)]) (rest := []) ok_T_behindWord rfl rfl ok_T_at oi_T_at lk_2_19 (Or.inl ⟨_, _, _, rfl, rfl, rfl⟩) rfl rfl (Nat.le_of_ble_eq_true rfl) (c_T_at _ C Y og n b hT j (by omega)) ?_
      rintro v_ w_ ⟨rfl, rfl⟩ -
      refine am_eq_r (q' := (15, [some (.ref 1), some (.int (nI k)), some (.int (nI j))], [.int (b j)], wd C Y og)) rfl ?_
      refine am_callN_r (As := [.int (b j)]) (rest := []) ok_T_behindWord rfl rfl ok_S_isRegular os_S_isRegular ln_2_30 rfl rfl (Nat.le_of_ble_eq_true rfl) (c_S_isRegular _ C Y og (b j)) ?_
      rintro v_ w_ ⟨rfl, rfl⟩ -
      refine am_eq_r (q' := (18, [some (.ref 1), some (.int (nI k)), some (.int (nI j))], [.int (bz (isReg (b j)))], wd C Y og)) rfl ?_
      refine am_steps_r ok_T_behindWord 1 (q' := (bif decide ((bz (isReg (b j))) = 0) then 21 else 23, [some (.ref 1), some (.int (nI k)), some (.int (nI j))], [], wd C Y og)) rfl ?_
      refine am_bz_r (fun h_4 => ?_) (fun h_4 => ?_)
      · skip
        refine am_steps_r ok_T_behindWord 2 (q' := (2, [some (.ref 1), some (.int (nI k)), some (.int ((nI j) + 1))], [], wd C Y og)) rfl ?_
        rw [show ((nI j) + 1 : Int32) = nI (j + 1) from nI_add j 1]
        refine ih post (j + 1) (by omega) ?_ (by omega)
        rw [wEnd_reg (by omega) (by assumption)] at hp
        exact hp
      · skip
        refine am_steps_r ok_T_behindWord 1 (q' := (22, [some (.ref 1), some (.int (nI k)), some (.int (nI j))], [.int (nI j)], wd C Y og)) rfl ?_
        refine am_iret_r ok_T_behindWord rfl rfl rfl ?_
        first | (rw [wEnd_not (by assumption)] at hp; exact hp) | (rw [wEnd_out (by omega)] at hp; rw [show n = j by omega]; exact hp)
set_option maxHeartbeats 4000000 in
set_option maxRecDepth 100000 in
theorem c_T_behindWord (d : Nat) (C : wd_C) (Y : wd_Y) (og : Nat → Int64) (n : Nat) (b : Nat → Int32) (hT : tpC C n b) (k : Nat) (hk : k ≤ n) : am_Mt l D cA ad fm (d + 5) m_T_behindWord [.ref 1, .int (nI k)] (wd C Y og) (fun v w' => v = some (.int (nI (wEnd n b k))) ∧ w' = wd C Y og) := by
  refine am_mt ok_T_behindWord (by simp [am_arg, Value.category, m_T_behindWord, am_ml]) ?_
  refine am_eq_r (q' := (0, [some (.ref 1), some (.int (nI k)), none], [], wd C Y og)) rfl ?_
  refine am_steps_r ok_T_behindWord 2 (q' := (2, [some (.ref 1), some (.int (nI k)), some (.int (nI k))], [], wd C Y og)) rfl ?_
  exact lp_T_behindWord_2 d C Y og n b hT k (n + 1) _ k hk ⟨rfl, rfl⟩ (by omega)
set_option maxHeartbeats 4000000 in
set_option maxRecDepth 100000 in
theorem lp_T_behindWhite_4 (d : Nat) (C : wd_C) (Y : wd_Y) (og : Nat → Int64) (n : Nat) (b : Nat → Int32) (hT : tpC C n b) (k : Nat) : ∀ (fu : Nat) (post : Option Value → am_W → Prop) (j : Nat) (r : Bool), (j ≤ n) →  post (some (.int (nI (bwh b (n - j) j r)))) (wd C Y og) → n - j < fu → am_Rn l D cA ad fm (d + 5) m_T_behindWhite (wd C Y og).length post (4, [some (.ref 1), some (.int (nI k)), some (.int (bz r)), some (.int (nI j)), none], [], wd C Y og) := by
  intro fu
  induction fu with
  | zero => intro post j r hj hp hfu; exact absurd hfu (Nat.not_lt_zero _)
  | succ fu ih =>
    intro post j r hj hp hfu
    have hn := hT.2.1
    refine am_steps_r ok_T_behindWhite 4 (q' := (bif decide ((C.1 0) ≤ (nI j)) then 64 else 12, [some (.ref 1), some (.int (nI k)), some (.int (bz r)), some (.int (nI j)), none], [], wd C Y og)) rfl ?_
    rw [show (C.1 0 : Int32) = nI n from hT.1]
    refine am_br_r (fun h_1 => ?_) (fun h_1 => ?_)
    · skip
      have h_1 : n ≤ j := (nI_leI (show n < 2 ^ 31 by omega) (show j < 2 ^ 31 by omega)).mp h_1
      refine am_steps_r ok_T_behindWhite 2 (q' := (68, [some (.ref 1), some (.int (nI k)), some (.int (bz r)), some (.int (nI j)), none], [.int (C.1 0)], wd C Y og)) rfl ?_
      rw [show (C.1 0 : Int32) = nI n from hT.1]
      refine am_iret_r ok_T_behindWhite rfl rfl rfl ?_
      first | (rw [show n - j = 0 by omega, bwh] at hp; rw [show n = j by omega]; exact hp) | (rw [show n - j = (n - (j + 1)) + 1 by omega, bwh] at hp; simpa [*, isLE_37] using hp)
    · skip
      have h_1 : ¬ n ≤ j := fun z => h_1 ((nI_leI (show n < 2 ^ 31 by omega) (show j < 2 ^ 31 by omega)).mpr z)
      refine am_steps_r ok_T_behindWhite 2 (q' := (14, [some (.ref 1), some (.int (nI k)), some (.int (bz r)), some (.int (nI j)), none], [.int (nI j), .ref 1], wd C Y og)) rfl ?_
      refine am_callV_r (As := [.int (nI j)]) (rest := []) ok_T_behindWhite rfl rfl ok_T_at oi_T_at lk_2_19 (Or.inl ⟨_, _, _, rfl, rfl, rfl⟩) rfl rfl (Nat.le_of_ble_eq_true rfl) (c_T_at _ C Y og n b hT j (by omega)) ?_
      rintro v_ w_ ⟨rfl, rfl⟩ -
      refine am_eq_r (q' := (17, [some (.ref 1), some (.int (nI k)), some (.int (bz r)), some (.int (nI j)), none], [.int (b j)], wd C Y og)) rfl ?_
      refine am_steps_r ok_T_behindWhite 2 (q' := (21, [some (.ref 1), some (.int (nI k)), some (.int (bz r)), some (.int (nI j)), some (.int (b j))], [.int (b j)], wd C Y og)) rfl ?_
      refine am_callN_r (As := [.int (b j)]) (rest := []) ok_T_behindWhite rfl rfl ok_S_isLineEnd os_S_isLineEnd ln_2_23 rfl rfl (Nat.le_of_ble_eq_true rfl) (c_S_isLineEnd _ C Y og (b j)) ?_
      rintro v_ w_ ⟨rfl, rfl⟩ -
      refine am_eq_r (q' := (24, [some (.ref 1), some (.int (nI k)), some (.int (bz r)), some (.int (nI j)), some (.int (b j))], [.int (bz (isLE (b j)))], wd C Y og)) rfl ?_
      refine am_steps_r ok_T_behindWhite 1 (q' := (bif decide ((bz (isLE (b j))) = 0) then 32 else 27, [some (.ref 1), some (.int (nI k)), some (.int (bz r)), some (.int (nI j)), some (.int (b j))], [], wd C Y og)) rfl ?_
      refine am_bz_r (fun h_4 => ?_) (fun h_4 => ?_)
      · skip
        refine am_steps_r ok_T_behindWhite 5 (q' := (4, [some (.ref 1), some (.int (nI k)), some (.int 0), some (.int ((nI j) + 1)), some (.int (b j))], [], wd C Y og)) rfl ?_
        rw [show ((nI j) + 1 : Int32) = nI (j + 1) from nI_add j 1]
        refine am_drop_r [4] (L' := [some (.ref 1), some (.int (nI k)), some (.int 0), some (.int (nI (j + 1))), none]) rfl ?_
        refine am_eq_r (q' := (4, [some (.ref 1), some (.int (nI k)), some (.int (bz false)), some (.int (nI (j + 1))), none], [], wd C Y og)) rfl ?_
        refine ih post (j + 1) false (by omega) ?_ (by omega)
        rw [show n - j = (n - (j + 1)) + 1 by omega, bwh] at hp
        simpa [*, isLE_37] using hp
      · skip
        refine am_steps_r ok_T_behindWhite 3 (q' := (bif decide ((b j) = 37) then 39 else 44, [some (.ref 1), some (.int (nI k)), some (.int (bz r)), some (.int (nI j)), some (.int (b j))], [], wd C Y og)) rfl ?_
        refine am_br_r (fun h_5 => ?_) (fun h_5 => ?_)
        · skip
          refine am_steps_r ok_T_behindWhite 5 (q' := (4, [some (.ref 1), some (.int (nI k)), some (.int 1), some (.int ((nI j) + 1)), some (.int (b j))], [], wd C Y og)) rfl ?_
          rw [show ((nI j) + 1 : Int32) = nI (j + 1) from nI_add j 1]
          refine am_drop_r [4] (L' := [some (.ref 1), some (.int (nI k)), some (.int 1), some (.int (nI (j + 1))), none]) rfl ?_
          refine am_eq_r (q' := (4, [some (.ref 1), some (.int (nI k)), some (.int (bz true)), some (.int (nI (j + 1))), none], [], wd C Y og)) rfl ?_
          refine ih post (j + 1) true (by omega) ?_ (by omega)
          rw [show n - j = (n - (j + 1)) + 1 by omega, bwh] at hp
          simpa [*, isLE_37] using hp
        · skip
          refine am_steps_r ok_T_behindWhite 2 (q' := (bif decide ((bz r) = 0) then 48 else 58, [some (.ref 1), some (.int (nI k)), some (.int (bz r)), some (.int (nI j)), some (.int (b j))], [], wd C Y og)) rfl ?_
          refine am_bz_r (fun h_6 => ?_) (fun h_6 => ?_)
          · skip
            refine am_steps_r ok_T_behindWhite 2 (q' := (4, [some (.ref 1), some (.int (nI k)), some (.int (bz r)), some (.int ((nI j) + 1)), some (.int (b j))], [], wd C Y og)) rfl ?_
            rw [show ((nI j) + 1 : Int32) = nI (j + 1) from nI_add j 1]
            refine am_drop_r [4] (L' := [some (.ref 1), some (.int (nI k)), some (.int (bz r)), some (.int (nI (j + 1))), none]) rfl ?_
            refine ih post (j + 1) r (by omega) ?_ (by omega)
            rw [show n - j = (n - (j + 1)) + 1 by omega, bwh] at hp
            simpa [*, isLE_37] using hp
          · skip
            refine am_steps_r ok_T_behindWhite 1 (q' := (50, [some (.ref 1), some (.int (nI k)), some (.int (bz r)), some (.int (nI j)), some (.int (b j))], [.int (b j)], wd C Y og)) rfl ?_
            refine am_callN_r (As := [.int (b j)]) (rest := []) ok_T_behindWhite rfl rfl ok_S_isPlainWhite os_S_isPlainWhite ln_2_27 rfl rfl (Nat.le_of_ble_eq_true rfl) (c_S_isPlainWhite _ C Y og (b j)) ?_
            rintro v_ w_ ⟨rfl, rfl⟩ -
            refine am_eq_r (q' := (53, [some (.ref 1), some (.int (nI k)), some (.int (bz r)), some (.int (nI j)), some (.int (b j))], [.int (bz (isWh (b j)))], wd C Y og)) rfl ?_
            refine am_steps_r ok_T_behindWhite 1 (q' := (bif decide ((bz (isWh (b j))) = 0) then 56 else 58, [some (.ref 1), some (.int (nI k)), some (.int (bz r)), some (.int (nI j)), some (.int (b j))], [], wd C Y og)) rfl ?_
            refine am_bz_r (fun h_8 => ?_) (fun h_8 => ?_)
            · skip
              refine am_steps_r ok_T_behindWhite 2 (q' := (4, [some (.ref 1), some (.int (nI k)), some (.int (bz r)), some (.int ((nI j) + 1)), some (.int (b j))], [], wd C Y og)) rfl ?_
              rw [show ((nI j) + 1 : Int32) = nI (j + 1) from nI_add j 1]
              refine am_drop_r [4] (L' := [some (.ref 1), some (.int (nI k)), some (.int (bz r)), some (.int (nI (j + 1))), none]) rfl ?_
              refine ih post (j + 1) r (by omega) ?_ (by omega)
              rw [show n - j = (n - (j + 1)) + 1 by omega, bwh] at hp
              simpa [*, isLE_37] using hp
            · skip
              refine am_steps_r ok_T_behindWhite 1 (q' := (57, [some (.ref 1), some (.int (nI k)), some (.int (bz r)), some (.int (nI j)), some (.int (b j))], [.int (nI j)], wd C Y og)) rfl ?_
              refine am_iret_r ok_T_behindWhite rfl rfl rfl ?_
              first | (rw [show n - j = 0 by omega, bwh] at hp; rw [show n = j by omega]; exact hp) | (rw [show n - j = (n - (j + 1)) + 1 by omega, bwh] at hp; simpa [*, isLE_37] using hp)
set_option maxHeartbeats 4000000 in
set_option maxRecDepth 100000 in
theorem c_T_behindWhite (d : Nat) (C : wd_C) (Y : wd_Y) (og : Nat → Int64) (n : Nat) (b : Nat → Int32) (hT : tpC C n b) (k : Nat) (hk : k ≤ n) : am_Mt l D cA ad fm (d + 5) m_T_behindWhite [.ref 1, .int (nI k)] (wd C Y og) (fun v w' => v = some (.int (nI (skW n b k))) ∧ w' = wd C Y og) := by
  refine am_mt ok_T_behindWhite (by simp [am_arg, Value.category, m_T_behindWhite, am_ml]) ?_
  refine am_eq_r (q' := (0, [some (.ref 1), some (.int (nI k)), none, none, none], [], wd C Y og)) rfl ?_
  refine am_steps_r ok_T_behindWhite 4 (q' := (4, [some (.ref 1), some (.int (nI k)), some (.int 0), some (.int (nI k)), none], [], wd C Y og)) rfl ?_
  refine am_eq_r (q' := (4, [some (.ref 1), some (.int (nI k)), some (.int (bz false)), some (.int (nI k)), none], [], wd C Y og)) rfl ?_
  exact lp_T_behindWhite_4 d C Y og n b hT k (n + 1) _ k false hk ⟨rfl, rfl⟩ (by omega)
set_option maxHeartbeats 4000000 in
set_option maxRecDepth 100000 in
theorem c_T_behindLineEnd (d : Nat) (C : wd_C) (Y : wd_Y) (og : Nat → Int64) (n : Nat) (b : Nat → Int32) (hT : tpC C n b) (k : Nat) (hk : k < 1073741820) : am_Mt l D cA ad fm (d + 1) m_T_behindLineEnd [.ref 1, .int (nI k)] (wd C Y og) (fun v w' => v = some (.int (nI (leE b k))) ∧ w' = wd C Y og) := by
  refine am_mt ok_T_behindLineEnd (by simp [am_arg, Value.category, m_T_behindLineEnd, am_ml]) ?_
  refine am_eq_r (q' := (0, [some (.ref 1), some (.int (nI k))], [], wd C Y og)) rfl ?_
  refine am_steps_r ok_T_behindLineEnd 2 (q' := (2, [some (.ref 1), some (.int (nI k))], [.int (nI k), .ref 1], wd C Y og)) rfl ?_
  refine am_callV_r (As := [.int (nI k)]) (rest := []) ok_T_behindLineEnd rfl rfl ok_T_at oi_T_at lk_2_19 (Or.inl ⟨_, _, _, rfl, rfl, rfl⟩) rfl rfl (Nat.le_of_ble_eq_true rfl) (c_T_at _ C Y og n b hT k (by omega)) ?_
  rintro v_ w_ ⟨rfl, rfl⟩ -
  refine am_eq_r (q' := (5, [some (.ref 1), some (.int (nI k))], [.int (b k)], wd C Y og)) rfl ?_
  refine am_steps_r ok_T_behindLineEnd 2 (q' := (bif decide ((b k) = 13) then 10 else 26, [some (.ref 1), some (.int (nI k))], [], wd C Y og)) rfl ?_
  refine am_br_r (fun h_2 => ?_) (fun h_2 => ?_)
  · skip
    refine am_steps_r ok_T_behindLineEnd 4 (q' := (14, [some (.ref 1), some (.int (nI k))], [.int ((nI k) + 1), .ref 1], wd C Y og)) rfl ?_
    rw [show ((nI k) + 1 : Int32) = nI (k + 1) from nI_add k 1]
    refine am_callV_r (As := [.int (nI (k + 1))]) (rest := []) ok_T_behindLineEnd rfl rfl ok_T_at oi_T_at lk_2_19 (Or.inl ⟨_, _, _, rfl, rfl, rfl⟩) rfl rfl (Nat.le_of_ble_eq_true rfl) (c_T_at _ C Y og n b hT (k + 1) (by omega)) ?_
    rintro v_ w_ ⟨rfl, rfl⟩ -
    refine am_eq_r (q' := (17, [some (.ref 1), some (.int (nI k))], [.int (b (k + 1))], wd C Y og)) rfl ?_
    refine am_steps_r ok_T_behindLineEnd 2 (q' := (bif decide ((b (k + 1)) = 10) then 22 else 26, [some (.ref 1), some (.int (nI k))], [], wd C Y og)) rfl ?_
    refine am_br_r (fun h_4 => ?_) (fun h_4 => ?_)
    · skip
      refine am_steps_r ok_T_behindLineEnd 3 (q' := (25, [some (.ref 1), some (.int (nI k))], [.int ((nI k) + 2)], wd C Y og)) rfl ?_
      rw [show ((nI k) + 2 : Int32) = nI (k + 2) from nI_add k 2]
      refine am_iret_r ok_T_behindLineEnd rfl rfl rfl ?_
      refine ⟨?_, rfl⟩
      simp_all [leE]
    · skip
      refine am_steps_r ok_T_behindLineEnd 2 (q' := (28, [some (.ref 1), some (.int (nI k))], [.int (nI k), .ref 1], wd C Y og)) rfl ?_
      refine am_callV_r (As := [.int (nI k)]) (rest := []) ok_T_behindLineEnd rfl rfl ok_T_at oi_T_at lk_2_19 (Or.inl ⟨_, _, _, rfl, rfl, rfl⟩) rfl rfl (Nat.le_of_ble_eq_true rfl) (c_T_at _ C Y og n b hT k (by omega)) ?_
      rintro v_ w_ ⟨rfl, rfl⟩ -
      refine am_eq_r (q' := (31, [some (.ref 1), some (.int (nI k))], [.int (b k)], wd C Y og)) rfl ?_
      refine am_callN_r (As := [.int (b k)]) (rest := []) ok_T_behindLineEnd rfl rfl ok_S_isLineEnd os_S_isLineEnd ln_2_23 rfl rfl (Nat.le_of_ble_eq_true rfl) (c_S_isLineEnd _ C Y og (b k)) ?_
      rintro v_ w_ ⟨rfl, rfl⟩ -
      refine am_eq_r (q' := (34, [some (.ref 1), some (.int (nI k))], [.int (bz (isLE (b k)))], wd C Y og)) rfl ?_
      refine am_steps_r ok_T_behindLineEnd 1 (q' := (bif decide ((bz (isLE (b k))) = 0) then 43 else 37, [some (.ref 1), some (.int (nI k))], [], wd C Y og)) rfl ?_
      refine am_bz_r (fun h_7 => ?_) (fun h_7 => ?_)
      · skip
        refine am_steps_r ok_T_behindLineEnd 4 (q' := (44, [some (.ref 1), some (.int (nI k))], [.int ((nI k) + 1)], wd C Y og)) rfl ?_
        rw [show ((nI k) + 1 : Int32) = nI (k + 1) from nI_add k 1]
        refine am_iret_r ok_T_behindLineEnd rfl rfl rfl ?_
        refine ⟨?_, rfl⟩
        simp_all [leE]
      · skip
        refine am_steps_r ok_T_behindLineEnd 1 (q' := (44, [some (.ref 1), some (.int (nI k))], [.int (nI k)], wd C Y og)) rfl ?_
        refine am_iret_r ok_T_behindLineEnd rfl rfl rfl ?_
        refine ⟨?_, rfl⟩
        simp_all [leE]
  · skip
    refine am_steps_r ok_T_behindLineEnd 2 (q' := (28, [some (.ref 1), some (.int (nI k))], [.int (nI k), .ref 1], wd C Y og)) rfl ?_
    refine am_callV_r (As := [.int (nI k)]) (rest := []) ok_T_behindLineEnd rfl rfl ok_T_at oi_T_at lk_2_19 (Or.inl ⟨_, _, _, rfl, rfl, rfl⟩) rfl rfl (Nat.le_of_ble_eq_true rfl) (c_T_at _ C Y og n b hT k (by omega)) ?_
    rintro v_ w_ ⟨rfl, rfl⟩ -
    refine am_eq_r (q' := (31, [some (.ref 1), some (.int (nI k))], [.int (b k)], wd C Y og)) rfl ?_
    refine am_callN_r (As := [.int (b k)]) (rest := []) ok_T_behindLineEnd rfl rfl ok_S_isLineEnd os_S_isLineEnd ln_2_23 rfl rfl (Nat.le_of_ble_eq_true rfl) (c_S_isLineEnd _ C Y og (b k)) ?_
    rintro v_ w_ ⟨rfl, rfl⟩ -
    refine am_eq_r (q' := (34, [some (.ref 1), some (.int (nI k))], [.int (bz (isLE (b k)))], wd C Y og)) rfl ?_
    refine am_steps_r ok_T_behindLineEnd 1 (q' := (bif decide ((bz (isLE (b k))) = 0) then 43 else 37, [some (.ref 1), some (.int (nI k))], [], wd C Y og)) rfl ?_
    refine am_bz_r (fun h_10 => ?_) (fun h_10 => ?_)
    · skip
      refine am_steps_r ok_T_behindLineEnd 4 (q' := (44, [some (.ref 1), some (.int (nI k))], [.int ((nI k) + 1)], wd C Y og)) rfl ?_
      rw [show ((nI k) + 1 : Int32) = nI (k + 1) from nI_add k 1]
      refine am_iret_r ok_T_behindLineEnd rfl rfl rfl ?_
      refine ⟨?_, rfl⟩
      simp_all [leE]
    · skip
      refine am_steps_r ok_T_behindLineEnd 1 (q' := (44, [some (.ref 1), some (.int (nI k))], [.int (nI k)], wd C Y og)) rfl ?_
      refine am_iret_r ok_T_behindLineEnd rfl rfl rfl ?_
      refine ⟨?_, rfl⟩
      simp_all [leE]
set_option maxHeartbeats 4000000 in
set_option maxRecDepth 100000 in
theorem lp_T_behindFigures_4 (d : Nat) (C : wd_C) (Y : wd_Y) (og : Nat → Int64) (n : Nat) (b : Nat → Int32) (hT : tpC C n b) (k : Nat) (hk : k ≤ n) : ∀ (fu : Nat) (post : Option Value → am_W → Prop) (i : Nat), (i ≤ 9) →  post (some (.int (oN (fgR b k (fgE b (9 - i) (k + i)))))) (wd C Y og) → 9 - i < fu → am_Rn l D cA ad fm (d + 5) m_T_behindFigures (wd C Y og).length post (4, [some (.ref 1), some (.int (nI k)), some (.int (nI (k + i))), some (.int (nI i))], [], wd C Y og) := by
  intro fu
  induction fu with
  | zero => intro post i hi hp hfu; exact absurd hfu (Nat.not_lt_zero _)
  | succ fu ih =>
    intro post i hi hp hfu
    have hn := hT.2.1
    refine am_steps_r ok_T_behindFigures 3 (q' := (bif decide (9 ≤ (nI i)) then 30 else 10, [some (.ref 1), some (.int (nI k)), some (.int (nI (k + i))), some (.int (nI i))], [], wd C Y og)) rfl ?_
    refine am_br_r (fun h_1 => ?_) (fun h_1 => ?_)
    · skip
      have h_1 : 9 ≤ i := (nI_leI (show 9 < 2 ^ 31 by omega) (show i < 2 ^ 31 by omega)).mp h_1
      refine am_steps_r ok_T_behindFigures 3 (q' := (bif decide ((nI (k + i)) = (nI k)) then 46 else 35, [some (.ref 1), some (.int (nI k)), some (.int (nI (k + i))), some (.int (nI i))], [], wd C Y og)) rfl ?_
      refine am_br_r (fun h_2 => ?_) (fun h_2 => ?_)
      · skip
        have h_2 : (k + i) = k := (nI_eq (show (k + i) < 2 ^ 31 by omega) (show k < 2 ^ 31 by omega)).mp h_2
        refine am_steps_r ok_T_behindFigures 2 (q' := (51, [some (.ref 1), some (.int (nI k)), some (.int (nI (k + i))), some (.int (nI i))], [.int (-1)], wd C Y og)) rfl ?_
        refine am_iret_r ok_T_behindFigures rfl rfl rfl ?_
        have he : fgE b (9 - i) (k + i) = k + i := by
          first | exact fgE_no (by assumption) | rw [show 9 - i = 0 by omega, fgE]
        rw [he] at hp
        first | (rw [fgR_a (by assumption)] at hp; exact hp) | (rw [fgR_b (by assumption)] at hp; exact hp) | (rw [fgR_c (by assumption) (by assumption)] at hp; exact hp)
      · skip
        have h_2 : ¬ (k + i) = k := fun z => h_2 ((nI_eq (show (k + i) < 2 ^ 31 by omega) (show k < 2 ^ 31 by omega)).mpr z)
        refine am_steps_r ok_T_behindFigures 2 (q' := (37, [some (.ref 1), some (.int (nI k)), some (.int (nI (k + i))), some (.int (nI i))], [.int (nI (k + i)), .ref 1], wd C Y og)) rfl ?_
        refine am_callV_r (As := [.int (nI (k + i))]) (rest := []) ok_T_behindFigures rfl rfl ok_T_at oi_T_at lk_2_19 (Or.inl ⟨_, _, _, rfl, rfl, rfl⟩) rfl rfl (Nat.le_of_ble_eq_true rfl) (c_T_at _ C Y og n b hT (k + i) (by omega)) ?_
        rintro v_ w_ ⟨rfl, rfl⟩ -
        refine am_eq_r (q' := (40, [some (.ref 1), some (.int (nI k)), some (.int (nI (k + i))), some (.int (nI i))], [.int (b (k + i))], wd C Y og)) rfl ?_
        refine am_callN_r (As := [.int (b (k + i))]) (rest := []) ok_T_behindFigures rfl rfl ok_S_isRegular os_S_isRegular ln_2_30 rfl rfl (Nat.le_of_ble_eq_true rfl) (c_S_isRegular _ C Y og (b (k + i))) ?_
        rintro v_ w_ ⟨rfl, rfl⟩ -
        refine am_eq_r (q' := (43, [some (.ref 1), some (.int (nI k)), some (.int (nI (k + i))), some (.int (nI i))], [.int (bz (isReg (b (k + i))))], wd C Y og)) rfl ?_
        refine am_steps_r ok_T_behindFigures 1 (q' := (bif decide ((bz (isReg (b (k + i)))) = 0) then 50 else 46, [some (.ref 1), some (.int (nI k)), some (.int (nI (k + i))), some (.int (nI i))], [], wd C Y og)) rfl ?_
        refine am_bz_r (fun h_5 => ?_) (fun h_5 => ?_)
        · skip
          refine am_steps_r ok_T_behindFigures 2 (q' := (51, [some (.ref 1), some (.int (nI k)), some (.int (nI (k + i))), some (.int (nI i))], [.int (-1)], wd C Y og)) rfl ?_
          refine am_iret_r ok_T_behindFigures rfl rfl rfl ?_
          have he : fgE b (9 - i) (k + i) = k + i := by
            first | exact fgE_no (by assumption) | rw [show 9 - i = 0 by omega, fgE]
          rw [he] at hp
          first | (rw [fgR_a (by assumption)] at hp; exact hp) | (rw [fgR_b (by assumption)] at hp; exact hp) | (rw [fgR_c (by assumption) (by assumption)] at hp; exact hp)
        · skip
          refine am_steps_r ok_T_behindFigures 1 (q' := (51, [some (.ref 1), some (.int (nI k)), some (.int (nI (k + i))), some (.int (nI i))], [.int (nI (k + i))], wd C Y og)) rfl ?_
          refine am_iret_r ok_T_behindFigures rfl rfl rfl ?_
          have he : fgE b (9 - i) (k + i) = k + i := by
            first | exact fgE_no (by assumption) | rw [show 9 - i = 0 by omega, fgE]
          rw [he] at hp
          first | (rw [fgR_a (by assumption)] at hp; exact hp) | (rw [fgR_b (by assumption)] at hp; exact hp) | (rw [fgR_c (by assumption) (by assumption)] at hp; exact hp)
    · skip
      have h_1 : ¬ 9 ≤ i := fun z => h_1 ((nI_leI (show 9 < 2 ^ 31 by omega) (show i < 2 ^ 31 by omega)).mpr z)
      refine am_steps_r ok_T_behindFigures 2 (q' := (12, [some (.ref 1), some (.int (nI k)), some (.int (nI (k + i))), some (.int (nI i))], [.int (nI (k + i)), .ref 1], wd C Y og)) rfl ?_
      refine am_callV_r (As := [.int (nI (k + i))]) (rest := []) ok_T_behindFigures rfl rfl ok_T_at oi_T_at lk_2_19 (Or.inl ⟨_, _, _, rfl, rfl, rfl⟩) rfl rfl (Nat.le_of_ble_eq_true rfl) (c_T_at _ C Y og n b hT (k + i) (by omega)) ?_
      rintro v_ w_ ⟨rfl, rfl⟩ -
      refine am_eq_r (q' := (15, [some (.ref 1), some (.int (nI k)), some (.int (nI (k + i))), some (.int (nI i))], [.int (b (k + i))], wd C Y og)) rfl ?_
      refine am_callN_r (As := [.int (b (k + i))]) (rest := []) ok_T_behindFigures rfl rfl ok_S_isFigure os_S_isFigure ln_2_47 rfl rfl (Nat.le_of_ble_eq_true rfl) (c_S_isFigure _ C Y og (b (k + i))) ?_
      rintro v_ w_ ⟨rfl, rfl⟩ -
      refine am_eq_r (q' := (18, [some (.ref 1), some (.int (nI k)), some (.int (nI (k + i))), some (.int (nI i))], [.int (bz (isFig (b (k + i))))], wd C Y og)) rfl ?_
      refine am_steps_r ok_T_behindFigures 1 (q' := (bif decide ((bz (isFig (b (k + i)))) = 0) then 30 else 21, [some (.ref 1), some (.int (nI k)), some (.int (nI (k + i))), some (.int (nI i))], [], wd C Y og)) rfl ?_
      refine am_bz_r (fun h_8 => ?_) (fun h_8 => ?_)
      · skip
        refine am_steps_r ok_T_behindFigures 3 (q' := (4, [some (.ref 1), some (.int (nI k)), some (.int ((nI (k + i)) + 1)), some (.int ((nI i) + 1))], [], wd C Y og)) rfl ?_
        rw [show ((nI (k + i)) + 1 : Int32) = nI ((k + i) + 1) from nI_add (k + i) 1]
        rw [show ((nI i) + 1 : Int32) = nI (i + 1) from nI_add i 1]
        refine ih post (i + 1) (by omega) ?_ (by omega)
        rw [show 9 - i = (9 - (i + 1)) + 1 by omega, fgE_yes (by assumption)] at hp
        exact hp
      · skip
        refine am_steps_r ok_T_behindFigures 3 (q' := (bif decide ((nI (k + i)) = (nI k)) then 46 else 35, [some (.ref 1), some (.int (nI k)), some (.int (nI (k + i))), some (.int (nI i))], [], wd C Y og)) rfl ?_
        refine am_br_r (fun h_9 => ?_) (fun h_9 => ?_)
        · skip
          have h_9 : (k + i) = k := (nI_eq (show (k + i) < 2 ^ 31 by omega) (show k < 2 ^ 31 by omega)).mp h_9
          refine am_steps_r ok_T_behindFigures 2 (q' := (51, [some (.ref 1), some (.int (nI k)), some (.int (nI (k + i))), some (.int (nI i))], [.int (-1)], wd C Y og)) rfl ?_
          refine am_iret_r ok_T_behindFigures rfl rfl rfl ?_
          have he : fgE b (9 - i) (k + i) = k + i := by
            first | exact fgE_no (by assumption) | rw [show 9 - i = 0 by omega, fgE]
          rw [he] at hp
          first | (rw [fgR_a (by assumption)] at hp; exact hp) | (rw [fgR_b (by assumption)] at hp; exact hp) | (rw [fgR_c (by assumption) (by assumption)] at hp; exact hp)
        · skip
          have h_9 : ¬ (k + i) = k := fun z => h_9 ((nI_eq (show (k + i) < 2 ^ 31 by omega) (show k < 2 ^ 31 by omega)).mpr z)
          refine am_steps_r ok_T_behindFigures 2 (q' := (37, [some (.ref 1), some (.int (nI k)), some (.int (nI (k + i))), some (.int (nI i))], [.int (nI (k + i)), .ref 1], wd C Y og)) rfl ?_
          refine am_callV_r (As := [.int (nI (k + i))]) (rest := []) ok_T_behindFigures rfl rfl ok_T_at oi_T_at lk_2_19 (Or.inl ⟨_, _, _, rfl, rfl, rfl⟩) rfl rfl (Nat.le_of_ble_eq_true rfl) (c_T_at _ C Y og n b hT (k + i) (by omega)) ?_
          rintro v_ w_ ⟨rfl, rfl⟩ -
          refine am_eq_r (q' := (40, [some (.ref 1), some (.int (nI k)), some (.int (nI (k + i))), some (.int (nI i))], [.int (b (k + i))], wd C Y og)) rfl ?_
          refine am_callN_r (As := [.int (b (k + i))]) (rest := []) ok_T_behindFigures rfl rfl ok_S_isRegular os_S_isRegular ln_2_30 rfl rfl (Nat.le_of_ble_eq_true rfl) (c_S_isRegular _ C Y og (b (k + i))) ?_
          rintro v_ w_ ⟨rfl, rfl⟩ -
          refine am_eq_r (q' := (43, [some (.ref 1), some (.int (nI k)), some (.int (nI (k + i))), some (.int (nI i))], [.int (bz (isReg (b (k + i))))], wd C Y og)) rfl ?_
          refine am_steps_r ok_T_behindFigures 1 (q' := (bif decide ((bz (isReg (b (k + i)))) = 0) then 50 else 46, [some (.ref 1), some (.int (nI k)), some (.int (nI (k + i))), some (.int (nI i))], [], wd C Y og)) rfl ?_
          refine am_bz_r (fun h_12 => ?_) (fun h_12 => ?_)
          · skip
            refine am_steps_r ok_T_behindFigures 2 (q' := (51, [some (.ref 1), some (.int (nI k)), some (.int (nI (k + i))), some (.int (nI i))], [.int (-1)], wd C Y og)) rfl ?_
            refine am_iret_r ok_T_behindFigures rfl rfl rfl ?_
            have he : fgE b (9 - i) (k + i) = k + i := by
              first | exact fgE_no (by assumption) | rw [show 9 - i = 0 by omega, fgE]
            rw [he] at hp
            first | (rw [fgR_a (by assumption)] at hp; exact hp) | (rw [fgR_b (by assumption)] at hp; exact hp) | (rw [fgR_c (by assumption) (by assumption)] at hp; exact hp)
          · skip
            refine am_steps_r ok_T_behindFigures 1 (q' := (51, [some (.ref 1), some (.int (nI k)), some (.int (nI (k + i))), some (.int (nI i))], [.int (nI (k + i))], wd C Y og)) rfl ?_
            refine am_iret_r ok_T_behindFigures rfl rfl rfl ?_
            have he : fgE b (9 - i) (k + i) = k + i := by
              first | exact fgE_no (by assumption) | rw [show 9 - i = 0 by omega, fgE]
            rw [he] at hp
            first | (rw [fgR_a (by assumption)] at hp; exact hp) | (rw [fgR_b (by assumption)] at hp; exact hp) | (rw [fgR_c (by assumption) (by assumption)] at hp; exact hp)
set_option maxHeartbeats 4000000 in
set_option maxRecDepth 100000 in
theorem c_T_behindFigures (d : Nat) (C : wd_C) (Y : wd_Y) (og : Nat → Int64) (n : Nat) (b : Nat → Int32) (hT : tpC C n b) (k : Nat) (hk : k ≤ n) : am_Mt l D cA ad fm (d + 5) m_T_behindFigures [.ref 1, .int (nI k)] (wd C Y og) (fun v w' => v = some (.int (oN (fgW b k))) ∧ w' = wd C Y og) := by
  refine am_mt ok_T_behindFigures (by simp [am_arg, Value.category, m_T_behindFigures, am_ml]) ?_
  refine am_eq_r (q' := (0, [some (.ref 1), some (.int (nI k)), none, none], [], wd C Y og)) rfl ?_
  refine am_steps_r ok_T_behindFigures 4 (q' := (4, [some (.ref 1), some (.int (nI k)), some (.int (nI k)), some (.int 0)], [], wd C Y og)) rfl ?_
  refine am_eq_r (q' := (4, [some (.ref 1), some (.int (nI k)), some (.int (nI (k + 0))), some (.int (nI 0))], [], wd C Y og)) rfl ?_
  exact lp_T_behindFigures_4 d C Y og n b hT k hk 10 _ 0 (by omega) ⟨rfl, rfl⟩ (by omega)
set_option maxHeartbeats 4000000 in
set_option maxRecDepth 100000 in
theorem lp_T_figuresBetween_5 (d : Nat) (C : wd_C) (Y : wd_Y) (og : Nat → Int64) (n : Nat) (b : Nat → Int32) (hT : tpC C n b) (k m : Nat) (hm : m ≤ n) : ∀ (fu : Nat) (post : Option Value → am_W → Prop) (j : Nat) (a : Int32), (j ≤ m) →  post (some (.int (fgS b (m - j) j a))) (wd C Y og) → m - j < fu → am_Rn l D cA ad fm (d + 1) m_T_figuresBetween (wd C Y og).length post (5, [some (.ref 1), some (.int (nI k)), some (.int (nI m)), some (.int a), some (.int (nI j))], [], wd C Y og) := by
  intro fu
  induction fu with
  | zero => intro post j a hj hp hfu; exact absurd hfu (Nat.not_lt_zero _)
  | succ fu ih =>
    intro post j a hj hp hfu
    have hn := hT.2.1
    refine am_steps_r ok_T_figuresBetween 3 (q' := (bif decide ((nI m) ≤ (nI j)) then 32 else 11, [some (.ref 1), some (.int (nI k)), some (.int (nI m)), some (.int a), some (.int (nI j))], [], wd C Y og)) rfl ?_
    refine am_br_r (fun h_1 => ?_) (fun h_1 => ?_)
    · skip
      have h_1 : m ≤ j := (nI_leI (show m < 2 ^ 31 by omega) (show j < 2 ^ 31 by omega)).mp h_1
      refine am_steps_r ok_T_figuresBetween 1 (q' := (33, [some (.ref 1), some (.int (nI k)), some (.int (nI m)), some (.int a), some (.int (nI j))], [.int a], wd C Y og)) rfl ?_
      refine am_iret_r ok_T_figuresBetween rfl rfl rfl ?_
      rw [show m - j = 0 by omega, fgS] at hp
      exact hp
    · skip
      have h_1 : ¬ m ≤ j := fun z => h_1 ((nI_leI (show m < 2 ^ 31 by omega) (show j < 2 ^ 31 by omega)).mpr z)
      refine am_steps_r ok_T_figuresBetween 5 (q' := (18, [some (.ref 1), some (.int (nI k)), some (.int (nI m)), some (.int a), some (.int (nI j))], [.int (nI j), .ref 1, .int (a * 10)], wd C Y og)) rfl ?_
      refine am_callV_r (As := [.int (nI j)]) (rest := [.int (a * 10)]) ok_T_figuresBetween rfl rfl ok_T_at oi_T_at lk_2_19 (Or.inl ⟨_, _, _, rfl, rfl, rfl⟩) rfl rfl (Nat.le_of_ble_eq_true rfl) (c_T_at _ C Y og n b hT j (by omega)) ?_
      rintro v_ w_ ⟨rfl, rfl⟩ -
      refine am_eq_r (q' := (21, [some (.ref 1), some (.int (nI k)), some (.int (nI m)), some (.int a), some (.int (nI j))], [.int (b j), .int (a * 10)], wd C Y og)) rfl ?_
      refine am_steps_r ok_T_figuresBetween 6 (q' := (5, [some (.ref 1), some (.int (nI k)), some (.int (nI m)), some (.int (((a * 10) + (b j)) - 48)), some (.int ((nI j) + 1))], [], wd C Y og)) rfl ?_
      rw [show ((nI j) + 1 : Int32) = nI (j + 1) from nI_add j 1]
      refine ih post (j + 1) (a * 10 + b j - 48) (by omega) ?_ (by omega)
      rw [show m - j = (m - (j + 1)) + 1 by omega, fgS] at hp
      exact hp
set_option maxHeartbeats 4000000 in
set_option maxRecDepth 100000 in
theorem c_T_figuresBetween (d : Nat) (C : wd_C) (Y : wd_Y) (og : Nat → Int64) (n : Nat) (b : Nat → Int32) (hT : tpC C n b) (k m : Nat) (hk : k ≤ m) (hm : m ≤ n) : am_Mt l D cA ad fm (d + 1) m_T_figuresBetween [.ref 1, .int (nI k), .int (nI m)] (wd C Y og) (fun v w' => v = some (.int (fgS b (m - k) k 0)) ∧ w' = wd C Y og) := by
  refine am_mt ok_T_figuresBetween (by simp [am_arg, Value.category, m_T_figuresBetween, am_ml]) ?_
  refine am_eq_r (q' := (0, [some (.ref 1), some (.int (nI k)), some (.int (nI m)), none, none], [], wd C Y og)) rfl ?_
  refine am_steps_r ok_T_figuresBetween 4 (q' := (5, [some (.ref 1), some (.int (nI k)), some (.int (nI m)), some (.int 0), some (.int (nI k))], [], wd C Y og)) rfl ?_
  exact lp_T_figuresBetween_5 d C Y og n b hT k m hm (m + 1) _ k 0 hk ⟨rfl, rfl⟩ (by omega)
end C17
