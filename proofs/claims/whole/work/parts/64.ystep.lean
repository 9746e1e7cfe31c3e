/-! the reference's step: its stretches; printed by wip/gen/g64.py -/
section C64
variable {l : Launch} {D : va_G} {cA : Nat → ClassId} {ad : Nat → Nat} {fm : Value}
set_option maxHeartbeats 1000000 in
set_option maxRecDepth 100000 in
theorem c_M_opens_8 (d : Nat) (C : wd_C) (Y : wd_Y) (og : Nat → Int64) (n : Nat) (b : Nat → Int32) (k nv u : Nat) (V : VT) (no : Int32) (hI : ryI Y n b k nv u V no) (d0 : Nat) (hd : Y.1 12 = nI d0) (kd : Int32) (by_ : Nat) (h8 : d0 = 8) (hk : k < 5000) : am_Mt l D cA ad fm (d + 2) m_M_opens [.ref 19, .int kd, .int (nI by_)] (wd C Y og) (fun vr w' => vr = some (.int 0) ∧ w' = wd C (upd (upd Y.1 7 5) 8 (nI k), Y.2) og) := by
  refine am_mt ok_M_opens (by simp [am_arg, Value.category, m_M_opens, am_ml]) ?_
  refine am_eq_r (q' := (0, [some (.ref 19), some (.int kd), some (.int (nI by_))], [], wd C Y og)) rfl ?_
  refine am_steps_r ok_M_opens 4 (q' := (bif decide ((Y.1 12) = 8) then 9 else 19, [some (.ref 19), some (.int kd), some (.int (nI by_))], [], wd C Y og)) rfl ?_
  rw [show (Y.1 12 : Int32) = nI d0 from hd]
  refine am_br_r (fun h_1 => ?_) (fun h_1 => ?_)
  · skip
    have h_1 : d0 = 8 := (nI_eq (show d0 < 2 ^ 31 by omega) (show 8 < 2 ^ 31 by omega)).mp h_1
    refine am_steps_r ok_M_opens 4 (q' := (15, [some (.ref 19), some (.int kd), some (.int (nI by_))], [.int (Y.1 6), .int 5, .ref 19], wd C Y og)) rfl ?_
    rw [show (Y.1 6 : Int32) = nI k from hI.2.1]
    refine am_callV_r (As := [.int 5, .int (nI k)]) (rest := []) ok_M_opens rfl rfl ok_M_fails oi_M_fails lk_6_139 (Or.inl ⟨_, _, _, rfl, rfl, rfl⟩) rfl rfl (Nat.le_of_ble_eq_true rfl) (c_M_fails _ C Y og 5 (nI k)) ?_
    rintro v_ w_ ⟨rfl, rfl⟩ -
    refine am_eq_r (q' := (18, [some (.ref 19), some (.int kd), some (.int (nI by_))], [.int 0], wd C (upd (upd Y.1 7 5) 8 (nI k), Y.2) og)) rfl ?_
    refine am_zret_r ok_M_opens rfl rfl rfl rfl ?_
    exact ⟨rfl, rfl⟩
  · skip
    have h_1 : ¬ d0 = 8 := fun z => h_1 ((nI_eq (show d0 < 2 ^ 31 by omega) (show 8 < 2 ^ 31 by omega)).mpr z)
    exfalso; omega
set_option maxHeartbeats 1000000 in
set_option maxRecDepth 100000 in
theorem c_M_opens_f (d : Nat) (C : wd_C) (Y : wd_Y) (og : Nat → Int64) (n : Nat) (b : Nat → Int32) (k nv u : Nat) (V : VT) (no : Int32) (hI : ryI Y n b k nv u V no) (d0 : Nat) (hd : Y.1 12 = nI d0) (kd : Int32) (by_ : Nat) (h8 : d0 < 8) (h3 : nv = 300) : am_Mt l D cA ad fm (d + 2) m_M_opens [.ref 19, .int kd, .int (nI by_)] (wd C Y og) (fun vr w' => vr = some (.int 0) ∧ w' = wd C (upd (upd Y.1 7 6) 8 (nI k), Y.2) og) := by
  refine am_mt ok_M_opens (by simp [am_arg, Value.category, m_M_opens, am_ml]) ?_
  refine am_eq_r (q' := (0, [some (.ref 19), some (.int kd), some (.int (nI by_))], [], wd C Y og)) rfl ?_
  refine am_steps_r ok_M_opens 4 (q' := (bif decide ((Y.1 12) = 8) then 9 else 19, [some (.ref 19), some (.int kd), some (.int (nI by_))], [], wd C Y og)) rfl ?_
  rw [show (Y.1 12 : Int32) = nI d0 from hd]
  refine am_br_r (fun h_1 => ?_) (fun h_1 => ?_)
  · skip
    have h_1 : d0 = 8 := (nI_eq (show d0 < 2 ^ 31 by omega) (show 8 < 2 ^ 31 by omega)).mp h_1
    exfalso; omega
  · skip
    have h_1 : ¬ d0 = 8 := fun z => h_1 ((nI_eq (show d0 < 2 ^ 31 by omega) (show 8 < 2 ^ 31 by omega)).mpr z)
    refine am_steps_r ok_M_opens 4 (q' := (25, [some (.ref 19), some (.int kd), some (.int (nI by_))], [.int (Y.1 6), .int kd, .ref 19], wd C Y og)) rfl ?_
    rw [show (Y.1 6 : Int32) = nI k from hI.2.1]
    refine am_callV_r (As := [.int kd, .int (nI k)]) (rest := []) ok_M_opens rfl rfl ok_M_begins oi_M_begins lk_6_151 (Or.inl ⟨_, _, _, rfl, rfl, rfl⟩) rfl rfl (Nat.le_of_ble_eq_true rfl) (c_M_begins_full _ C Y og nv u hI.2.2.2.2.1 h3 kd (nI k)) ?_
    rintro v_ w_ ⟨rfl, rfl⟩ -
    refine am_eq_r (q' := (28, [some (.ref 19), some (.int kd), some (.int (nI by_))], [.int 0], wd C (upd (upd Y.1 7 6) 8 (nI k), Y.2) og)) rfl ?_
    refine am_steps_r ok_M_opens 2 (q' := (32, [some (.ref 19), some (.int kd), some (.int (nI by_))], [.int 0], wd C (upd (upd Y.1 7 6) 8 (nI k), Y.2) og)) rfl ?_
    refine am_zret_r ok_M_opens rfl rfl rfl rfl ?_
    exact ⟨rfl, rfl⟩
set_option maxHeartbeats 1000000 in
set_option maxRecDepth 100000 in
theorem c_M_opens_i (d : Nat) (C : wd_C) (Y : wd_Y) (og : Nat → Int64) (n : Nat) (b : Nat → Int32) (k nv u : Nat) (V : VT) (no : Int32) (hI : ryI Y n b k nv u V no) (d0 : Nat) (hd : Y.1 12 = nI d0) (kd : Int32) (by_ : Nat) (h8 : d0 < 8) (h3 : nv < 300) : am_Mt l D cA ad fm (d + 2) m_M_opens [.ref 19, .int kd, .int (nI by_)] (wd C Y og) (fun vr w' => vr = some (.int 1) ∧ w' = wd C (yOpn Y nv u d0 (k + by_) kd) og) := by
  refine am_mt ok_M_opens (by simp [am_arg, Value.category, m_M_opens, am_ml]) ?_
  refine am_eq_r (q' := (0, [some (.ref 19), some (.int kd), some (.int (nI by_))], [], wd C Y og)) rfl ?_
  refine am_steps_r ok_M_opens 4 (q' := (bif decide ((Y.1 12) = 8) then 9 else 19, [some (.ref 19), some (.int kd), some (.int (nI by_))], [], wd C Y og)) rfl ?_
  rw [show (Y.1 12 : Int32) = nI d0 from hd]
  refine am_br_r (fun h_1 => ?_) (fun h_1 => ?_)
  · skip
    have h_1 : d0 = 8 := (nI_eq (show d0 < 2 ^ 31 by omega) (show 8 < 2 ^ 31 by omega)).mp h_1
    exfalso; omega
  · skip
    have h_1 : ¬ d0 = 8 := fun z => h_1 ((nI_eq (show d0 < 2 ^ 31 by omega) (show 8 < 2 ^ 31 by omega)).mpr z)
    refine am_steps_r ok_M_opens 4 (q' := (25, [some (.ref 19), some (.int kd), some (.int (nI by_))], [.int (Y.1 6), .int kd, .ref 19], wd C Y og)) rfl ?_
    rw [show (Y.1 6 : Int32) = nI k from hI.2.1]
    refine am_callV_r (As := [.int kd, .int (nI k)]) (rest := []) ok_M_opens rfl rfl ok_M_begins oi_M_begins lk_6_151 (Or.inl ⟨_, _, _, rfl, rfl, rfl⟩) rfl rfl (Nat.le_of_ble_eq_true rfl) (c_M_begins_in _ C Y og nv u hI.2.2.2.2.1 h3 kd (nI k)) ?_
    rintro v_ w_ ⟨rfl, rfl⟩ -
    refine am_eq_r (q' := (28, [some (.ref 19), some (.int kd), some (.int (nI by_))], [.int 1], wd C (yNew Y nv u kd) og)) rfl ?_
    refine am_steps_r ok_M_opens 9 (q' := (47, [some (.ref 19), some (.int kd), some (.int (nI by_))], [.int (((yNew Y nv u kd).1 4) - 1), .int ((yNew Y nv u kd).1 12), .ref 32], wd C (yNew Y nv u kd) og)) rfl ?_
    rw [show ((yNew Y nv u kd).1 12 : Int32) = nI d0 from hd]
    rw [show ((yNew Y nv u kd).1 4 : Int32) = nI (nv + 1) from rfl]
    rw [show ((nI (nv + 1)) - 1 : Int32) = nI nv from pk_sub (a := nv + 1) (b := 1) (by omega)]
    refine am_iast_r ok_M_opens rfl (w := wd C (yNew Y nv u kd) og) (f := (yNew Y nv u kd).2.1 11) rfl rfl (pk_in d0 9 (by omega)) ?_
    rw [nI_clamp (show d0 < 2 ^ 31 by omega)]
    refine am_eq_r (q' := (48, [some (.ref 19), some (.int kd), some (.int (nI by_))], [], wd C ((yNew Y nv u kd).1, wd_u ((yNew Y nv u kd).2.1) 11 (upd ((yNew Y nv u kd).2.1 11) d0 (nI nv)), (yNew Y nv u kd).2.2) og)) rfl ?_
    refine am_steps_r ok_M_opens 5 (q' := (57, [some (.ref 19), some (.int kd), some (.int (nI by_))], [.int (-1), .int ((yNew Y nv u kd).1 12), .ref 33], wd C ((yNew Y nv u kd).1, wd_u ((yNew Y nv u kd).2.1) 11 (upd ((yNew Y nv u kd).2.1 11) d0 (nI nv)), (yNew Y nv u kd).2.2) og)) rfl ?_
    rw [show ((yNew Y nv u kd).1 12 : Int32) = nI d0 from hd]
    refine am_iast_r ok_M_opens rfl (w := wd C ((yNew Y nv u kd).1, wd_u ((yNew Y nv u kd).2.1) 11 (upd ((yNew Y nv u kd).2.1 11) d0 (nI nv)), (yNew Y nv u kd).2.2) og) (f := (yNew Y nv u kd).2.1 12) rfl rfl (pk_in d0 9 (by omega)) ?_
    rw [nI_clamp (show d0 < 2 ^ 31 by omega)]
    refine am_eq_r (q' := (58, [some (.ref 19), some (.int kd), some (.int (nI by_))], [], wd C ((yNew Y nv u kd).1, wd_u (wd_u ((yNew Y nv u kd).2.1) 11 (upd ((yNew Y nv u kd).2.1 11) d0 (nI nv))) 12 (upd ((yNew Y nv u kd).2.1 12) d0 (-1)), (yNew Y nv u kd).2.2) og)) rfl ?_
    refine am_steps_r ok_M_opens 13 (q' := (79, [some (.ref 19), some (.int kd), some (.int (nI by_))], [.int 1], wd C (upd (upd ((yNew Y nv u kd).1) 12 (((yNew Y nv u kd).1 12) + 1)) 6 (((yNew Y nv u kd).1 6) + (nI by_)), wd_u (wd_u ((yNew Y nv u kd).2.1) 11 (upd ((yNew Y nv u kd).2.1 11) d0 (nI nv))) 12 (upd ((yNew Y nv u kd).2.1 12) d0 (-1)), (yNew Y nv u kd).2.2) og)) rfl ?_
    rw [show ((yNew Y nv u kd).1 12 : Int32) = nI d0 from hd]
    rw [show ((nI d0) + 1 : Int32) = nI (d0 + 1) from nI_add d0 1]
    rw [show ((yNew Y nv u kd).1 6 : Int32) = nI k from hI.2.1]
    rw [show ((nI k) + (nI by_) : Int32) = nI (k + by_) from nI_add k by_]
    refine am_zret_r ok_M_opens rfl rfl rfl rfl ?_
    exact ⟨rfl, rfl⟩
set_option maxHeartbeats 1000000 in
set_option maxRecDepth 100000 in
theorem pre_M_step_0 (d : Nat) (C : wd_C) (Y : wd_Y) (og : Nat → Int64) (n : Nat) (b : Nat → Int32) (k nv u : Nat) (V : VT) (no : Int32) (hI : ryI Y n b k nv u V no) (hk : k ≤ n) (hd : Y.1 12 = nI 0) (post : Option Value → am_W → Prop) (hK : am_Rn l D cA ad fm (d + 6) m_M_step (wd C Y og).length post (250, [some (.ref 19), some (.int (b (skW n b k))), none, none, none], [], wd C (upd Y.1 6 (nI (skW n b k)), Y.2) og)) : am_Rn l D cA ad fm (d + 6) m_M_step (wd C Y og).length post (0, [some (.ref 19), none, none, none, none], [], wd C Y og) := by
  have hT := hI.1
  have hn := hT.2.1
  have hnv := hI.2.2.2.2.1.2.1
  have hsk := skW_le n b hk
  refine am_steps_r ok_M_step 4 (q' := (6, [some (.ref 19), none, none, none, none], [.int (Y.1 6), .ref 19, .ref 19], wd C Y og)) rfl ?_
  rw [show (Y.1 6 : Int32) = nI k from hI.2.1]
  refine am_callV_r (As := [.int (nI k)]) (rest := [.ref 19]) ok_M_step rfl rfl ok_M_behindWhite oi_M_behindWhite lk_6_127 (Or.inl ⟨_, _, _, rfl, rfl, rfl⟩) rfl rfl (Nat.le_of_ble_eq_true rfl) (c_M_behindWhite _ C Y og n b hT k (by omega)) ?_
  rintro v_ w_ ⟨rfl, rfl⟩ -
  refine am_eq_r (q' := (9, [some (.ref 19), none, none, none, none], [.int (nI (skW n b k)), .ref 19], wd C Y og)) rfl ?_
  refine am_steps_r ok_M_step 4 (q' := (17, [some (.ref 19), none, none, none, none], [.int (nI (skW n b k)), .ref 19], wd C (upd Y.1 6 (nI (skW n b k)), Y.2) og)) rfl ?_
  refine am_callV_r (As := [.int (nI (skW n b k))]) (rest := []) ok_M_step rfl rfl ok_M_byteAt oi_M_byteAt lk_6_78 (Or.inl ⟨_, _, _, rfl, rfl, rfl⟩) rfl rfl (Nat.le_of_ble_eq_true rfl) (c_M_byteAt _ C (upd Y.1 6 (nI (skW n b k)), Y.2) og n b hT (skW n b k) (by omega)) ?_
  rintro v_ w_ ⟨rfl, rfl⟩ -
  refine am_eq_r (q' := (20, [some (.ref 19), none, none, none, none], [.int (b (skW n b k))], wd C (upd Y.1 6 (nI (skW n b k)), Y.2) og)) rfl ?_
  refine am_steps_r ok_M_step 4 (q' := (bif decide ((Y.1 12) ≤ 0) then 250 else 28, [some (.ref 19), some (.int (b (skW n b k))), none, none, none], [], wd C (upd Y.1 6 (nI (skW n b k)), Y.2) og)) rfl ?_
  rw [show (Y.1 12 : Int32) = nI 0 from hd]
  refine am_br_r (fun h_3 => ?_) (fun h_3 => ?_)
  · skip
    have h_3 : 0 ≤ 0 := (nI_leI (show 0 < 2 ^ 31 by omega) (show 0 < 2 ^ 31 by omega)).mp h_3
    refine am_eq_r (q' := (250, [some (.ref 19), some (.int (b (skW n b k))), none, none, none], [], wd C (upd Y.1 6 (nI (skW n b k)), Y.2) og)) rfl ?_
    exact hK
  · skip
    have h_3 : ¬ 0 ≤ 0 := fun z => h_3 ((nI_leI (show 0 < 2 ^ 31 by omega) (show 0 < 2 ^ 31 by omega)).mpr z)
    exfalso; omega
set_option maxHeartbeats 1000000 in
set_option maxRecDepth 100000 in
theorem pre_M_step_a (d : Nat) (C : wd_C) (Y : wd_Y) (og : Nat → Int64) (n : Nat) (b : Nat → Int32) (k nv u : Nat) (V : VT) (no : Int32) (hI : ryI Y n b k nv u V no) (hk : k ≤ n) (e t : Nat) (hd : Y.1 12 = nI (e + 1)) (he : e < 8) (ht : t < nv) (ho : Y.2.1 11 e = nI t) (hkd : Y.2.1 2 t = 6) (hne : ¬ b (skW n b k) = 93) (post : Option Value → am_W → Prop) (hK : am_Rn l D cA ad fm (d + 6) m_M_step (wd C Y og).length post (250, [some (.ref 19), some (.int (b (skW n b k))), none, none, none], [], wd C (upd Y.1 6 (nI (skW n b k)), Y.2) og)) : am_Rn l D cA ad fm (d + 6) m_M_step (wd C Y og).length post (0, [some (.ref 19), none, none, none, none], [], wd C Y og) := by
  have hT := hI.1
  have hn := hT.2.1
  have hnv := hI.2.2.2.2.1.2.1
  have hsk := skW_le n b hk
  refine am_steps_r ok_M_step 4 (q' := (6, [some (.ref 19), none, none, none, none], [.int (Y.1 6), .ref 19, .ref 19], wd C Y og)) rfl ?_
  rw [show (Y.1 6 : Int32) = nI k from hI.2.1]
  refine am_callV_r (As := [.int (nI k)]) (rest := [.ref 19]) ok_M_step rfl rfl ok_M_behindWhite oi_M_behindWhite lk_6_127 (Or.inl ⟨_, _, _, rfl, rfl, rfl⟩) rfl rfl (Nat.le_of_ble_eq_true rfl) (c_M_behindWhite _ C Y og n b hT k (by omega)) ?_
  rintro v_ w_ ⟨rfl, rfl⟩ -
  refine am_eq_r (q' := (9, [some (.ref 19), none, none, none, none], [.int (nI (skW n b k)), .ref 19], wd C Y og)) rfl ?_
  refine am_steps_r ok_M_step 4 (q' := (17, [some (.ref 19), none, none, none, none], [.int (nI (skW n b k)), .ref 19], wd C (upd Y.1 6 (nI (skW n b k)), Y.2) og)) rfl ?_
  refine am_callV_r (As := [.int (nI (skW n b k))]) (rest := []) ok_M_step rfl rfl ok_M_byteAt oi_M_byteAt lk_6_78 (Or.inl ⟨_, _, _, rfl, rfl, rfl⟩) rfl rfl (Nat.le_of_ble_eq_true rfl) (c_M_byteAt _ C (upd Y.1 6 (nI (skW n b k)), Y.2) og n b hT (skW n b k) (by omega)) ?_
  rintro v_ w_ ⟨rfl, rfl⟩ -
  refine am_eq_r (q' := (20, [some (.ref 19), none, none, none, none], [.int (b (skW n b k))], wd C (upd Y.1 6 (nI (skW n b k)), Y.2) og)) rfl ?_
  refine am_steps_r ok_M_step 4 (q' := (bif decide ((Y.1 12) ≤ 0) then 250 else 28, [some (.ref 19), some (.int (b (skW n b k))), none, none, none], [], wd C (upd Y.1 6 (nI (skW n b k)), Y.2) og)) rfl ?_
  rw [show (Y.1 12 : Int32) = nI (e + 1) from hd]
  refine am_br_r (fun h_3 => ?_) (fun h_3 => ?_)
  · skip
    have h_3 : (e + 1) ≤ 0 := (nI_leI (show (e + 1) < 2 ^ 31 by omega) (show 0 < 2 ^ 31 by omega)).mp h_3
    exfalso; omega
  · skip
    have h_3 : ¬ (e + 1) ≤ 0 := fun z => h_3 ((nI_leI (show (e + 1) < 2 ^ 31 by omega) (show 0 < 2 ^ 31 by omega)).mpr z)
    refine am_steps_r ok_M_step 6 (q' := (38, [some (.ref 19), some (.int (b (skW n b k))), none, none, none], [.int ((Y.1 12) - 1), .ref 32], wd C (upd Y.1 6 (nI (skW n b k)), Y.2) og)) rfl ?_
    rw [show (Y.1 12 : Int32) = nI (e + 1) from hd]
    rw [show ((nI (e + 1)) - 1 : Int32) = nI e from pk_sub (a := e + 1) (b := 1) (by omega)]
    refine am_iald_r ok_M_step rfl (w := wd C (upd Y.1 6 (nI (skW n b k)), Y.2) og) (f := Y.2.1 11) rfl rfl (pk_in e 9 (by omega)) ?_
    rw [nI_clamp (show e < 2 ^ 31 by omega)]
    rw [ho]
    refine am_steps_r ok_M_step 4 (q' := (45, [some (.ref 19), some (.int (b (skW n b k))), some (.int (nI t)), none, none], [.int (nI t), .ref 22], wd C (upd Y.1 6 (nI (skW n b k)), Y.2) og)) rfl ?_
    refine am_iald_r ok_M_step rfl (w := wd C (upd Y.1 6 (nI (skW n b k)), Y.2) og) (f := Y.2.1 2) rfl rfl (pk_in t 300 (by omega)) ?_
    rw [nI_clamp (show t < 2 ^ 31 by omega)]
    rw [hkd]
    refine am_steps_r ok_M_step 5 (q' := (bif decide ((b (skW n b k)) = 93) then 57 else 61, [some (.ref 19), some (.int (b (skW n b k))), some (.int (nI t)), none, none], [], wd C (upd Y.1 6 (nI (skW n b k)), Y.2) og)) rfl ?_
    refine am_br_r (fun h_4 => ?_) (fun h_4 => ?_)
    · skip
      exact absurd h_4 hne
    · skip
      refine am_steps_r ok_M_step 8 (q' := (153, [some (.ref 19), some (.int (b (skW n b k))), some (.int (nI t)), some (.int 0), none], [.int (nI t), .ref 22], wd C (upd Y.1 6 (nI (skW n b k)), Y.2) og)) rfl ?_
      refine am_iald_r ok_M_step rfl (w := wd C (upd Y.1 6 (nI (skW n b k)), Y.2) og) (f := Y.2.1 2) rfl rfl (pk_in t 300 (by omega)) ?_
      rw [nI_clamp (show t < 2 ^ 31 by omega)]
      rw [hkd]
      refine am_steps_r ok_M_step 2 (q' := (250, [some (.ref 19), some (.int (b (skW n b k))), some (.int (nI t)), some (.int 0), none], [], wd C (upd Y.1 6 (nI (skW n b k)), Y.2) og)) rfl ?_
      refine am_drop_r [2, 3] (L' := [some (.ref 19), some (.int (b (skW n b k))), none, none, none]) rfl ?_
      refine am_eq_r (q' := (250, [some (.ref 19), some (.int (b (skW n b k))), none, none, none], [], wd C (upd Y.1 6 (nI (skW n b k)), Y.2) og)) rfl ?_
      exact hK
set_option maxHeartbeats 1000000 in
set_option maxRecDepth 100000 in
theorem pre_M_step_d (d : Nat) (C : wd_C) (Y : wd_Y) (og : Nat → Int64) (n : Nat) (b : Nat → Int32) (k nv u : Nat) (V : VT) (no : Int32) (hI : ryI Y n b k nv u V no) (hk : k ≤ n) (e t : Nat) (hd : Y.1 12 = nI (e + 1)) (he : e < 8) (ht : t < nv) (ho : Y.2.1 11 e = nI t) (hkd : Y.2.1 2 t = 7) (q : Nat) (hq : q < nv) (hk9 : Y.2.1 12 e = nI q) (post : Option Value → am_W → Prop) (hK : am_Rn l D cA ad fm (d + 6) m_M_step (wd C Y og).length post (250, [some (.ref 19), some (.int (b (skW n b k))), none, none, none], [], wd C (upd Y.1 6 (nI (skW n b k)), Y.2) og)) : am_Rn l D cA ad fm (d + 6) m_M_step (wd C Y og).length post (0, [some (.ref 19), none, none, none, none], [], wd C Y og) := by
  have hT := hI.1
  have hn := hT.2.1
  have hnv := hI.2.2.2.2.1.2.1
  have hsk := skW_le n b hk
  refine am_steps_r ok_M_step 4 (q' := (6, [some (.ref 19), none, none, none, none], [.int (Y.1 6), .ref 19, .ref 19], wd C Y og)) rfl ?_
  rw [show (Y.1 6 : Int32) = nI k from hI.2.1]
  refine am_callV_r (As := [.int (nI k)]) (rest := [.ref 19]) ok_M_step rfl rfl ok_M_behindWhite oi_M_behindWhite lk_6_127 (Or.inl ⟨_, _, _, rfl, rfl, rfl⟩) rfl rfl (Nat.le_of_ble_eq_true rfl) (c_M_behindWhite _ C Y og n b hT k (by omega)) ?_
  rintro v_ w_ ⟨rfl, rfl⟩ -
  refine am_eq_r (q' := (9, [some (.ref 19), none, none, none, none], [.int (nI (skW n b k)), .ref 19], wd C Y og)) rfl ?_
  refine am_steps_r ok_M_step 4 (q' := (17, [some (.ref 19), none, none, none, none], [.int (nI (skW n b k)), .ref 19], wd C (upd Y.1 6 (nI (skW n b k)), Y.2) og)) rfl ?_
  refine am_callV_r (As := [.int (nI (skW n b k))]) (rest := []) ok_M_step rfl rfl ok_M_byteAt oi_M_byteAt lk_6_78 (Or.inl ⟨_, _, _, rfl, rfl, rfl⟩) rfl rfl (Nat.le_of_ble_eq_true rfl) (c_M_byteAt _ C (upd Y.1 6 (nI (skW n b k)), Y.2) og n b hT (skW n b k) (by omega)) ?_
  rintro v_ w_ ⟨rfl, rfl⟩ -
  refine am_eq_r (q' := (20, [some (.ref 19), none, none, none, none], [.int (b (skW n b k))], wd C (upd Y.1 6 (nI (skW n b k)), Y.2) og)) rfl ?_
  refine am_steps_r ok_M_step 4 (q' := (bif decide ((Y.1 12) ≤ 0) then 250 else 28, [some (.ref 19), some (.int (b (skW n b k))), none, none, none], [], wd C (upd Y.1 6 (nI (skW n b k)), Y.2) og)) rfl ?_
  rw [show (Y.1 12 : Int32) = nI (e + 1) from hd]
  refine am_br_r (fun h_3 => ?_) (fun h_3 => ?_)
  · skip
    have h_3 : (e + 1) ≤ 0 := (nI_leI (show (e + 1) < 2 ^ 31 by omega) (show 0 < 2 ^ 31 by omega)).mp h_3
    exfalso; omega
  · skip
    have h_3 : ¬ (e + 1) ≤ 0 := fun z => h_3 ((nI_leI (show (e + 1) < 2 ^ 31 by omega) (show 0 < 2 ^ 31 by omega)).mpr z)
    refine am_steps_r ok_M_step 6 (q' := (38, [some (.ref 19), some (.int (b (skW n b k))), none, none, none], [.int ((Y.1 12) - 1), .ref 32], wd C (upd Y.1 6 (nI (skW n b k)), Y.2) og)) rfl ?_
    rw [show (Y.1 12 : Int32) = nI (e + 1) from hd]
    rw [show ((nI (e + 1)) - 1 : Int32) = nI e from pk_sub (a := e + 1) (b := 1) (by omega)]
    refine am_iald_r ok_M_step rfl (w := wd C (upd Y.1 6 (nI (skW n b k)), Y.2) og) (f := Y.2.1 11) rfl rfl (pk_in e 9 (by omega)) ?_
    rw [nI_clamp (show e < 2 ^ 31 by omega)]
    rw [ho]
    refine am_steps_r ok_M_step 4 (q' := (45, [some (.ref 19), some (.int (b (skW n b k))), some (.int (nI t)), none, none], [.int (nI t), .ref 22], wd C (upd Y.1 6 (nI (skW n b k)), Y.2) og)) rfl ?_
    refine am_iald_r ok_M_step rfl (w := wd C (upd Y.1 6 (nI (skW n b k)), Y.2) og) (f := Y.2.1 2) rfl rfl (pk_in t 300 (by omega)) ?_
    rw [nI_clamp (show t < 2 ^ 31 by omega)]
    rw [hkd]
    refine am_steps_r ok_M_step 8 (q' := (75, [some (.ref 19), some (.int (b (skW n b k))), some (.int (nI t)), none, none], [.int ((Y.1 12) - 1), .ref 33], wd C (upd Y.1 6 (nI (skW n b k)), Y.2) og)) rfl ?_
    rw [show (Y.1 12 : Int32) = nI (e + 1) from hd]
    rw [show ((nI (e + 1)) - 1 : Int32) = nI e from pk_sub (a := e + 1) (b := 1) (by omega)]
    refine am_iald_r ok_M_step rfl (w := wd C (upd Y.1 6 (nI (skW n b k)), Y.2) og) (f := Y.2.1 12) rfl rfl (pk_in e 9 (by omega)) ?_
    rw [nI_clamp (show e < 2 ^ 31 by omega)]
    rw [hk9]
    refine am_steps_r ok_M_step 2 (q' := (bif decide ((nI q) = (-1)) then 80 else 105, [some (.ref 19), some (.int (b (skW n b k))), some (.int (nI t)), none, none], [], wd C (upd Y.1 6 (nI (skW n b k)), Y.2) og)) rfl ?_
    refine am_br_r (fun h_4 => ?_) (fun h_4 => ?_)
    · skip
      exact absurd h_4 (nI_nm (show q < 2 ^ 31 by omega))
    · skip
      refine am_steps_r ok_M_step 7 (q' := (153, [some (.ref 19), some (.int (b (skW n b k))), some (.int (nI t)), some (.int 0), none], [.int (nI t), .ref 22], wd C (upd Y.1 6 (nI (skW n b k)), Y.2) og)) rfl ?_
      refine am_iald_r ok_M_step rfl (w := wd C (upd Y.1 6 (nI (skW n b k)), Y.2) og) (f := Y.2.1 2) rfl rfl (pk_in t 300 (by omega)) ?_
      rw [nI_clamp (show t < 2 ^ 31 by omega)]
      rw [hkd]
      refine am_steps_r ok_M_step 8 (q' := (169, [some (.ref 19), some (.int (b (skW n b k))), some (.int (nI t)), some (.int 0), none], [.int ((Y.1 12) - 1), .ref 33], wd C (upd Y.1 6 (nI (skW n b k)), Y.2) og)) rfl ?_
      rw [show (Y.1 12 : Int32) = nI (e + 1) from hd]
      rw [show ((nI (e + 1)) - 1 : Int32) = nI e from pk_sub (a := e + 1) (b := 1) (by omega)]
      refine am_iald_r ok_M_step rfl (w := wd C (upd Y.1 6 (nI (skW n b k)), Y.2) og) (f := Y.2.1 12) rfl rfl (pk_in e 9 (by omega)) ?_
      rw [nI_clamp (show e < 2 ^ 31 by omega)]
      rw [hk9]
      refine am_steps_r ok_M_step 2 (q' := (bif decide ((nI q) = (-1)) then 174 else 250, [some (.ref 19), some (.int (b (skW n b k))), some (.int (nI t)), some (.int 0), none], [], wd C (upd Y.1 6 (nI (skW n b k)), Y.2) og)) rfl ?_
      refine am_br_r (fun h_5 => ?_) (fun h_5 => ?_)
      · skip
        exact absurd h_5 (nI_nm (show q < 2 ^ 31 by omega))
      · skip
        refine am_drop_r [2, 3] (L' := [some (.ref 19), some (.int (b (skW n b k))), none, none, none]) rfl ?_
        refine am_eq_r (q' := (250, [some (.ref 19), some (.int (b (skW n b k))), none, none, none], [], wd C (upd Y.1 6 (nI (skW n b k)), Y.2) og)) rfl ?_
        exact hK
set_option maxHeartbeats 1000000 in
set_option maxRecDepth 100000 in
theorem c_M_step_ca (d : Nat) (C : wd_C) (Y : wd_Y) (og : Nat → Int64) (n : Nat) (b : Nat → Int32) (k nv u : Nat) (V : VT) (no : Int32) (hI : ryI Y n b k nv u V no) (hk : k ≤ n) (e t : Nat) (hd : Y.1 12 = nI (e + 1)) (he : e < 8) (ht : t < nv) (ho : Y.2.1 11 e = nI t) (hkd : Y.2.1 2 t = 6) (hcl : b (skW n b k) = 93) : am_Mt l D cA ad fm (d + 6) m_M_step [.ref 19] (wd C Y og) (fun vr w' => vr = some (.int (nI t)) ∧ w' = wd C (upd (upd Y.1 6 (nI (skW n b k + 1))) 12 (nI e), Y.2) og) := by
  have hT := hI.1
  have hn := hT.2.1
  have hnv := hI.2.2.2.2.1.2.1
  have hsk := skW_le n b hk
  refine am_mt ok_M_step (by simp [am_arg, Value.category, m_M_step, am_ml]) ?_
  refine am_eq_r (q' := (0, [some (.ref 19), none, none, none, none], [], wd C Y og)) rfl ?_
  refine am_steps_r ok_M_step 4 (q' := (6, [some (.ref 19), none, none, none, none], [.int (Y.1 6), .ref 19, .ref 19], wd C Y og)) rfl ?_
  rw [show (Y.1 6 : Int32) = nI k from hI.2.1]
  refine am_callV_r (As := [.int (nI k)]) (rest := [.ref 19]) ok_M_step rfl rfl ok_M_behindWhite oi_M_behindWhite lk_6_127 (Or.inl ⟨_, _, _, rfl, rfl, rfl⟩) rfl rfl (Nat.le_of_ble_eq_true rfl) (c_M_behindWhite _ C Y og n b hT k (by omega)) ?_
  rintro v_ w_ ⟨rfl, rfl⟩ -
  refine am_eq_r (q' := (9, [some (.ref 19), none, none, none, none], [.int (nI (skW n b k)), .ref 19], wd C Y og)) rfl ?_
  refine am_steps_r ok_M_step 4 (q' := (17, [some (.ref 19), none, none, none, none], [.int (nI (skW n b k)), .ref 19], wd C (upd Y.1 6 (nI (skW n b k)), Y.2) og)) rfl ?_
  refine am_callV_r (As := [.int (nI (skW n b k))]) (rest := []) ok_M_step rfl rfl ok_M_byteAt oi_M_byteAt lk_6_78 (Or.inl ⟨_, _, _, rfl, rfl, rfl⟩) rfl rfl (Nat.le_of_ble_eq_true rfl) (c_M_byteAt _ C (upd Y.1 6 (nI (skW n b k)), Y.2) og n b hT (skW n b k) (by omega)) ?_
  rintro v_ w_ ⟨rfl, rfl⟩ -
  refine am_eq_r (q' := (20, [some (.ref 19), none, none, none, none], [.int (b (skW n b k))], wd C (upd Y.1 6 (nI (skW n b k)), Y.2) og)) rfl ?_
  refine am_steps_r ok_M_step 4 (q' := (bif decide ((Y.1 12) ≤ 0) then 250 else 28, [some (.ref 19), some (.int (b (skW n b k))), none, none, none], [], wd C (upd Y.1 6 (nI (skW n b k)), Y.2) og)) rfl ?_
  rw [show (Y.1 12 : Int32) = nI (e + 1) from hd]
  refine am_br_r (fun h_3 => ?_) (fun h_3 => ?_)
  · skip
    have h_3 : (e + 1) ≤ 0 := (nI_leI (show (e + 1) < 2 ^ 31 by omega) (show 0 < 2 ^ 31 by omega)).mp h_3
    exfalso; omega
  · skip
    have h_3 : ¬ (e + 1) ≤ 0 := fun z => h_3 ((nI_leI (show (e + 1) < 2 ^ 31 by omega) (show 0 < 2 ^ 31 by omega)).mpr z)
    refine am_steps_r ok_M_step 6 (q' := (38, [some (.ref 19), some (.int (b (skW n b k))), none, none, none], [.int ((Y.1 12) - 1), .ref 32], wd C (upd Y.1 6 (nI (skW n b k)), Y.2) og)) rfl ?_
    rw [show (Y.1 12 : Int32) = nI (e + 1) from hd]
    rw [show ((nI (e + 1)) - 1 : Int32) = nI e from pk_sub (a := e + 1) (b := 1) (by omega)]
    refine am_iald_r ok_M_step rfl (w := wd C (upd Y.1 6 (nI (skW n b k)), Y.2) og) (f := Y.2.1 11) rfl rfl (pk_in e 9 (by omega)) ?_
    rw [nI_clamp (show e < 2 ^ 31 by omega)]
    rw [ho]
    refine am_steps_r ok_M_step 4 (q' := (45, [some (.ref 19), some (.int (b (skW n b k))), some (.int (nI t)), none, none], [.int (nI t), .ref 22], wd C (upd Y.1 6 (nI (skW n b k)), Y.2) og)) rfl ?_
    refine am_iald_r ok_M_step rfl (w := wd C (upd Y.1 6 (nI (skW n b k)), Y.2) og) (f := Y.2.1 2) rfl rfl (pk_in t 300 (by omega)) ?_
    rw [nI_clamp (show t < 2 ^ 31 by omega)]
    rw [hkd]
    refine am_steps_r ok_M_step 5 (q' := (bif decide ((b (skW n b k)) = 93) then 57 else 61, [some (.ref 19), some (.int (b (skW n b k))), some (.int (nI t)), none, none], [], wd C (upd Y.1 6 (nI (skW n b k)), Y.2) og)) rfl ?_
    refine am_br_r (fun h_4 => ?_) (fun h_4 => ?_)
    · skip
      refine am_steps_r ok_M_step 11 (q' := (121, [some (.ref 19), some (.int (b (skW n b k))), some (.int (nI t)), some (.int 1), none], [.int (nI t), .ref 22, .int (nI (skW n b k)), .ref 19], wd C (upd Y.1 6 (nI (skW n b k)), Y.2) og)) rfl ?_
      refine am_iald_r ok_M_step rfl (w := wd C (upd Y.1 6 (nI (skW n b k)), Y.2) og) (f := Y.2.1 2) rfl rfl (pk_in t 300 (by omega)) ?_
      rw [nI_clamp (show t < 2 ^ 31 by omega)]
      rw [hkd]
      refine am_steps_r ok_M_step 13 (q' := (147, [some (.ref 19), some (.int (b (skW n b k))), some (.int (nI t)), some (.int 1), none], [.int (nI t)], wd C (upd (upd Y.1 6 ((nI (skW n b k)) + 1)) 12 ((Y.1 12) - 1), Y.2) og)) rfl ?_
      rw [show ((nI (skW n b k)) + 1 : Int32) = nI ((skW n b k) + 1) from nI_add (skW n b k) 1]
      rw [show (Y.1 12 : Int32) = nI (e + 1) from hd]
      rw [show ((nI (e + 1)) - 1 : Int32) = nI e from pk_sub (a := e + 1) (b := 1) (by omega)]
      refine am_iret_r ok_M_step rfl rfl rfl ?_
      exact ⟨rfl, rfl⟩
    · skip
      exact absurd (by assumption) h_4
set_option maxHeartbeats 1000000 in
set_option maxRecDepth 100000 in
theorem c_M_step_cd (d : Nat) (C : wd_C) (Y : wd_Y) (og : Nat → Int64) (n : Nat) (b : Nat → Int32) (k nv u : Nat) (V : VT) (no : Int32) (hI : ryI Y n b k nv u V no) (hk : k ≤ n) (e t : Nat) (hd : Y.1 12 = nI (e + 1)) (he : e < 8) (ht : t < nv) (ho : Y.2.1 11 e = nI t) (hkd : Y.2.1 2 t = 7) (hk9 : Y.2.1 12 e = -1) (hcl : b (skW n b k) = 62) (hcl2 : b (skW n b k + 1) = 62) : am_Mt l D cA ad fm (d + 6) m_M_step [.ref 19] (wd C Y og) (fun vr w' => vr = some (.int (nI t)) ∧ w' = wd C (upd (upd Y.1 6 (nI (skW n b k + 2))) 12 (nI e), Y.2) og) := by
  have hT := hI.1
  have hn := hT.2.1
  have hnv := hI.2.2.2.2.1.2.1
  have hsk := skW_le n b hk
  refine am_mt ok_M_step (by simp [am_arg, Value.category, m_M_step, am_ml]) ?_
  refine am_eq_r (q' := (0, [some (.ref 19), none, none, none, none], [], wd C Y og)) rfl ?_
  refine am_steps_r ok_M_step 4 (q' := (6, [some (.ref 19), none, none, none, none], [.int (Y.1 6), .ref 19, .ref 19], wd C Y og)) rfl ?_
  rw [show (Y.1 6 : Int32) = nI k from hI.2.1]
  refine am_callV_r (As := [.int (nI k)]) (rest := [.ref 19]) ok_M_step rfl rfl ok_M_behindWhite oi_M_behindWhite lk_6_127 (Or.inl ⟨_, _, _, rfl, rfl, rfl⟩) rfl rfl (Nat.le_of_ble_eq_true rfl) (c_M_behindWhite _ C Y og n b hT k (by omega)) ?_
  rintro v_ w_ ⟨rfl, rfl⟩ -
  refine am_eq_r (q' := (9, [some (.ref 19), none, none, none, none], [.int (nI (skW n b k)), .ref 19], wd C Y og)) rfl ?_
  refine am_steps_r ok_M_step 4 (q' := (17, [some (.ref 19), none, none, none, none], [.int (nI (skW n b k)), .ref 19], wd C (upd Y.1 6 (nI (skW n b k)), Y.2) og)) rfl ?_
  refine am_callV_r (As := [.int (nI (skW n b k))]) (rest := []) ok_M_step rfl rfl ok_M_byteAt oi_M_byteAt lk_6_78 (Or.inl ⟨_, _, _, rfl, rfl, rfl⟩) rfl rfl (Nat.le_of_ble_eq_true rfl) (c_M_byteAt _ C (upd Y.1 6 (nI (skW n b k)), Y.2) og n b hT (skW n b k) (by omega)) ?_
  rintro v_ w_ ⟨rfl, rfl⟩ -
  refine am_eq_r (q' := (20, [some (.ref 19), none, none, none, none], [.int (b (skW n b k))], wd C (upd Y.1 6 (nI (skW n b k)), Y.2) og)) rfl ?_
  refine am_steps_r ok_M_step 4 (q' := (bif decide ((Y.1 12) ≤ 0) then 250 else 28, [some (.ref 19), some (.int (b (skW n b k))), none, none, none], [], wd C (upd Y.1 6 (nI (skW n b k)), Y.2) og)) rfl ?_
  rw [show (Y.1 12 : Int32) = nI (e + 1) from hd]
  refine am_br_r (fun h_3 => ?_) (fun h_3 => ?_)
  · skip
    have h_3 : (e + 1) ≤ 0 := (nI_leI (show (e + 1) < 2 ^ 31 by omega) (show 0 < 2 ^ 31 by omega)).mp h_3
    exfalso; omega
  · skip
    have h_3 : ¬ (e + 1) ≤ 0 := fun z => h_3 ((nI_leI (show (e + 1) < 2 ^ 31 by omega) (show 0 < 2 ^ 31 by omega)).mpr z)
    refine am_steps_r ok_M_step 6 (q' := (38, [some (.ref 19), some (.int (b (skW n b k))), none, none, none], [.int ((Y.1 12) - 1), .ref 32], wd C (upd Y.1 6 (nI (skW n b k)), Y.2) og)) rfl ?_
    rw [show (Y.1 12 : Int32) = nI (e + 1) from hd]
    rw [show ((nI (e + 1)) - 1 : Int32) = nI e from pk_sub (a := e + 1) (b := 1) (by omega)]
    refine am_iald_r ok_M_step rfl (w := wd C (upd Y.1 6 (nI (skW n b k)), Y.2) og) (f := Y.2.1 11) rfl rfl (pk_in e 9 (by omega)) ?_
    rw [nI_clamp (show e < 2 ^ 31 by omega)]
    rw [ho]
    refine am_steps_r ok_M_step 4 (q' := (45, [some (.ref 19), some (.int (b (skW n b k))), some (.int (nI t)), none, none], [.int (nI t), .ref 22], wd C (upd Y.1 6 (nI (skW n b k)), Y.2) og)) rfl ?_
    refine am_iald_r ok_M_step rfl (w := wd C (upd Y.1 6 (nI (skW n b k)), Y.2) og) (f := Y.2.1 2) rfl rfl (pk_in t 300 (by omega)) ?_
    rw [nI_clamp (show t < 2 ^ 31 by omega)]
    rw [hkd]
    refine am_steps_r ok_M_step 8 (q' := (75, [some (.ref 19), some (.int (b (skW n b k))), some (.int (nI t)), none, none], [.int ((Y.1 12) - 1), .ref 33], wd C (upd Y.1 6 (nI (skW n b k)), Y.2) og)) rfl ?_
    rw [show (Y.1 12 : Int32) = nI (e + 1) from hd]
    rw [show ((nI (e + 1)) - 1 : Int32) = nI e from pk_sub (a := e + 1) (b := 1) (by omega)]
    refine am_iald_r ok_M_step rfl (w := wd C (upd Y.1 6 (nI (skW n b k)), Y.2) og) (f := Y.2.1 12) rfl rfl (pk_in e 9 (by omega)) ?_
    rw [nI_clamp (show e < 2 ^ 31 by omega)]
    rw [hk9]
    refine am_steps_r ok_M_step 5 (q' := (bif decide ((b (skW n b k)) = 62) then 86 else 105, [some (.ref 19), some (.int (b (skW n b k))), some (.int (nI t)), none, none], [], wd C (upd Y.1 6 (nI (skW n b k)), Y.2) og)) rfl ?_
    refine am_br_r (fun h_4 => ?_) (fun h_4 => ?_)
    · skip
      refine am_steps_r ok_M_step 5 (q' := (93, [some (.ref 19), some (.int (b (skW n b k))), some (.int (nI t)), none, none], [.int ((nI (skW n b k)) + 1), .ref 19], wd C (upd Y.1 6 (nI (skW n b k)), Y.2) og)) rfl ?_
      rw [show ((nI (skW n b k)) + 1 : Int32) = nI ((skW n b k) + 1) from nI_add (skW n b k) 1]
      refine am_callV_r (As := [.int (nI ((skW n b k) + 1))]) (rest := []) ok_M_step rfl rfl ok_M_byteAt oi_M_byteAt lk_6_78 (Or.inl ⟨_, _, _, rfl, rfl, rfl⟩) rfl rfl (Nat.le_of_ble_eq_true rfl) (c_M_byteAt _ C (upd Y.1 6 (nI (skW n b k)), Y.2) og n b hT ((skW n b k) + 1) (by omega)) ?_
      rintro v_ w_ ⟨rfl, rfl⟩ -
      refine am_eq_r (q' := (96, [some (.ref 19), some (.int (b (skW n b k))), some (.int (nI t)), none, none], [.int (b ((skW n b k) + 1))], wd C (upd Y.1 6 (nI (skW n b k)), Y.2) og)) rfl ?_
      refine am_steps_r ok_M_step 2 (q' := (bif decide ((b ((skW n b k) + 1)) = 62) then 101 else 105, [some (.ref 19), some (.int (b (skW n b k))), some (.int (nI t)), none, none], [], wd C (upd Y.1 6 (nI (skW n b k)), Y.2) og)) rfl ?_
      refine am_br_r (fun h_6 => ?_) (fun h_6 => ?_)
      · skip
        refine am_steps_r ok_M_step 11 (q' := (121, [some (.ref 19), some (.int (b (skW n b k))), some (.int (nI t)), some (.int 1), none], [.int (nI t), .ref 22, .int (nI (skW n b k)), .ref 19], wd C (upd Y.1 6 (nI (skW n b k)), Y.2) og)) rfl ?_
        refine am_iald_r ok_M_step rfl (w := wd C (upd Y.1 6 (nI (skW n b k)), Y.2) og) (f := Y.2.1 2) rfl rfl (pk_in t 300 (by omega)) ?_
        rw [nI_clamp (show t < 2 ^ 31 by omega)]
        rw [hkd]
        refine am_steps_r ok_M_step 12 (q' := (147, [some (.ref 19), some (.int (b (skW n b k))), some (.int (nI t)), some (.int 1), none], [.int (nI t)], wd C (upd (upd Y.1 6 ((nI (skW n b k)) + 2)) 12 ((Y.1 12) - 1), Y.2) og)) rfl ?_
        rw [show ((nI (skW n b k)) + 2 : Int32) = nI ((skW n b k) + 2) from nI_add (skW n b k) 2]
        rw [show (Y.1 12 : Int32) = nI (e + 1) from hd]
        rw [show ((nI (e + 1)) - 1 : Int32) = nI e from pk_sub (a := e + 1) (b := 1) (by omega)]
        refine am_iret_r ok_M_step rfl rfl rfl ?_
        exact ⟨rfl, rfl⟩
      · skip
        exact absurd (by assumption) h_6
    · skip
      exact absurd (by assumption) h_4
set_option maxHeartbeats 1000000 in
set_option maxRecDepth 100000 in
theorem c_M_step_k1 (d : Nat) (C : wd_C) (Y : wd_Y) (og : Nat → Int64) (n : Nat) (b : Nat → Int32) (k nv u : Nat) (V : VT) (no : Int32) (hI : ryI Y n b k nv u V no) (hk : k ≤ n) (e t : Nat) (hd : Y.1 12 = nI (e + 1)) (he : e < 8) (ht : t < nv) (ho : Y.2.1 11 e = nI t) (hkd : Y.2.1 2 t = 7) (hk9 : Y.2.1 12 e = -1) (hno : ¬ (b (skW n b k) = 62 ∧ b (skW n b k + 1) = 62)) (hend : skW n b k = n) : am_Mt l D cA ad fm (d + 6) m_M_step [.ref 19] (wd C Y og) (fun vr w' => vr = some (.int (-1)) ∧ w' = wd C (upd (upd (upd Y.1 6 (nI (skW n b k))) 7 1) 8 (nI n), wd_u Y.2.1 12 (upd (Y.2.1 12) e (-1)), Y.2.2) og) := by
  have hT := hI.1
  have hn := hT.2.1
  have hnv := hI.2.2.2.2.1.2.1
  have hsk := skW_le n b hk
  refine am_mt ok_M_step (by simp [am_arg, Value.category, m_M_step, am_ml]) ?_
  refine am_eq_r (q' := (0, [some (.ref 19), none, none, none, none], [], wd C Y og)) rfl ?_
  refine am_steps_r ok_M_step 4 (q' := (6, [some (.ref 19), none, none, none, none], [.int (Y.1 6), .ref 19, .ref 19], wd C Y og)) rfl ?_
  rw [show (Y.1 6 : Int32) = nI k from hI.2.1]
  refine am_callV_r (As := [.int (nI k)]) (rest := [.ref 19]) ok_M_step rfl rfl ok_M_behindWhite oi_M_behindWhite lk_6_127 (Or.inl ⟨_, _, _, rfl, rfl, rfl⟩) rfl rfl (Nat.le_of_ble_eq_true rfl) (c_M_behindWhite _ C Y og n b hT k (by omega)) ?_
  rintro v_ w_ ⟨rfl, rfl⟩ -
  refine am_eq_r (q' := (9, [some (.ref 19), none, none, none, none], [.int (nI (skW n b k)), .ref 19], wd C Y og)) rfl ?_
  refine am_steps_r ok_M_step 4 (q' := (17, [some (.ref 19), none, none, none, none], [.int (nI (skW n b k)), .ref 19], wd C (upd Y.1 6 (nI (skW n b k)), Y.2) og)) rfl ?_
  refine am_callV_r (As := [.int (nI (skW n b k))]) (rest := []) ok_M_step rfl rfl ok_M_byteAt oi_M_byteAt lk_6_78 (Or.inl ⟨_, _, _, rfl, rfl, rfl⟩) rfl rfl (Nat.le_of_ble_eq_true rfl) (c_M_byteAt _ C (upd Y.1 6 (nI (skW n b k)), Y.2) og n b hT (skW n b k) (by omega)) ?_
  rintro v_ w_ ⟨rfl, rfl⟩ -
  refine am_eq_r (q' := (20, [some (.ref 19), none, none, none, none], [.int (b (skW n b k))], wd C (upd Y.1 6 (nI (skW n b k)), Y.2) og)) rfl ?_
  refine am_steps_r ok_M_step 4 (q' := (bif decide ((Y.1 12) ≤ 0) then 250 else 28, [some (.ref 19), some (.int (b (skW n b k))), none, none, none], [], wd C (upd Y.1 6 (nI (skW n b k)), Y.2) og)) rfl ?_
  rw [show (Y.1 12 : Int32) = nI (e + 1) from hd]
  refine am_br_r (fun h_3 => ?_) (fun h_3 => ?_)
  · skip
    have h_3 : (e + 1) ≤ 0 := (nI_leI (show (e + 1) < 2 ^ 31 by omega) (show 0 < 2 ^ 31 by omega)).mp h_3
    exfalso; omega
  · skip
    have h_3 : ¬ (e + 1) ≤ 0 := fun z => h_3 ((nI_leI (show (e + 1) < 2 ^ 31 by omega) (show 0 < 2 ^ 31 by omega)).mpr z)
    refine am_steps_r ok_M_step 6 (q' := (38, [some (.ref 19), some (.int (b (skW n b k))), none, none, none], [.int ((Y.1 12) - 1), .ref 32], wd C (upd Y.1 6 (nI (skW n b k)), Y.2) og)) rfl ?_
    rw [show (Y.1 12 : Int32) = nI (e + 1) from hd]
    rw [show ((nI (e + 1)) - 1 : Int32) = nI e from pk_sub (a := e + 1) (b := 1) (by omega)]
    refine am_iald_r ok_M_step rfl (w := wd C (upd Y.1 6 (nI (skW n b k)), Y.2) og) (f := Y.2.1 11) rfl rfl (pk_in e 9 (by omega)) ?_
    rw [nI_clamp (show e < 2 ^ 31 by omega)]
    rw [ho]
    refine am_steps_r ok_M_step 4 (q' := (45, [some (.ref 19), some (.int (b (skW n b k))), some (.int (nI t)), none, none], [.int (nI t), .ref 22], wd C (upd Y.1 6 (nI (skW n b k)), Y.2) og)) rfl ?_
    refine am_iald_r ok_M_step rfl (w := wd C (upd Y.1 6 (nI (skW n b k)), Y.2) og) (f := Y.2.1 2) rfl rfl (pk_in t 300 (by omega)) ?_
    rw [nI_clamp (show t < 2 ^ 31 by omega)]
    rw [hkd]
    refine am_steps_r ok_M_step 8 (q' := (75, [some (.ref 19), some (.int (b (skW n b k))), some (.int (nI t)), none, none], [.int ((Y.1 12) - 1), .ref 33], wd C (upd Y.1 6 (nI (skW n b k)), Y.2) og)) rfl ?_
    rw [show (Y.1 12 : Int32) = nI (e + 1) from hd]
    rw [show ((nI (e + 1)) - 1 : Int32) = nI e from pk_sub (a := e + 1) (b := 1) (by omega)]
    refine am_iald_r ok_M_step rfl (w := wd C (upd Y.1 6 (nI (skW n b k)), Y.2) og) (f := Y.2.1 12) rfl rfl (pk_in e 9 (by omega)) ?_
    rw [nI_clamp (show e < 2 ^ 31 by omega)]
    rw [hk9]
    refine am_steps_r ok_M_step 5 (q' := (bif decide ((b (skW n b k)) = 62) then 86 else 105, [some (.ref 19), some (.int (b (skW n b k))), some (.int (nI t)), none, none], [], wd C (upd Y.1 6 (nI (skW n b k)), Y.2) og)) rfl ?_
    refine am_br_r (fun h_4 => ?_) (fun h_4 => ?_)
    · skip
      refine am_steps_r ok_M_step 5 (q' := (93, [some (.ref 19), some (.int (b (skW n b k))), some (.int (nI t)), none, none], [.int ((nI (skW n b k)) + 1), .ref 19], wd C (upd Y.1 6 (nI (skW n b k)), Y.2) og)) rfl ?_
      rw [show ((nI (skW n b k)) + 1 : Int32) = nI ((skW n b k) + 1) from nI_add (skW n b k) 1]
      refine am_callV_r (As := [.int (nI ((skW n b k) + 1))]) (rest := []) ok_M_step rfl rfl ok_M_byteAt oi_M_byteAt lk_6_78 (Or.inl ⟨_, _, _, rfl, rfl, rfl⟩) rfl rfl (Nat.le_of_ble_eq_true rfl) (c_M_byteAt _ C (upd Y.1 6 (nI (skW n b k)), Y.2) og n b hT ((skW n b k) + 1) (by omega)) ?_
      rintro v_ w_ ⟨rfl, rfl⟩ -
      refine am_eq_r (q' := (96, [some (.ref 19), some (.int (b (skW n b k))), some (.int (nI t)), none, none], [.int (b ((skW n b k) + 1))], wd C (upd Y.1 6 (nI (skW n b k)), Y.2) og)) rfl ?_
      refine am_steps_r ok_M_step 2 (q' := (bif decide ((b ((skW n b k) + 1)) = 62) then 101 else 105, [some (.ref 19), some (.int (b (skW n b k))), some (.int (nI t)), none, none], [], wd C (upd Y.1 6 (nI (skW n b k)), Y.2) og)) rfl ?_
      refine am_br_r (fun h_6 => ?_) (fun h_6 => ?_)
      · skip
        exact absurd ⟨by assumption, by assumption⟩ hno
      · skip
        refine am_steps_r ok_M_step 7 (q' := (153, [some (.ref 19), some (.int (b (skW n b k))), some (.int (nI t)), some (.int 0), none], [.int (nI t), .ref 22], wd C (upd Y.1 6 (nI (skW n b k)), Y.2) og)) rfl ?_
        refine am_iald_r ok_M_step rfl (w := wd C (upd Y.1 6 (nI (skW n b k)), Y.2) og) (f := Y.2.1 2) rfl rfl (pk_in t 300 (by omega)) ?_
        rw [nI_clamp (show t < 2 ^ 31 by omega)]
        rw [hkd]
        refine am_steps_r ok_M_step 8 (q' := (169, [some (.ref 19), some (.int (b (skW n b k))), some (.int (nI t)), some (.int 0), none], [.int ((Y.1 12) - 1), .ref 33], wd C (upd Y.1 6 (nI (skW n b k)), Y.2) og)) rfl ?_
        rw [show (Y.1 12 : Int32) = nI (e + 1) from hd]
        rw [show ((nI (e + 1)) - 1 : Int32) = nI e from pk_sub (a := e + 1) (b := 1) (by omega)]
        refine am_iald_r ok_M_step rfl (w := wd C (upd Y.1 6 (nI (skW n b k)), Y.2) og) (f := Y.2.1 12) rfl rfl (pk_in e 9 (by omega)) ?_
        rw [nI_clamp (show e < 2 ^ 31 by omega)]
        rw [hk9]
        refine am_steps_r ok_M_step 7 (q' := (bif decide ((nI (skW n b k)) < (Y.1 1)) then 197 else 185, [some (.ref 19), some (.int (b (skW n b k))), some (.int (nI t)), some (.int 0), none], [], wd C (upd Y.1 6 (nI (skW n b k)), Y.2) og)) rfl ?_
        rw [show (Y.1 1 : Int32) = nI n from hI.1.1]
        refine am_br_r (fun h_7 => ?_) (fun h_7 => ?_)
        · skip
          have h_7 : (skW n b k) < n := (nI_ltI (show (skW n b k) < 2 ^ 31 by omega) (show n < 2 ^ 31 by omega)).mp h_7
          exfalso; omega
        · skip
          have h_7 : ¬ (skW n b k) < n := fun z => h_7 ((nI_ltI (show (skW n b k) < 2 ^ 31 by omega) (show n < 2 ^ 31 by omega)).mpr z)
          refine am_steps_r ok_M_step 4 (q' := (191, [some (.ref 19), some (.int (b (skW n b k))), some (.int (nI t)), some (.int 0), none], [.int (Y.1 1), .int 1, .ref 19], wd C (upd Y.1 6 (nI (skW n b k)), Y.2) og)) rfl ?_
          rw [show (Y.1 1 : Int32) = nI n from hI.1.1]
          refine am_callV_r (As := [.int 1, .int (nI n)]) (rest := []) ok_M_step rfl rfl ok_M_fails oi_M_fails lk_6_139 (Or.inl ⟨_, _, _, rfl, rfl, rfl⟩) rfl rfl (Nat.le_of_ble_eq_true rfl) (c_M_fails _ C (upd Y.1 6 (nI (skW n b k)), Y.2) og 1 (nI n)) ?_
          rintro v_ w_ ⟨rfl, rfl⟩ -
          refine am_eq_r (q' := (194, [some (.ref 19), some (.int (b (skW n b k))), some (.int (nI t)), some (.int 0), none], [.int 0], wd C (upd (upd (upd Y.1 6 (nI (skW n b k))) 7 1) 8 (nI n), Y.2) og)) rfl ?_
          refine am_steps_r ok_M_step 11 (q' := (247, [some (.ref 19), some (.int (b (skW n b k))), some (.int (nI t)), some (.int 0), some (.int 0)], [.int (-1), .int ((Y.1 12) - 1), .ref 33], wd C (upd (upd (upd Y.1 6 (nI (skW n b k))) 7 1) 8 (nI n), Y.2) og)) rfl ?_
          rw [show (Y.1 12 : Int32) = nI (e + 1) from hd]
          rw [show ((nI (e + 1)) - 1 : Int32) = nI e from pk_sub (a := e + 1) (b := 1) (by omega)]
          refine am_iast_r ok_M_step rfl (w := wd C (upd (upd (upd Y.1 6 (nI (skW n b k))) 7 1) 8 (nI n), Y.2) og) (f := Y.2.1 12) rfl rfl (pk_in e 9 (by omega)) ?_
          rw [nI_clamp (show e < 2 ^ 31 by omega)]
          refine am_eq_r (q' := (248, [some (.ref 19), some (.int (b (skW n b k))), some (.int (nI t)), some (.int 0), some (.int 0)], [], wd C (upd (upd (upd Y.1 6 (nI (skW n b k))) 7 1) 8 (nI n), wd_u Y.2.1 12 (upd (Y.2.1 12) e (-1)), Y.2.2) og)) rfl ?_
          refine am_steps_r ok_M_step 1 (q' := (249, [some (.ref 19), some (.int (b (skW n b k))), some (.int (nI t)), some (.int 0), some (.int 0)], [.int (-1)], wd C (upd (upd (upd Y.1 6 (nI (skW n b k))) 7 1) 8 (nI n), wd_u Y.2.1 12 (upd (Y.2.1 12) e (-1)), Y.2.2) og)) rfl ?_
          refine am_iret_r ok_M_step rfl rfl rfl ?_
          exact ⟨rfl, rfl⟩
    · skip
      refine am_steps_r ok_M_step 7 (q' := (153, [some (.ref 19), some (.int (b (skW n b k))), some (.int (nI t)), some (.int 0), none], [.int (nI t), .ref 22], wd C (upd Y.1 6 (nI (skW n b k)), Y.2) og)) rfl ?_
      refine am_iald_r ok_M_step rfl (w := wd C (upd Y.1 6 (nI (skW n b k)), Y.2) og) (f := Y.2.1 2) rfl rfl (pk_in t 300 (by omega)) ?_
      rw [nI_clamp (show t < 2 ^ 31 by omega)]
      rw [hkd]
      refine am_steps_r ok_M_step 8 (q' := (169, [some (.ref 19), some (.int (b (skW n b k))), some (.int (nI t)), some (.int 0), none], [.int ((Y.1 12) - 1), .ref 33], wd C (upd Y.1 6 (nI (skW n b k)), Y.2) og)) rfl ?_
      rw [show (Y.1 12 : Int32) = nI (e + 1) from hd]
      rw [show ((nI (e + 1)) - 1 : Int32) = nI e from pk_sub (a := e + 1) (b := 1) (by omega)]
      refine am_iald_r ok_M_step rfl (w := wd C (upd Y.1 6 (nI (skW n b k)), Y.2) og) (f := Y.2.1 12) rfl rfl (pk_in e 9 (by omega)) ?_
      rw [nI_clamp (show e < 2 ^ 31 by omega)]
      rw [hk9]
      refine am_steps_r ok_M_step 7 (q' := (bif decide ((nI (skW n b k)) < (Y.1 1)) then 197 else 185, [some (.ref 19), some (.int (b (skW n b k))), some (.int (nI t)), some (.int 0), none], [], wd C (upd Y.1 6 (nI (skW n b k)), Y.2) og)) rfl ?_
      rw [show (Y.1 1 : Int32) = nI n from hI.1.1]
      refine am_br_r (fun h_9 => ?_) (fun h_9 => ?_)
      · skip
        have h_9 : (skW n b k) < n := (nI_ltI (show (skW n b k) < 2 ^ 31 by omega) (show n < 2 ^ 31 by omega)).mp h_9
        exfalso; omega
      · skip
        have h_9 : ¬ (skW n b k) < n := fun z => h_9 ((nI_ltI (show (skW n b k) < 2 ^ 31 by omega) (show n < 2 ^ 31 by omega)).mpr z)
        refine am_steps_r ok_M_step 4 (q' := (191, [some (.ref 19), some (.int (b (skW n b k))), some (.int (nI t)), some (.int 0), none], [.int (Y.1 1), .int 1, .ref 19], wd C (upd Y.1 6 (nI (skW n b k)), Y.2) og)) rfl ?_
        rw [show (Y.1 1 : Int32) = nI n from hI.1.1]
        refine am_callV_r (As := [.int 1, .int (nI n)]) (rest := []) ok_M_step rfl rfl ok_M_fails oi_M_fails lk_6_139 (Or.inl ⟨_, _, _, rfl, rfl, rfl⟩) rfl rfl (Nat.le_of_ble_eq_true rfl) (c_M_fails _ C (upd Y.1 6 (nI (skW n b k)), Y.2) og 1 (nI n)) ?_
        rintro v_ w_ ⟨rfl, rfl⟩ -
        refine am_eq_r (q' := (194, [some (.ref 19), some (.int (b (skW n b k))), some (.int (nI t)), some (.int 0), none], [.int 0], wd C (upd (upd (upd Y.1 6 (nI (skW n b k))) 7 1) 8 (nI n), Y.2) og)) rfl ?_
        refine am_steps_r ok_M_step 11 (q' := (247, [some (.ref 19), some (.int (b (skW n b k))), some (.int (nI t)), some (.int 0), some (.int 0)], [.int (-1), .int ((Y.1 12) - 1), .ref 33], wd C (upd (upd (upd Y.1 6 (nI (skW n b k))) 7 1) 8 (nI n), Y.2) og)) rfl ?_
        rw [show (Y.1 12 : Int32) = nI (e + 1) from hd]
        rw [show ((nI (e + 1)) - 1 : Int32) = nI e from pk_sub (a := e + 1) (b := 1) (by omega)]
        refine am_iast_r ok_M_step rfl (w := wd C (upd (upd (upd Y.1 6 (nI (skW n b k))) 7 1) 8 (nI n), Y.2) og) (f := Y.2.1 12) rfl rfl (pk_in e 9 (by omega)) ?_
        rw [nI_clamp (show e < 2 ^ 31 by omega)]
        refine am_eq_r (q' := (248, [some (.ref 19), some (.int (b (skW n b k))), some (.int (nI t)), some (.int 0), some (.int 0)], [], wd C (upd (upd (upd Y.1 6 (nI (skW n b k))) 7 1) 8 (nI n), wd_u Y.2.1 12 (upd (Y.2.1 12) e (-1)), Y.2.2) og)) rfl ?_
        refine am_steps_r ok_M_step 1 (q' := (249, [some (.ref 19), some (.int (b (skW n b k))), some (.int (nI t)), some (.int 0), some (.int 0)], [.int (-1)], wd C (upd (upd (upd Y.1 6 (nI (skW n b k))) 7 1) 8 (nI n), wd_u Y.2.1 12 (upd (Y.2.1 12) e (-1)), Y.2.2) og)) rfl ?_
        refine am_iret_r ok_M_step rfl rfl rfl ?_
        exact ⟨rfl, rfl⟩
set_option maxHeartbeats 1000000 in
set_option maxRecDepth 100000 in
theorem c_M_step_k7 (d : Nat) (C : wd_C) (Y : wd_Y) (og : Nat → Int64) (n : Nat) (b : Nat → Int32) (k nv u : Nat) (V : VT) (no : Int32) (hI : ryI Y n b k nv u V no) (hk : k ≤ n) (e t : Nat) (hd : Y.1 12 = nI (e + 1)) (he : e < 8) (ht : t < nv) (ho : Y.2.1 11 e = nI t) (hkd : Y.2.1 2 t = 7) (hk9 : Y.2.1 12 e = -1) (hno : ¬ (b (skW n b k) = 62 ∧ b (skW n b k + 1) = 62)) (hlt : skW n b k < n) (h47 : ¬ b (skW n b k) = 47) : am_Mt l D cA ad fm (d + 6) m_M_step [.ref 19] (wd C Y og) (fun vr w' => vr = some (.int (-1)) ∧ w' = wd C (upd (upd (upd Y.1 6 (nI (skW n b k))) 7 7) 8 (nI (skW n b k)), wd_u Y.2.1 12 (upd (Y.2.1 12) e (-1)), Y.2.2) og) := by
  have hT := hI.1
  have hn := hT.2.1
  have hnv := hI.2.2.2.2.1.2.1
  have hsk := skW_le n b hk
  refine am_mt ok_M_step (by simp [am_arg, Value.category, m_M_step, am_ml]) ?_
  refine am_eq_r (q' := (0, [some (.ref 19), none, none, none, none], [], wd C Y og)) rfl ?_
  refine am_steps_r ok_M_step 4 (q' := (6, [some (.ref 19), none, none, none, none], [.int (Y.1 6), .ref 19, .ref 19], wd C Y og)) rfl ?_
  rw [show (Y.1 6 : Int32) = nI k from hI.2.1]
  refine am_callV_r (As := [.int (nI k)]) (rest := [.ref 19]) ok_M_step rfl rfl ok_M_behindWhite oi_M_behindWhite lk_6_127 (Or.inl ⟨_, _, _, rfl, rfl, rfl⟩) rfl rfl (Nat.le_of_ble_eq_true rfl) (c_M_behindWhite _ C Y og n b hT k (by omega)) ?_
  rintro v_ w_ ⟨rfl, rfl⟩ -
  refine am_eq_r (q' := (9, [some (.ref 19), none, none, none, none], [.int (nI (skW n b k)), .ref 19], wd C Y og)) rfl ?_
  refine am_steps_r ok_M_step 4 (q' := (17, [some (.ref 19), none, none, none, none], [.int (nI (skW n b k)), .ref 19], wd C (upd Y.1 6 (nI (skW n b k)), Y.2) og)) rfl ?_
  refine am_callV_r (As := [.int (nI (skW n b k))]) (rest := []) ok_M_step rfl rfl ok_M_byteAt oi_M_byteAt lk_6_78 (Or.inl ⟨_, _, _, rfl, rfl, rfl⟩) rfl rfl (Nat.le_of_ble_eq_true rfl) (c_M_byteAt _ C (upd Y.1 6 (nI (skW n b k)), Y.2) og n b hT (skW n b k) (by omega)) ?_
  rintro v_ w_ ⟨rfl, rfl⟩ -
  refine am_eq_r (q' := (20, [some (.ref 19), none, none, none, none], [.int (b (skW n b k))], wd C (upd Y.1 6 (nI (skW n b k)), Y.2) og)) rfl ?_
  refine am_steps_r ok_M_step 4 (q' := (bif decide ((Y.1 12) ≤ 0) then 250 else 28, [some (.ref 19), some (.int (b (skW n b k))), none, none, none], [], wd C (upd Y.1 6 (nI (skW n b k)), Y.2) og)) rfl ?_
  rw [show (Y.1 12 : Int32) = nI (e + 1) from hd]
  refine am_br_r (fun h_3 => ?_) (fun h_3 => ?_)
  · skip
    have h_3 : (e + 1) ≤ 0 := (nI_leI (show (e + 1) < 2 ^ 31 by omega) (show 0 < 2 ^ 31 by omega)).mp h_3
    exfalso; omega
  · skip
    have h_3 : ¬ (e + 1) ≤ 0 := fun z => h_3 ((nI_leI (show (e + 1) < 2 ^ 31 by omega) (show 0 < 2 ^ 31 by omega)).mpr z)
    refine am_steps_r ok_M_step 6 (q' := (38, [some (.ref 19), some (.int (b (skW n b k))), none, none, none], [.int ((Y.1 12) - 1), .ref 32], wd C (upd Y.1 6 (nI (skW n b k)), Y.2) og)) rfl ?_
    rw [show (Y.1 12 : Int32) = nI (e + 1) from hd]
    rw [show ((nI (e + 1)) - 1 : Int32) = nI e from pk_sub (a := e + 1) (b := 1) (by omega)]
    refine am_iald_r ok_M_step rfl (w := wd C (upd Y.1 6 (nI (skW n b k)), Y.2) og) (f := Y.2.1 11) rfl rfl (pk_in e 9 (by omega)) ?_
    rw [nI_clamp (show e < 2 ^ 31 by omega)]
    rw [ho]
    refine am_steps_r ok_M_step 4 (q' := (45, [some (.ref 19), some (.int (b (skW n b k))), some (.int (nI t)), none, none], [.int (nI t), .ref 22], wd C (upd Y.1 6 (nI (skW n b k)), Y.2) og)) rfl ?_
    refine am_iald_r ok_M_step rfl (w := wd C (upd Y.1 6 (nI (skW n b k)), Y.2) og) (f := Y.2.1 2) rfl rfl (pk_in t 300 (by omega)) ?_
    rw [nI_clamp (show t < 2 ^ 31 by omega)]
    rw [hkd]
    refine am_steps_r ok_M_step 8 (q' := (75, [some (.ref 19), some (.int (b (skW n b k))), some (.int (nI t)), none, none], [.int ((Y.1 12) - 1), .ref 33], wd C (upd Y.1 6 (nI (skW n b k)), Y.2) og)) rfl ?_
    rw [show (Y.1 12 : Int32) = nI (e + 1) from hd]
    rw [show ((nI (e + 1)) - 1 : Int32) = nI e from pk_sub (a := e + 1) (b := 1) (by omega)]
    refine am_iald_r ok_M_step rfl (w := wd C (upd Y.1 6 (nI (skW n b k)), Y.2) og) (f := Y.2.1 12) rfl rfl (pk_in e 9 (by omega)) ?_
    rw [nI_clamp (show e < 2 ^ 31 by omega)]
    rw [hk9]
    refine am_steps_r ok_M_step 5 (q' := (bif decide ((b (skW n b k)) = 62) then 86 else 105, [some (.ref 19), some (.int (b (skW n b k))), some (.int (nI t)), none, none], [], wd C (upd Y.1 6 (nI (skW n b k)), Y.2) og)) rfl ?_
    refine am_br_r (fun h_4 => ?_) (fun h_4 => ?_)
    · skip
      refine am_steps_r ok_M_step 5 (q' := (93, [some (.ref 19), some (.int (b (skW n b k))), some (.int (nI t)), none, none], [.int ((nI (skW n b k)) + 1), .ref 19], wd C (upd Y.1 6 (nI (skW n b k)), Y.2) og)) rfl ?_
      rw [show ((nI (skW n b k)) + 1 : Int32) = nI ((skW n b k) + 1) from nI_add (skW n b k) 1]
      refine am_callV_r (As := [.int (nI ((skW n b k) + 1))]) (rest := []) ok_M_step rfl rfl ok_M_byteAt oi_M_byteAt lk_6_78 (Or.inl ⟨_, _, _, rfl, rfl, rfl⟩) rfl rfl (Nat.le_of_ble_eq_true rfl) (c_M_byteAt _ C (upd Y.1 6 (nI (skW n b k)), Y.2) og n b hT ((skW n b k) + 1) (by omega)) ?_
      rintro v_ w_ ⟨rfl, rfl⟩ -
      refine am_eq_r (q' := (96, [some (.ref 19), some (.int (b (skW n b k))), some (.int (nI t)), none, none], [.int (b ((skW n b k) + 1))], wd C (upd Y.1 6 (nI (skW n b k)), Y.2) og)) rfl ?_
      refine am_steps_r ok_M_step 2 (q' := (bif decide ((b ((skW n b k) + 1)) = 62) then 101 else 105, [some (.ref 19), some (.int (b (skW n b k))), some (.int (nI t)), none, none], [], wd C (upd Y.1 6 (nI (skW n b k)), Y.2) og)) rfl ?_
      refine am_br_r (fun h_6 => ?_) (fun h_6 => ?_)
      · skip
        exact absurd ⟨by assumption, by assumption⟩ hno
      · skip
        refine am_steps_r ok_M_step 7 (q' := (153, [some (.ref 19), some (.int (b (skW n b k))), some (.int (nI t)), some (.int 0), none], [.int (nI t), .ref 22], wd C (upd Y.1 6 (nI (skW n b k)), Y.2) og)) rfl ?_
        refine am_iald_r ok_M_step rfl (w := wd C (upd Y.1 6 (nI (skW n b k)), Y.2) og) (f := Y.2.1 2) rfl rfl (pk_in t 300 (by omega)) ?_
        rw [nI_clamp (show t < 2 ^ 31 by omega)]
        rw [hkd]
        refine am_steps_r ok_M_step 8 (q' := (169, [some (.ref 19), some (.int (b (skW n b k))), some (.int (nI t)), some (.int 0), none], [.int ((Y.1 12) - 1), .ref 33], wd C (upd Y.1 6 (nI (skW n b k)), Y.2) og)) rfl ?_
        rw [show (Y.1 12 : Int32) = nI (e + 1) from hd]
        rw [show ((nI (e + 1)) - 1 : Int32) = nI e from pk_sub (a := e + 1) (b := 1) (by omega)]
        refine am_iald_r ok_M_step rfl (w := wd C (upd Y.1 6 (nI (skW n b k)), Y.2) og) (f := Y.2.1 12) rfl rfl (pk_in e 9 (by omega)) ?_
        rw [nI_clamp (show e < 2 ^ 31 by omega)]
        rw [hk9]
        refine am_steps_r ok_M_step 7 (q' := (bif decide ((nI (skW n b k)) < (Y.1 1)) then 197 else 185, [some (.ref 19), some (.int (b (skW n b k))), some (.int (nI t)), some (.int 0), none], [], wd C (upd Y.1 6 (nI (skW n b k)), Y.2) og)) rfl ?_
        rw [show (Y.1 1 : Int32) = nI n from hI.1.1]
        refine am_br_r (fun h_7 => ?_) (fun h_7 => ?_)
        · skip
          have h_7 : (skW n b k) < n := (nI_ltI (show (skW n b k) < 2 ^ 31 by omega) (show n < 2 ^ 31 by omega)).mp h_7
          refine am_steps_r ok_M_step 3 (q' := (bif decide ((b (skW n b k)) = 47) then 203 else 210, [some (.ref 19), some (.int (b (skW n b k))), some (.int (nI t)), some (.int 0), none], [], wd C (upd Y.1 6 (nI (skW n b k)), Y.2) og)) rfl ?_
          refine am_br_r (fun h_8 => ?_) (fun h_8 => ?_)
          · skip
            exact absurd ((show (b (skW n b k)) = 62 by assumption).symm.trans (show (b (skW n b k)) = 47 by assumption)) (by decide)
          · skip
            refine am_steps_r ok_M_step 4 (q' := (217, [some (.ref 19), some (.int (b (skW n b k))), some (.int (nI t)), some (.int 0), none], [.int (nI (skW n b k)), .int 7, .ref 19], wd C (upd Y.1 6 (nI (skW n b k)), Y.2) og)) rfl ?_
            refine am_callV_r (As := [.int 7, .int (nI (skW n b k))]) (rest := []) ok_M_step rfl rfl ok_M_fails oi_M_fails lk_6_139 (Or.inl ⟨_, _, _, rfl, rfl, rfl⟩) rfl rfl (Nat.le_of_ble_eq_true rfl) (c_M_fails _ C (upd Y.1 6 (nI (skW n b k)), Y.2) og 7 (nI (skW n b k))) ?_
            rintro v_ w_ ⟨rfl, rfl⟩ -
            refine am_eq_r (q' := (220, [some (.ref 19), some (.int (b (skW n b k))), some (.int (nI t)), some (.int 0), none], [.int 0], wd C (upd (upd (upd Y.1 6 (nI (skW n b k))) 7 7) 8 (nI (skW n b k)), Y.2) og)) rfl ?_
            refine am_steps_r ok_M_step 10 (q' := (247, [some (.ref 19), some (.int (b (skW n b k))), some (.int (nI t)), some (.int 0), some (.int 0)], [.int (-1), .int ((Y.1 12) - 1), .ref 33], wd C (upd (upd (upd Y.1 6 (nI (skW n b k))) 7 7) 8 (nI (skW n b k)), Y.2) og)) rfl ?_
            rw [show (Y.1 12 : Int32) = nI (e + 1) from hd]
            rw [show ((nI (e + 1)) - 1 : Int32) = nI e from pk_sub (a := e + 1) (b := 1) (by omega)]
            refine am_iast_r ok_M_step rfl (w := wd C (upd (upd (upd Y.1 6 (nI (skW n b k))) 7 7) 8 (nI (skW n b k)), Y.2) og) (f := Y.2.1 12) rfl rfl (pk_in e 9 (by omega)) ?_
            rw [nI_clamp (show e < 2 ^ 31 by omega)]
            refine am_eq_r (q' := (248, [some (.ref 19), some (.int (b (skW n b k))), some (.int (nI t)), some (.int 0), some (.int 0)], [], wd C (upd (upd (upd Y.1 6 (nI (skW n b k))) 7 7) 8 (nI (skW n b k)), wd_u Y.2.1 12 (upd (Y.2.1 12) e (-1)), Y.2.2) og)) rfl ?_
            refine am_steps_r ok_M_step 1 (q' := (249, [some (.ref 19), some (.int (b (skW n b k))), some (.int (nI t)), some (.int 0), some (.int 0)], [.int (-1)], wd C (upd (upd (upd Y.1 6 (nI (skW n b k))) 7 7) 8 (nI (skW n b k)), wd_u Y.2.1 12 (upd (Y.2.1 12) e (-1)), Y.2.2) og)) rfl ?_
            refine am_iret_r ok_M_step rfl rfl rfl ?_
            exact ⟨rfl, rfl⟩
        · skip
          have h_7 : ¬ (skW n b k) < n := fun z => h_7 ((nI_ltI (show (skW n b k) < 2 ^ 31 by omega) (show n < 2 ^ 31 by omega)).mpr z)
          exfalso; omega
    · skip
      refine am_steps_r ok_M_step 7 (q' := (153, [some (.ref 19), some (.int (b (skW n b k))), some (.int (nI t)), some (.int 0), none], [.int (nI t), .ref 22], wd C (upd Y.1 6 (nI (skW n b k)), Y.2) og)) rfl ?_
      refine am_iald_r ok_M_step rfl (w := wd C (upd Y.1 6 (nI (skW n b k)), Y.2) og) (f := Y.2.1 2) rfl rfl (pk_in t 300 (by omega)) ?_
      rw [nI_clamp (show t < 2 ^ 31 by omega)]
      rw [hkd]
      refine am_steps_r ok_M_step 8 (q' := (169, [some (.ref 19), some (.int (b (skW n b k))), some (.int (nI t)), some (.int 0), none], [.int ((Y.1 12) - 1), .ref 33], wd C (upd Y.1 6 (nI (skW n b k)), Y.2) og)) rfl ?_
      rw [show (Y.1 12 : Int32) = nI (e + 1) from hd]
      rw [show ((nI (e + 1)) - 1 : Int32) = nI e from pk_sub (a := e + 1) (b := 1) (by omega)]
      refine am_iald_r ok_M_step rfl (w := wd C (upd Y.1 6 (nI (skW n b k)), Y.2) og) (f := Y.2.1 12) rfl rfl (pk_in e 9 (by omega)) ?_
      rw [nI_clamp (show e < 2 ^ 31 by omega)]
      rw [hk9]
      refine am_steps_r ok_M_step 7 (q' := (bif decide ((nI (skW n b k)) < (Y.1 1)) then 197 else 185, [some (.ref 19), some (.int (b (skW n b k))), some (.int (nI t)), some (.int 0), none], [], wd C (upd Y.1 6 (nI (skW n b k)), Y.2) og)) rfl ?_
      rw [show (Y.1 1 : Int32) = nI n from hI.1.1]
      refine am_br_r (fun h_10 => ?_) (fun h_10 => ?_)
      · skip
        have h_10 : (skW n b k) < n := (nI_ltI (show (skW n b k) < 2 ^ 31 by omega) (show n < 2 ^ 31 by omega)).mp h_10
        refine am_steps_r ok_M_step 3 (q' := (bif decide ((b (skW n b k)) = 47) then 203 else 210, [some (.ref 19), some (.int (b (skW n b k))), some (.int (nI t)), some (.int 0), none], [], wd C (upd Y.1 6 (nI (skW n b k)), Y.2) og)) rfl ?_
        refine am_br_r (fun h_11 => ?_) (fun h_11 => ?_)
        · skip
          exact absurd h_11 h47
        · skip
          refine am_steps_r ok_M_step 4 (q' := (217, [some (.ref 19), some (.int (b (skW n b k))), some (.int (nI t)), some (.int 0), none], [.int (nI (skW n b k)), .int 7, .ref 19], wd C (upd Y.1 6 (nI (skW n b k)), Y.2) og)) rfl ?_
          refine am_callV_r (As := [.int 7, .int (nI (skW n b k))]) (rest := []) ok_M_step rfl rfl ok_M_fails oi_M_fails lk_6_139 (Or.inl ⟨_, _, _, rfl, rfl, rfl⟩) rfl rfl (Nat.le_of_ble_eq_true rfl) (c_M_fails _ C (upd Y.1 6 (nI (skW n b k)), Y.2) og 7 (nI (skW n b k))) ?_
          rintro v_ w_ ⟨rfl, rfl⟩ -
          refine am_eq_r (q' := (220, [some (.ref 19), some (.int (b (skW n b k))), some (.int (nI t)), some (.int 0), none], [.int 0], wd C (upd (upd (upd Y.1 6 (nI (skW n b k))) 7 7) 8 (nI (skW n b k)), Y.2) og)) rfl ?_
          refine am_steps_r ok_M_step 10 (q' := (247, [some (.ref 19), some (.int (b (skW n b k))), some (.int (nI t)), some (.int 0), some (.int 0)], [.int (-1), .int ((Y.1 12) - 1), .ref 33], wd C (upd (upd (upd Y.1 6 (nI (skW n b k))) 7 7) 8 (nI (skW n b k)), Y.2) og)) rfl ?_
          rw [show (Y.1 12 : Int32) = nI (e + 1) from hd]
          rw [show ((nI (e + 1)) - 1 : Int32) = nI e from pk_sub (a := e + 1) (b := 1) (by omega)]
          refine am_iast_r ok_M_step rfl (w := wd C (upd (upd (upd Y.1 6 (nI (skW n b k))) 7 7) 8 (nI (skW n b k)), Y.2) og) (f := Y.2.1 12) rfl rfl (pk_in e 9 (by omega)) ?_
          rw [nI_clamp (show e < 2 ^ 31 by omega)]
          refine am_eq_r (q' := (248, [some (.ref 19), some (.int (b (skW n b k))), some (.int (nI t)), some (.int 0), some (.int 0)], [], wd C (upd (upd (upd Y.1 6 (nI (skW n b k))) 7 7) 8 (nI (skW n b k)), wd_u Y.2.1 12 (upd (Y.2.1 12) e (-1)), Y.2.2) og)) rfl ?_
          refine am_steps_r ok_M_step 1 (q' := (249, [some (.ref 19), some (.int (b (skW n b k))), some (.int (nI t)), some (.int 0), some (.int 0)], [.int (-1)], wd C (upd (upd (upd Y.1 6 (nI (skW n b k))) 7 7) 8 (nI (skW n b k)), wd_u Y.2.1 12 (upd (Y.2.1 12) e (-1)), Y.2.2) og)) rfl ?_
          refine am_iret_r ok_M_step rfl rfl rfl ?_
          exact ⟨rfl, rfl⟩
      · skip
        have h_10 : ¬ (skW n b k) < n := fun z => h_10 ((nI_ltI (show (skW n b k) < 2 ^ 31 by omega) (show n < 2 ^ 31 by omega)).mpr z)
        exfalso; omega
set_option maxHeartbeats 1000000 in
set_option maxRecDepth 100000 in
theorem c_M_step_k6 (d : Nat) (C : wd_C) (Y : wd_Y) (og : Nat → Int64) (n : Nat) (b : Nat → Int32) (k nv u : Nat) (V : VT) (no : Int32) (hI : ryI Y n b k nv u V no) (hk : k ≤ n) (e t : Nat) (hd : Y.1 12 = nI (e + 1)) (he : e < 8) (ht : t < nv) (ho : Y.2.1 11 e = nI t) (hkd : Y.2.1 2 t = 7) (hk9 : Y.2.1 12 e = -1) (hno : ¬ (b (skW n b k) = 62 ∧ b (skW n b k + 1) = 62)) (hlt : skW n b k < n) (h47 : b (skW n b k) = 47) (h3 : nv = 300) : am_Mt l D cA ad fm (d + 6) m_M_step [.ref 19] (wd C Y og) (fun vr w' => vr = some (.int (-1)) ∧ w' = wd C (upd (upd (upd Y.1 6 (nI (skW n b k))) 7 6) 8 (nI (skW n b k)), wd_u Y.2.1 12 (upd (Y.2.1 12) e (-1)), Y.2.2) og) := by
  have hT := hI.1
  have hn := hT.2.1
  have hnv := hI.2.2.2.2.1.2.1
  have hsk := skW_le n b hk
  refine am_mt ok_M_step (by simp [am_arg, Value.category, m_M_step, am_ml]) ?_
  refine am_eq_r (q' := (0, [some (.ref 19), none, none, none, none], [], wd C Y og)) rfl ?_
  refine am_steps_r ok_M_step 4 (q' := (6, [some (.ref 19), none, none, none, none], [.int (Y.1 6), .ref 19, .ref 19], wd C Y og)) rfl ?_
  rw [show (Y.1 6 : Int32) = nI k from hI.2.1]
  refine am_callV_r (As := [.int (nI k)]) (rest := [.ref 19]) ok_M_step rfl rfl ok_M_behindWhite oi_M_behindWhite lk_6_127 (Or.inl ⟨_, _, _, rfl, rfl, rfl⟩) rfl rfl (Nat.le_of_ble_eq_true rfl) (c_M_behindWhite _ C Y og n b hT k (by omega)) ?_
  rintro v_ w_ ⟨rfl, rfl⟩ -
  refine am_eq_r (q' := (9, [some (.ref 19), none, none, none, none], [.int (nI (skW n b k)), .ref 19], wd C Y og)) rfl ?_
  refine am_steps_r ok_M_step 4 (q' := (17, [some (.ref 19), none, none, none, none], [.int (nI (skW n b k)), .ref 19], wd C (upd Y.1 6 (nI (skW n b k)), Y.2) og)) rfl ?_
  refine am_callV_r (As := [.int (nI (skW n b k))]) (rest := []) ok_M_step rfl rfl ok_M_byteAt oi_M_byteAt lk_6_78 (Or.inl ⟨_, _, _, rfl, rfl, rfl⟩) rfl rfl (Nat.le_of_ble_eq_true rfl) (c_M_byteAt _ C (upd Y.1 6 (nI (skW n b k)), Y.2) og n b hT (skW n b k) (by omega)) ?_
  rintro v_ w_ ⟨rfl, rfl⟩ -
  refine am_eq_r (q' := (20, [some (.ref 19), none, none, none, none], [.int (b (skW n b k))], wd C (upd Y.1 6 (nI (skW n b k)), Y.2) og)) rfl ?_
  refine am_steps_r ok_M_step 4 (q' := (bif decide ((Y.1 12) ≤ 0) then 250 else 28, [some (.ref 19), some (.int (b (skW n b k))), none, none, none], [], wd C (upd Y.1 6 (nI (skW n b k)), Y.2) og)) rfl ?_
  rw [show (Y.1 12 : Int32) = nI (e + 1) from hd]
  refine am_br_r (fun h_3 => ?_) (fun h_3 => ?_)
  · skip
    have h_3 : (e + 1) ≤ 0 := (nI_leI (show (e + 1) < 2 ^ 31 by omega) (show 0 < 2 ^ 31 by omega)).mp h_3
    exfalso; omega
  · skip
    have h_3 : ¬ (e + 1) ≤ 0 := fun z => h_3 ((nI_leI (show (e + 1) < 2 ^ 31 by omega) (show 0 < 2 ^ 31 by omega)).mpr z)
    refine am_steps_r ok_M_step 6 (q' := (38, [some (.ref 19), some (.int (b (skW n b k))), none, none, none], [.int ((Y.1 12) - 1), .ref 32], wd C (upd Y.1 6 (nI (skW n b k)), Y.2) og)) rfl ?_
    rw [show (Y.1 12 : Int32) = nI (e + 1) from hd]
    rw [show ((nI (e + 1)) - 1 : Int32) = nI e from pk_sub (a := e + 1) (b := 1) (by omega)]
    refine am_iald_r ok_M_step rfl (w := wd C (upd Y.1 6 (nI (skW n b k)), Y.2) og) (f := Y.2.1 11) rfl rfl (pk_in e 9 (by omega)) ?_
    rw [nI_clamp (show e < 2 ^ 31 by omega)]
    rw [ho]
    refine am_steps_r ok_M_step 4 (q' := (45, [some (.ref 19), some (.int (b (skW n b k))), some (.int (nI t)), none, none], [.int (nI t), .ref 22], wd C (upd Y.1 6 (nI (skW n b k)), Y.2) og)) rfl ?_
    refine am_iald_r ok_M_step rfl (w := wd C (upd Y.1 6 (nI (skW n b k)), Y.2) og) (f := Y.2.1 2) rfl rfl (pk_in t 300 (by omega)) ?_
    rw [nI_clamp (show t < 2 ^ 31 by omega)]
    rw [hkd]
    refine am_steps_r ok_M_step 8 (q' := (75, [some (.ref 19), some (.int (b (skW n b k))), some (.int (nI t)), none, none], [.int ((Y.1 12) - 1), .ref 33], wd C (upd Y.1 6 (nI (skW n b k)), Y.2) og)) rfl ?_
    rw [show (Y.1 12 : Int32) = nI (e + 1) from hd]
    rw [show ((nI (e + 1)) - 1 : Int32) = nI e from pk_sub (a := e + 1) (b := 1) (by omega)]
    refine am_iald_r ok_M_step rfl (w := wd C (upd Y.1 6 (nI (skW n b k)), Y.2) og) (f := Y.2.1 12) rfl rfl (pk_in e 9 (by omega)) ?_
    rw [nI_clamp (show e < 2 ^ 31 by omega)]
    rw [hk9]
    refine am_steps_r ok_M_step 5 (q' := (bif decide ((b (skW n b k)) = 62) then 86 else 105, [some (.ref 19), some (.int (b (skW n b k))), some (.int (nI t)), none, none], [], wd C (upd Y.1 6 (nI (skW n b k)), Y.2) og)) rfl ?_
    refine am_br_r (fun h_4 => ?_) (fun h_4 => ?_)
    · skip
      refine am_steps_r ok_M_step 5 (q' := (93, [some (.ref 19), some (.int (b (skW n b k))), some (.int (nI t)), none, none], [.int ((nI (skW n b k)) + 1), .ref 19], wd C (upd Y.1 6 (nI (skW n b k)), Y.2) og)) rfl ?_
      rw [show ((nI (skW n b k)) + 1 : Int32) = nI ((skW n b k) + 1) from nI_add (skW n b k) 1]
      refine am_callV_r (As := [.int (nI ((skW n b k) + 1))]) (rest := []) ok_M_step rfl rfl ok_M_byteAt oi_M_byteAt lk_6_78 (Or.inl ⟨_, _, _, rfl, rfl, rfl⟩) rfl rfl (Nat.le_of_ble_eq_true rfl) (c_M_byteAt _ C (upd Y.1 6 (nI (skW n b k)), Y.2) og n b hT ((skW n b k) + 1) (by omega)) ?_
      rintro v_ w_ ⟨rfl, rfl⟩ -
      refine am_eq_r (q' := (96, [some (.ref 19), some (.int (b (skW n b k))), some (.int (nI t)), none, none], [.int (b ((skW n b k) + 1))], wd C (upd Y.1 6 (nI (skW n b k)), Y.2) og)) rfl ?_
      refine am_steps_r ok_M_step 2 (q' := (bif decide ((b ((skW n b k) + 1)) = 62) then 101 else 105, [some (.ref 19), some (.int (b (skW n b k))), some (.int (nI t)), none, none], [], wd C (upd Y.1 6 (nI (skW n b k)), Y.2) og)) rfl ?_
      refine am_br_r (fun h_6 => ?_) (fun h_6 => ?_)
      · skip
        exact absurd ⟨by assumption, by assumption⟩ hno
      · skip
        refine am_steps_r ok_M_step 7 (q' := (153, [some (.ref 19), some (.int (b (skW n b k))), some (.int (nI t)), some (.int 0), none], [.int (nI t), .ref 22], wd C (upd Y.1 6 (nI (skW n b k)), Y.2) og)) rfl ?_
        refine am_iald_r ok_M_step rfl (w := wd C (upd Y.1 6 (nI (skW n b k)), Y.2) og) (f := Y.2.1 2) rfl rfl (pk_in t 300 (by omega)) ?_
        rw [nI_clamp (show t < 2 ^ 31 by omega)]
        rw [hkd]
        refine am_steps_r ok_M_step 8 (q' := (169, [some (.ref 19), some (.int (b (skW n b k))), some (.int (nI t)), some (.int 0), none], [.int ((Y.1 12) - 1), .ref 33], wd C (upd Y.1 6 (nI (skW n b k)), Y.2) og)) rfl ?_
        rw [show (Y.1 12 : Int32) = nI (e + 1) from hd]
        rw [show ((nI (e + 1)) - 1 : Int32) = nI e from pk_sub (a := e + 1) (b := 1) (by omega)]
        refine am_iald_r ok_M_step rfl (w := wd C (upd Y.1 6 (nI (skW n b k)), Y.2) og) (f := Y.2.1 12) rfl rfl (pk_in e 9 (by omega)) ?_
        rw [nI_clamp (show e < 2 ^ 31 by omega)]
        rw [hk9]
        refine am_steps_r ok_M_step 7 (q' := (bif decide ((nI (skW n b k)) < (Y.1 1)) then 197 else 185, [some (.ref 19), some (.int (b (skW n b k))), some (.int (nI t)), some (.int 0), none], [], wd C (upd Y.1 6 (nI (skW n b k)), Y.2) og)) rfl ?_
        rw [show (Y.1 1 : Int32) = nI n from hI.1.1]
        refine am_br_r (fun h_7 => ?_) (fun h_7 => ?_)
        · skip
          have h_7 : (skW n b k) < n := (nI_ltI (show (skW n b k) < 2 ^ 31 by omega) (show n < 2 ^ 31 by omega)).mp h_7
          refine am_steps_r ok_M_step 3 (q' := (bif decide ((b (skW n b k)) = 47) then 203 else 210, [some (.ref 19), some (.int (b (skW n b k))), some (.int (nI t)), some (.int 0), none], [], wd C (upd Y.1 6 (nI (skW n b k)), Y.2) og)) rfl ?_
          refine am_br_r (fun h_8 => ?_) (fun h_8 => ?_)
          · skip
            exact absurd ((show (b (skW n b k)) = 62 by assumption).symm.trans (show (b (skW n b k)) = 47 by assumption)) (by decide)
          · skip
            exact absurd h47 h_8
        · skip
          have h_7 : ¬ (skW n b k) < n := fun z => h_7 ((nI_ltI (show (skW n b k) < 2 ^ 31 by omega) (show n < 2 ^ 31 by omega)).mpr z)
          exfalso; omega
    · skip
      refine am_steps_r ok_M_step 7 (q' := (153, [some (.ref 19), some (.int (b (skW n b k))), some (.int (nI t)), some (.int 0), none], [.int (nI t), .ref 22], wd C (upd Y.1 6 (nI (skW n b k)), Y.2) og)) rfl ?_
      refine am_iald_r ok_M_step rfl (w := wd C (upd Y.1 6 (nI (skW n b k)), Y.2) og) (f := Y.2.1 2) rfl rfl (pk_in t 300 (by omega)) ?_
      rw [nI_clamp (show t < 2 ^ 31 by omega)]
      rw [hkd]
      refine am_steps_r ok_M_step 8 (q' := (169, [some (.ref 19), some (.int (b (skW n b k))), some (.int (nI t)), some (.int 0), none], [.int ((Y.1 12) - 1), .ref 33], wd C (upd Y.1 6 (nI (skW n b k)), Y.2) og)) rfl ?_
      rw [show (Y.1 12 : Int32) = nI (e + 1) from hd]
      rw [show ((nI (e + 1)) - 1 : Int32) = nI e from pk_sub (a := e + 1) (b := 1) (by omega)]
      refine am_iald_r ok_M_step rfl (w := wd C (upd Y.1 6 (nI (skW n b k)), Y.2) og) (f := Y.2.1 12) rfl rfl (pk_in e 9 (by omega)) ?_
      rw [nI_clamp (show e < 2 ^ 31 by omega)]
      rw [hk9]
      refine am_steps_r ok_M_step 7 (q' := (bif decide ((nI (skW n b k)) < (Y.1 1)) then 197 else 185, [some (.ref 19), some (.int (b (skW n b k))), some (.int (nI t)), some (.int 0), none], [], wd C (upd Y.1 6 (nI (skW n b k)), Y.2) og)) rfl ?_
      rw [show (Y.1 1 : Int32) = nI n from hI.1.1]
      refine am_br_r (fun h_9 => ?_) (fun h_9 => ?_)
      · skip
        have h_9 : (skW n b k) < n := (nI_ltI (show (skW n b k) < 2 ^ 31 by omega) (show n < 2 ^ 31 by omega)).mp h_9
        refine am_steps_r ok_M_step 3 (q' := (bif decide ((b (skW n b k)) = 47) then 203 else 210, [some (.ref 19), some (.int (b (skW n b k))), some (.int (nI t)), some (.int 0), none], [], wd C (upd Y.1 6 (nI (skW n b k)), Y.2) og)) rfl ?_
        refine am_br_r (fun h_10 => ?_) (fun h_10 => ?_)
        · skip
          refine am_steps_r ok_M_step 1 (q' := (204, [some (.ref 19), some (.int (b (skW n b k))), some (.int (nI t)), some (.int 0), none], [.ref 19], wd C (upd Y.1 6 (nI (skW n b k)), Y.2) og)) rfl ?_
          refine am_callV_r (As := []) (rest := []) ok_M_step rfl rfl ok_M_readName oi_M_readName lk_6_211 (Or.inl ⟨_, _, _, rfl, rfl, rfl⟩) rfl rfl (Nat.le_of_ble_eq_true rfl) (c_M_readName_full _ C (upd Y.1 6 (nI (skW n b k)), Y.2) og n b hT nv u V hI.2.2.2.2 h3 (skW n b k) rfl) ?_
          rintro v_ w_ ⟨rfl, rfl⟩ -
          refine am_eq_r (q' := (207, [some (.ref 19), some (.int (b (skW n b k))), some (.int (nI t)), some (.int 0), none], [.int 0], wd C (upd (upd (upd Y.1 6 (nI (skW n b k))) 7 6) 8 (nI (skW n b k)), Y.2) og)) rfl ?_
          refine am_steps_r ok_M_step 11 (q' := (247, [some (.ref 19), some (.int (b (skW n b k))), some (.int (nI t)), some (.int 0), some (.int 0)], [.int (-1), .int ((Y.1 12) - 1), .ref 33], wd C (upd (upd (upd Y.1 6 (nI (skW n b k))) 7 6) 8 (nI (skW n b k)), Y.2) og)) rfl ?_
          rw [show (Y.1 12 : Int32) = nI (e + 1) from hd]
          rw [show ((nI (e + 1)) - 1 : Int32) = nI e from pk_sub (a := e + 1) (b := 1) (by omega)]
          refine am_iast_r ok_M_step rfl (w := wd C (upd (upd (upd Y.1 6 (nI (skW n b k))) 7 6) 8 (nI (skW n b k)), Y.2) og) (f := Y.2.1 12) rfl rfl (pk_in e 9 (by omega)) ?_
          rw [nI_clamp (show e < 2 ^ 31 by omega)]
          refine am_eq_r (q' := (248, [some (.ref 19), some (.int (b (skW n b k))), some (.int (nI t)), some (.int 0), some (.int 0)], [], wd C (upd (upd (upd Y.1 6 (nI (skW n b k))) 7 6) 8 (nI (skW n b k)), wd_u Y.2.1 12 (upd (Y.2.1 12) e (-1)), Y.2.2) og)) rfl ?_
          refine am_steps_r ok_M_step 1 (q' := (249, [some (.ref 19), some (.int (b (skW n b k))), some (.int (nI t)), some (.int 0), some (.int 0)], [.int (-1)], wd C (upd (upd (upd Y.1 6 (nI (skW n b k))) 7 6) 8 (nI (skW n b k)), wd_u Y.2.1 12 (upd (Y.2.1 12) e (-1)), Y.2.2) og)) rfl ?_
          refine am_iret_r ok_M_step rfl rfl rfl ?_
          exact ⟨rfl, rfl⟩
        · skip
          exact absurd h47 h_10
      · skip
        have h_9 : ¬ (skW n b k) < n := fun z => h_9 ((nI_ltI (show (skW n b k) < 2 ^ 31 by omega) (show n < 2 ^ 31 by omega)).mpr z)
        exfalso; omega
set_option maxHeartbeats 1000000 in
set_option maxRecDepth 100000 in
theorem c_M_step_kn (d : Nat) (C : wd_C) (Y : wd_Y) (og : Nat → Int64) (n : Nat) (b : Nat → Int32) (k nv u : Nat) (V : VT) (no : Int32) (hI : ryI Y n b k nv u V no) (hk : k ≤ n) (e t : Nat) (hd : Y.1 12 = nI (e + 1)) (he : e < 8) (ht : t < nv) (ho : Y.2.1 11 e = nI t) (hkd : Y.2.1 2 t = 7) (hk9 : Y.2.1 12 e = -1) (hno : ¬ (b (skW n b k) = 62 ∧ b (skW n b k + 1) = 62)) (hok : vok nv V) (huk : u ≤ k) (hlt : skW n b k < n) (h47 : b (skW n b k) = 47) (h3 : nv < 300) : am_Mt l D cA ad fm (d + 6) m_M_step [.ref 19] (wd C Y og) (fun vr w' => vr = some (.int (-1)) ∧ ∃ Y1 : wd_Y, (∃ c p, lfR n b (skW n b k) = .inl (c, p) ∧ w' = wd C (Y1.1, wd_u Y1.2.1 12 (upd (Y1.2.1 12) e (-1)), Y1.2.2) og ∧ Y1.1 7 = c ∧ Y1.1 8 = nI p ∧ Y1.1 9 = Y.1 9 ∧ fY Y Y1 nv ∧ ∃ nv9 V9, nv ≤ nv9 ∧ vsY Y1 nv9 u V9 ∧ vbe nv V V9) ∨ (∃ kd nu acc k1 bit, lfR n b (skW n b k) = .inr (kd, nu, acc, k1, bit) ∧ w' = wd C (Y1.1, wd_u Y1.2.1 12 (upd (Y1.2.1 12) e (nI nv)), Y1.2.2) og ∧ Y1.1 6 = nI k1 ∧ Y1.1 7 = Y.1 7 ∧ Y1.1 9 = Y.1 9 ||| bit ∧ fY Y Y1 nv ∧ lY Y Y1 ∧ vsY Y1 (nv + 1) (u + acc.length) (vtLeaf V nv kd nu acc))) := by
  have hT := hI.1
  have hn := hT.2.1
  have hnv := hI.2.2.2.2.1.2.1
  have hsk := skW_le n b hk
  have elf : lfR n b (skW n b k) = nmL (skW n b k) (nmR b (wEnd n b (skW n b k + 1)) 2000 (skW n b k + 1) []) := by rw [lfR, if_pos h47]
  refine am_mt ok_M_step (by simp [am_arg, Value.category, m_M_step, am_ml]) ?_
  refine am_eq_r (q' := (0, [some (.ref 19), none, none, none, none], [], wd C Y og)) rfl ?_
  refine am_steps_r ok_M_step 4 (q' := (6, [some (.ref 19), none, none, none, none], [.int (Y.1 6), .ref 19, .ref 19], wd C Y og)) rfl ?_
  rw [show (Y.1 6 : Int32) = nI k from hI.2.1]
  refine am_callV_r (As := [.int (nI k)]) (rest := [.ref 19]) ok_M_step rfl rfl ok_M_behindWhite oi_M_behindWhite lk_6_127 (Or.inl ⟨_, _, _, rfl, rfl, rfl⟩) rfl rfl (Nat.le_of_ble_eq_true rfl) (c_M_behindWhite _ C Y og n b hT k (by omega)) ?_
  rintro v_ w_ ⟨rfl, rfl⟩ -
  refine am_eq_r (q' := (9, [some (.ref 19), none, none, none, none], [.int (nI (skW n b k)), .ref 19], wd C Y og)) rfl ?_
  refine am_steps_r ok_M_step 4 (q' := (17, [some (.ref 19), none, none, none, none], [.int (nI (skW n b k)), .ref 19], wd C (upd Y.1 6 (nI (skW n b k)), Y.2) og)) rfl ?_
  refine am_callV_r (As := [.int (nI (skW n b k))]) (rest := []) ok_M_step rfl rfl ok_M_byteAt oi_M_byteAt lk_6_78 (Or.inl ⟨_, _, _, rfl, rfl, rfl⟩) rfl rfl (Nat.le_of_ble_eq_true rfl) (c_M_byteAt _ C (upd Y.1 6 (nI (skW n b k)), Y.2) og n b hT (skW n b k) (by omega)) ?_
  rintro v_ w_ ⟨rfl, rfl⟩ -
  refine am_eq_r (q' := (20, [some (.ref 19), none, none, none, none], [.int (b (skW n b k))], wd C (upd Y.1 6 (nI (skW n b k)), Y.2) og)) rfl ?_
  refine am_steps_r ok_M_step 4 (q' := (bif decide ((Y.1 12) ≤ 0) then 250 else 28, [some (.ref 19), some (.int (b (skW n b k))), none, none, none], [], wd C (upd Y.1 6 (nI (skW n b k)), Y.2) og)) rfl ?_
  rw [show (Y.1 12 : Int32) = nI (e + 1) from hd]
  refine am_br_r (fun h_3 => ?_) (fun h_3 => ?_)
  · skip
    have h_3 : (e + 1) ≤ 0 := (nI_leI (show (e + 1) < 2 ^ 31 by omega) (show 0 < 2 ^ 31 by omega)).mp h_3
    exfalso; omega
  · skip
    have h_3 : ¬ (e + 1) ≤ 0 := fun z => h_3 ((nI_leI (show (e + 1) < 2 ^ 31 by omega) (show 0 < 2 ^ 31 by omega)).mpr z)
    refine am_steps_r ok_M_step 6 (q' := (38, [some (.ref 19), some (.int (b (skW n b k))), none, none, none], [.int ((Y.1 12) - 1), .ref 32], wd C (upd Y.1 6 (nI (skW n b k)), Y.2) og)) rfl ?_
    rw [show (Y.1 12 : Int32) = nI (e + 1) from hd]
    rw [show ((nI (e + 1)) - 1 : Int32) = nI e from pk_sub (a := e + 1) (b := 1) (by omega)]
    refine am_iald_r ok_M_step rfl (w := wd C (upd Y.1 6 (nI (skW n b k)), Y.2) og) (f := Y.2.1 11) rfl rfl (pk_in e 9 (by omega)) ?_
    rw [nI_clamp (show e < 2 ^ 31 by omega)]
    rw [ho]
    refine am_steps_r ok_M_step 4 (q' := (45, [some (.ref 19), some (.int (b (skW n b k))), some (.int (nI t)), none, none], [.int (nI t), .ref 22], wd C (upd Y.1 6 (nI (skW n b k)), Y.2) og)) rfl ?_
    refine am_iald_r ok_M_step rfl (w := wd C (upd Y.1 6 (nI (skW n b k)), Y.2) og) (f := Y.2.1 2) rfl rfl (pk_in t 300 (by omega)) ?_
    rw [nI_clamp (show t < 2 ^ 31 by omega)]
    rw [hkd]
    refine am_steps_r ok_M_step 8 (q' := (75, [some (.ref 19), some (.int (b (skW n b k))), some (.int (nI t)), none, none], [.int ((Y.1 12) - 1), .ref 33], wd C (upd Y.1 6 (nI (skW n b k)), Y.2) og)) rfl ?_
    rw [show (Y.1 12 : Int32) = nI (e + 1) from hd]
    rw [show ((nI (e + 1)) - 1 : Int32) = nI e from pk_sub (a := e + 1) (b := 1) (by omega)]
    refine am_iald_r ok_M_step rfl (w := wd C (upd Y.1 6 (nI (skW n b k)), Y.2) og) (f := Y.2.1 12) rfl rfl (pk_in e 9 (by omega)) ?_
    rw [nI_clamp (show e < 2 ^ 31 by omega)]
    rw [hk9]
    refine am_steps_r ok_M_step 5 (q' := (bif decide ((b (skW n b k)) = 62) then 86 else 105, [some (.ref 19), some (.int (b (skW n b k))), some (.int (nI t)), none, none], [], wd C (upd Y.1 6 (nI (skW n b k)), Y.2) og)) rfl ?_
    refine am_br_r (fun h_4 => ?_) (fun h_4 => ?_)
    · skip
      refine am_steps_r ok_M_step 5 (q' := (93, [some (.ref 19), some (.int (b (skW n b k))), some (.int (nI t)), none, none], [.int ((nI (skW n b k)) + 1), .ref 19], wd C (upd Y.1 6 (nI (skW n b k)), Y.2) og)) rfl ?_
      rw [show ((nI (skW n b k)) + 1 : Int32) = nI ((skW n b k) + 1) from nI_add (skW n b k) 1]
      refine am_callV_r (As := [.int (nI ((skW n b k) + 1))]) (rest := []) ok_M_step rfl rfl ok_M_byteAt oi_M_byteAt lk_6_78 (Or.inl ⟨_, _, _, rfl, rfl, rfl⟩) rfl rfl (Nat.le_of_ble_eq_true rfl) (c_M_byteAt _ C (upd Y.1 6 (nI (skW n b k)), Y.2) og n b hT ((skW n b k) + 1) (by omega)) ?_
      rintro v_ w_ ⟨rfl, rfl⟩ -
      refine am_eq_r (q' := (96, [some (.ref 19), some (.int (b (skW n b k))), some (.int (nI t)), none, none], [.int (b ((skW n b k) + 1))], wd C (upd Y.1 6 (nI (skW n b k)), Y.2) og)) rfl ?_
      refine am_steps_r ok_M_step 2 (q' := (bif decide ((b ((skW n b k) + 1)) = 62) then 101 else 105, [some (.ref 19), some (.int (b (skW n b k))), some (.int (nI t)), none, none], [], wd C (upd Y.1 6 (nI (skW n b k)), Y.2) og)) rfl ?_
      refine am_br_r (fun h_6 => ?_) (fun h_6 => ?_)
      · skip
        exact absurd ⟨by assumption, by assumption⟩ hno
      · skip
        refine am_steps_r ok_M_step 7 (q' := (153, [some (.ref 19), some (.int (b (skW n b k))), some (.int (nI t)), some (.int 0), none], [.int (nI t), .ref 22], wd C (upd Y.1 6 (nI (skW n b k)), Y.2) og)) rfl ?_
        refine am_iald_r ok_M_step rfl (w := wd C (upd Y.1 6 (nI (skW n b k)), Y.2) og) (f := Y.2.1 2) rfl rfl (pk_in t 300 (by omega)) ?_
        rw [nI_clamp (show t < 2 ^ 31 by omega)]
        rw [hkd]
        refine am_steps_r ok_M_step 8 (q' := (169, [some (.ref 19), some (.int (b (skW n b k))), some (.int (nI t)), some (.int 0), none], [.int ((Y.1 12) - 1), .ref 33], wd C (upd Y.1 6 (nI (skW n b k)), Y.2) og)) rfl ?_
        rw [show (Y.1 12 : Int32) = nI (e + 1) from hd]
        rw [show ((nI (e + 1)) - 1 : Int32) = nI e from pk_sub (a := e + 1) (b := 1) (by omega)]
        refine am_iald_r ok_M_step rfl (w := wd C (upd Y.1 6 (nI (skW n b k)), Y.2) og) (f := Y.2.1 12) rfl rfl (pk_in e 9 (by omega)) ?_
        rw [nI_clamp (show e < 2 ^ 31 by omega)]
        rw [hk9]
        refine am_steps_r ok_M_step 7 (q' := (bif decide ((nI (skW n b k)) < (Y.1 1)) then 197 else 185, [some (.ref 19), some (.int (b (skW n b k))), some (.int (nI t)), some (.int 0), none], [], wd C (upd Y.1 6 (nI (skW n b k)), Y.2) og)) rfl ?_
        rw [show (Y.1 1 : Int32) = nI n from hI.1.1]
        refine am_br_r (fun h_7 => ?_) (fun h_7 => ?_)
        · skip
          have h_7 : (skW n b k) < n := (nI_ltI (show (skW n b k) < 2 ^ 31 by omega) (show n < 2 ^ 31 by omega)).mp h_7
          refine am_steps_r ok_M_step 3 (q' := (bif decide ((b (skW n b k)) = 47) then 203 else 210, [some (.ref 19), some (.int (b (skW n b k))), some (.int (nI t)), some (.int 0), none], [], wd C (upd Y.1 6 (nI (skW n b k)), Y.2) og)) rfl ?_
          refine am_br_r (fun h_8 => ?_) (fun h_8 => ?_)
          · skip
            exact absurd ((show (b (skW n b k)) = 62 by assumption).symm.trans (show (b (skW n b k)) = 47 by assumption)) (by decide)
          · skip
            exact absurd h47 h_8
        · skip
          have h_7 : ¬ (skW n b k) < n := fun z => h_7 ((nI_ltI (show (skW n b k) < 2 ^ 31 by omega) (show n < 2 ^ 31 by omega)).mpr z)
          exfalso; omega
    · skip
      refine am_steps_r ok_M_step 7 (q' := (153, [some (.ref 19), some (.int (b (skW n b k))), some (.int (nI t)), some (.int 0), none], [.int (nI t), .ref 22], wd C (upd Y.1 6 (nI (skW n b k)), Y.2) og)) rfl ?_
      refine am_iald_r ok_M_step rfl (w := wd C (upd Y.1 6 (nI (skW n b k)), Y.2) og) (f := Y.2.1 2) rfl rfl (pk_in t 300 (by omega)) ?_
      rw [nI_clamp (show t < 2 ^ 31 by omega)]
      rw [hkd]
      refine am_steps_r ok_M_step 8 (q' := (169, [some (.ref 19), some (.int (b (skW n b k))), some (.int (nI t)), some (.int 0), none], [.int ((Y.1 12) - 1), .ref 33], wd C (upd Y.1 6 (nI (skW n b k)), Y.2) og)) rfl ?_
      rw [show (Y.1 12 : Int32) = nI (e + 1) from hd]
      rw [show ((nI (e + 1)) - 1 : Int32) = nI e from pk_sub (a := e + 1) (b := 1) (by omega)]
      refine am_iald_r ok_M_step rfl (w := wd C (upd Y.1 6 (nI (skW n b k)), Y.2) og) (f := Y.2.1 12) rfl rfl (pk_in e 9 (by omega)) ?_
      rw [nI_clamp (show e < 2 ^ 31 by omega)]
      rw [hk9]
      refine am_steps_r ok_M_step 7 (q' := (bif decide ((nI (skW n b k)) < (Y.1 1)) then 197 else 185, [some (.ref 19), some (.int (b (skW n b k))), some (.int (nI t)), some (.int 0), none], [], wd C (upd Y.1 6 (nI (skW n b k)), Y.2) og)) rfl ?_
      rw [show (Y.1 1 : Int32) = nI n from hI.1.1]
      refine am_br_r (fun h_9 => ?_) (fun h_9 => ?_)
      · skip
        have h_9 : (skW n b k) < n := (nI_ltI (show (skW n b k) < 2 ^ 31 by omega) (show n < 2 ^ 31 by omega)).mp h_9
        refine am_steps_r ok_M_step 3 (q' := (bif decide ((b (skW n b k)) = 47) then 203 else 210, [some (.ref 19), some (.int (b (skW n b k))), some (.int (nI t)), some (.int 0), none], [], wd C (upd Y.1 6 (nI (skW n b k)), Y.2) og)) rfl ?_
        refine am_br_r (fun h_10 => ?_) (fun h_10 => ?_)
        · skip
          refine am_steps_r ok_M_step 1 (q' := (204, [some (.ref 19), some (.int (b (skW n b k))), some (.int (nI t)), some (.int 0), none], [.ref 19], wd C (upd Y.1 6 (nI (skW n b k)), Y.2) og)) rfl ?_
          refine am_callV_r (As := []) (rest := []) ok_M_step rfl rfl ok_M_readName oi_M_readName lk_6_211 (Or.inl ⟨_, _, _, rfl, rfl, rfl⟩) rfl rfl (Nat.le_of_ble_eq_true rfl) (c_M_readName _ C (upd Y.1 6 (nI (skW n b k)), Y.2) og n b hT nv u V hI.2.2.2.2 hok h3 (skW n b k) rfl hlt (by omega)) ?_
          rintro v_ w_ hLq -
          rw [← elf] at hLq
          rcases hlr : lfR n b (skW n b k) with ⟨c, p⟩ | ⟨kd, nu, acc, k1, bit⟩
          · rw [hlr] at hLq
            obtain ⟨rfl, Y1, rfl, f7, f8, f9, ff, fl, nv9, V9, g1, g2, g3⟩ := hLq
            refine am_eq_r (q' := (207, [some (.ref 19), some (.int (b (skW n b k))), some (.int (nI t)), some (.int 0), none], [.int 0], wd C Y1 og)) rfl ?_
            refine am_steps_r ok_M_step 11 (q' := (247, [some (.ref 19), some (.int (b (skW n b k))), some (.int (nI t)), some (.int 0), some (.int 0)], [.int (-1), .int ((Y1.1 12) - 1), .ref 33], wd C Y1 og)) rfl ?_
            rw [show (Y1.1 12 : Int32) = nI (e + 1) from (fl.1.trans hd)]
            rw [show ((nI (e + 1)) - 1 : Int32) = nI e from pk_sub (a := e + 1) (b := 1) (by omega)]
            refine am_iast_r ok_M_step rfl (w := wd C Y1 og) (f := Y1.2.1 12) rfl rfl (pk_in e 9 (by omega)) ?_
            rw [nI_clamp (show e < 2 ^ 31 by omega)]
            refine am_eq_r (q' := (248, [some (.ref 19), some (.int (b (skW n b k))), some (.int (nI t)), some (.int 0), some (.int 0)], [], wd C (Y1.1, wd_u Y1.2.1 12 (upd (Y1.2.1 12) e (-1)), Y1.2.2) og)) rfl ?_
            refine am_steps_r ok_M_step 1 (q' := (249, [some (.ref 19), some (.int (b (skW n b k))), some (.int (nI t)), some (.int 0), some (.int 0)], [.int (-1)], wd C (Y1.1, wd_u Y1.2.1 12 (upd (Y1.2.1 12) e (-1)), Y1.2.2) og)) rfl ?_
            refine am_iret_r ok_M_step rfl rfl rfl ?_
            exact ⟨rfl, Y1, Or.inl ⟨c, p, rfl, rfl, f7, f8, f9, ff, nv9, V9, g1, g2, g3⟩⟩
          · rw [hlr] at hLq
            obtain ⟨rfl, Y1, rfl, f6, f7, f9, ff, fl, g1⟩ := hLq
            refine am_eq_r (q' := (207, [some (.ref 19), some (.int (b (skW n b k))), some (.int (nI t)), some (.int 0), none], [.int 1], wd C Y1 og)) rfl ?_
            refine am_steps_r ok_M_step 15 (q' := (247, [some (.ref 19), some (.int (b (skW n b k))), some (.int (nI t)), some (.int 0), some (.int 1)], [.int ((Y1.1 4) - 1), .int ((Y1.1 12) - 1), .ref 33], wd C Y1 og)) rfl ?_
            rw [show (Y1.1 12 : Int32) = nI (e + 1) from (fl.1.trans hd)]
            rw [show ((nI (e + 1)) - 1 : Int32) = nI e from pk_sub (a := e + 1) (b := 1) (by omega)]
            rw [show (Y1.1 4 : Int32) = nI (nv + 1) from g1.1.1]
            rw [show ((nI (nv + 1)) - 1 : Int32) = nI nv from pk_sub (a := nv + 1) (b := 1) (by omega)]
            refine am_iast_r ok_M_step rfl (w := wd C Y1 og) (f := Y1.2.1 12) rfl rfl (pk_in e 9 (by omega)) ?_
            rw [nI_clamp (show e < 2 ^ 31 by omega)]
            refine am_eq_r (q' := (248, [some (.ref 19), some (.int (b (skW n b k))), some (.int (nI t)), some (.int 0), some (.int 1)], [], wd C (Y1.1, wd_u Y1.2.1 12 (upd (Y1.2.1 12) e (nI nv)), Y1.2.2) og)) rfl ?_
            refine am_steps_r ok_M_step 1 (q' := (249, [some (.ref 19), some (.int (b (skW n b k))), some (.int (nI t)), some (.int 0), some (.int 1)], [.int (-1)], wd C (Y1.1, wd_u Y1.2.1 12 (upd (Y1.2.1 12) e (nI nv)), Y1.2.2) og)) rfl ?_
            refine am_iret_r ok_M_step rfl rfl rfl ?_
            exact ⟨rfl, Y1, Or.inr ⟨kd, nu, acc, k1, bit, rfl, rfl, f6, f7, f9, ff, fl, g1⟩⟩
        · skip
          exact absurd h47 h_10
      · skip
        have h_9 : ¬ (skW n b k) < n := fun z => h_9 ((nI_ltI (show (skW n b k) < 2 ^ 31 by omega) (show n < 2 ^ 31 by omega)).mpr z)
        exfalso; omega
end C64
