/-! the reference's step at a value, delivery; printed by wip/gen/g65.py -/
section C65
variable {l : Launch} {D : va_G} {cA : Nat → ClassId} {ad : Nat → Nat} {fm : Value}
set_option maxHeartbeats 1000000 in
set_option maxRecDepth 100000 in
theorem tl_M_step_1 (d : Nat) (C : wd_C) (Y : wd_Y) (og : Nat → Int64) (n : Nat) (b : Nat → Int32) (k nv u : Nat) (V : VT) (no : Int32) (hI : ryI Y n b k nv u V no) (hk : k ≤ n) (hend : skW n b k = n) : am_Rn l D cA ad fm (d + 6) m_M_step (wd C Y og).length (fun vr w' => vr = some (.int (-1)) ∧ w' = wd C (upd (upd (upd Y.1 6 (nI (skW n b k))) 7 1) 8 (nI n), Y.2) og) (250, [some (.ref 19), some (.int (b (skW n b k))), none, none, none], [], wd C (upd Y.1 6 (nI (skW n b k)), Y.2) og) := by
  have hT := hI.1
  have hn := hT.2.1
  have hnv := hI.2.2.2.2.1.2.1
  have hsk := skW_le n b hk
  refine am_steps_r ok_M_step 7 (q' := (bif decide ((nI (skW n b k)) < (Y.1 1)) then 276 else 263, [some (.ref 19), some (.int (b (skW n b k))), some (.int 1), none, none], [], wd C (upd Y.1 6 (nI (skW n b k)), Y.2) og)) rfl ?_
  rw [show (Y.1 1 : Int32) = nI n from hI.1.1]
  refine am_br_r (fun h_1 => ?_) (fun h_1 => ?_)
  · skip
    have h_1 : (skW n b k) < n := (nI_ltI (show (skW n b k) < 2 ^ 31 by omega) (show n < 2 ^ 31 by omega)).mp h_1
    exfalso; omega
  · skip
    have h_1 : ¬ (skW n b k) < n := fun z => h_1 ((nI_ltI (show (skW n b k) < 2 ^ 31 by omega) (show n < 2 ^ 31 by omega)).mpr z)
    refine am_steps_r ok_M_step 4 (q' := (269, [some (.ref 19), some (.int (b (skW n b k))), some (.int 1), none, none], [.int (Y.1 1), .int 1, .ref 19], wd C (upd Y.1 6 (nI (skW n b k)), Y.2) og)) rfl ?_
    rw [show (Y.1 1 : Int32) = nI n from hI.1.1]
    refine am_callV_r (As := [.int 1, .int (nI n)]) (rest := []) ok_M_step rfl rfl ok_M_fails oi_M_fails lk_6_139 (Or.inl ⟨_, _, _, rfl, rfl, rfl⟩) rfl rfl (Nat.le_of_ble_eq_true rfl) (c_M_fails _ C (upd Y.1 6 (nI (skW n b k)), Y.2) og 1 (nI n)) ?_
    rintro v_ w_ ⟨rfl, rfl⟩ -
    refine am_eq_r (q' := (272, [some (.ref 19), some (.int (b (skW n b k))), some (.int 1), none, none], [.int 0], wd C (upd (upd (upd Y.1 6 (nI (skW n b k))) 7 1) 8 (nI n), Y.2) og)) rfl ?_
    refine am_steps_r ok_M_step 5 (q' := (404, [some (.ref 19), some (.int (b (skW n b k))), some (.int 0), none, none], [.int (-1)], wd C (upd (upd (upd Y.1 6 (nI (skW n b k))) 7 1) 8 (nI n), Y.2) og)) rfl ?_
    refine am_iret_r ok_M_step rfl rfl rfl ?_
    exact ⟨rfl, rfl⟩
set_option maxHeartbeats 1000000 in
set_option maxRecDepth 100000 in
theorem tl_M_step_5a (d : Nat) (C : wd_C) (Y : wd_Y) (og : Nat → Int64) (n : Nat) (b : Nat → Int32) (k nv u : Nat) (V : VT) (no : Int32) (hI : ryI Y n b k nv u V no) (hk : k ≤ n) (hlt : skW n b k < n) (hb1 : b (skW n b k) = 91) (d0 : Nat) (hd : Y.1 12 = nI d0) (h8 : d0 = 8) : am_Rn l D cA ad fm (d + 6) m_M_step (wd C Y og).length (fun vr w' => vr = some (.int (-1)) ∧ w' = wd C (upd (upd (upd Y.1 6 (nI (skW n b k))) 7 5) 8 (nI (skW n b k)), Y.2) og) (250, [some (.ref 19), some (.int (b (skW n b k))), none, none, none], [], wd C (upd Y.1 6 (nI (skW n b k)), Y.2) og) := by
  have hT := hI.1
  have hn := hT.2.1
  have hnv := hI.2.2.2.2.1.2.1
  have hsk := skW_le n b hk
  refine am_steps_r ok_M_step 7 (q' := (bif decide ((nI (skW n b k)) < (Y.1 1)) then 276 else 263, [some (.ref 19), some (.int (b (skW n b k))), some (.int 1), none, none], [], wd C (upd Y.1 6 (nI (skW n b k)), Y.2) og)) rfl ?_
  rw [show (Y.1 1 : Int32) = nI n from hI.1.1]
  refine am_br_r (fun h_1 => ?_) (fun h_1 => ?_)
  · skip
    have h_1 : (skW n b k) < n := (nI_ltI (show (skW n b k) < 2 ^ 31 by omega) (show n < 2 ^ 31 by omega)).mp h_1
    refine am_steps_r ok_M_step 3 (q' := (bif decide ((b (skW n b k)) = 91) then 282 else 292, [some (.ref 19), some (.int (b (skW n b k))), some (.int 1), none, none], [], wd C (upd Y.1 6 (nI (skW n b k)), Y.2) og)) rfl ?_
    refine am_br_r (fun h_2 => ?_) (fun h_2 => ?_)
    · skip
      refine am_steps_r ok_M_step 3 (q' := (286, [some (.ref 19), some (.int (b (skW n b k))), some (.int 1), none, none], [.int 1, .int 6, .ref 19], wd C (upd Y.1 6 (nI (skW n b k)), Y.2) og)) rfl ?_
      refine am_callV_r (As := [.int 6, .int 1]) (rest := []) ok_M_step rfl rfl ok_M_opens oi_M_opens lk_6_215 (Or.inl ⟨_, _, _, rfl, rfl, rfl⟩) rfl rfl (Nat.le_of_ble_eq_true rfl) (c_M_opens_8 _ C (upd Y.1 6 (nI (skW n b k)), Y.2) og n b (skW n b k) nv u V no (show ryI (upd Y.1 6 (nI (skW n b k)), Y.2) n b (skW n b k) nv u V no from ⟨hI.1, rfl, hI.2.2.1, hI.2.2.2.1, hI.2.2.2.2⟩) d0 hd 6 1 h8 (by omega)) ?_
      rintro v_ w_ ⟨rfl, rfl⟩ -
      refine am_eq_r (q' := (289, [some (.ref 19), some (.int (b (skW n b k))), some (.int 1), none, none], [.int 0], wd C (upd (upd (upd Y.1 6 (nI (skW n b k))) 7 5) 8 (nI (skW n b k)), Y.2) og)) rfl ?_
      refine am_steps_r ok_M_step 2 (q' := (291, [some (.ref 19), some (.int (b (skW n b k))), some (.int 0), none, none], [.int (-1)], wd C (upd (upd (upd Y.1 6 (nI (skW n b k))) 7 5) 8 (nI (skW n b k)), Y.2) og)) rfl ?_
      refine am_iret_r ok_M_step rfl rfl rfl ?_
      exact ⟨rfl, rfl⟩
    · skip
      exact absurd (by assumption) h_2
  · skip
    have h_1 : ¬ (skW n b k) < n := fun z => h_1 ((nI_ltI (show (skW n b k) < 2 ^ 31 by omega) (show n < 2 ^ 31 by omega)).mpr z)
    exfalso; omega
set_option maxHeartbeats 1000000 in
set_option maxRecDepth 100000 in
theorem tl_M_step_6a (d : Nat) (C : wd_C) (Y : wd_Y) (og : Nat → Int64) (n : Nat) (b : Nat → Int32) (k nv u : Nat) (V : VT) (no : Int32) (hI : ryI Y n b k nv u V no) (hk : k ≤ n) (hlt : skW n b k < n) (hb1 : b (skW n b k) = 91) (d0 : Nat) (hd : Y.1 12 = nI d0) (h8 : d0 < 8) (h3 : nv = 300) : am_Rn l D cA ad fm (d + 6) m_M_step (wd C Y og).length (fun vr w' => vr = some (.int (-1)) ∧ w' = wd C (upd (upd (upd Y.1 6 (nI (skW n b k))) 7 6) 8 (nI (skW n b k)), Y.2) og) (250, [some (.ref 19), some (.int (b (skW n b k))), none, none, none], [], wd C (upd Y.1 6 (nI (skW n b k)), Y.2) og) := by
  have hT := hI.1
  have hn := hT.2.1
  have hnv := hI.2.2.2.2.1.2.1
  have hsk := skW_le n b hk
  refine am_steps_r ok_M_step 7 (q' := (bif decide ((nI (skW n b k)) < (Y.1 1)) then 276 else 263, [some (.ref 19), some (.int (b (skW n b k))), some (.int 1), none, none], [], wd C (upd Y.1 6 (nI (skW n b k)), Y.2) og)) rfl ?_
  rw [show (Y.1 1 : Int32) = nI n from hI.1.1]
  refine am_br_r (fun h_1 => ?_) (fun h_1 => ?_)
  · skip
    have h_1 : (skW n b k) < n := (nI_ltI (show (skW n b k) < 2 ^ 31 by omega) (show n < 2 ^ 31 by omega)).mp h_1
    refine am_steps_r ok_M_step 3 (q' := (bif decide ((b (skW n b k)) = 91) then 282 else 292, [some (.ref 19), some (.int (b (skW n b k))), some (.int 1), none, none], [], wd C (upd Y.1 6 (nI (skW n b k)), Y.2) og)) rfl ?_
    refine am_br_r (fun h_2 => ?_) (fun h_2 => ?_)
    · skip
      refine am_steps_r ok_M_step 3 (q' := (286, [some (.ref 19), some (.int (b (skW n b k))), some (.int 1), none, none], [.int 1, .int 6, .ref 19], wd C (upd Y.1 6 (nI (skW n b k)), Y.2) og)) rfl ?_
      refine am_callV_r (As := [.int 6, .int 1]) (rest := []) ok_M_step rfl rfl ok_M_opens oi_M_opens lk_6_215 (Or.inl ⟨_, _, _, rfl, rfl, rfl⟩) rfl rfl (Nat.le_of_ble_eq_true rfl) (c_M_opens_f _ C (upd Y.1 6 (nI (skW n b k)), Y.2) og n b (skW n b k) nv u V no (show ryI (upd Y.1 6 (nI (skW n b k)), Y.2) n b (skW n b k) nv u V no from ⟨hI.1, rfl, hI.2.2.1, hI.2.2.2.1, hI.2.2.2.2⟩) d0 hd 6 1 h8 h3) ?_
      rintro v_ w_ ⟨rfl, rfl⟩ -
      refine am_eq_r (q' := (289, [some (.ref 19), some (.int (b (skW n b k))), some (.int 1), none, none], [.int 0], wd C (upd (upd (upd Y.1 6 (nI (skW n b k))) 7 6) 8 (nI (skW n b k)), Y.2) og)) rfl ?_
      refine am_steps_r ok_M_step 2 (q' := (291, [some (.ref 19), some (.int (b (skW n b k))), some (.int 0), none, none], [.int (-1)], wd C (upd (upd (upd Y.1 6 (nI (skW n b k))) 7 6) 8 (nI (skW n b k)), Y.2) og)) rfl ?_
      refine am_iret_r ok_M_step rfl rfl rfl ?_
      exact ⟨rfl, rfl⟩
    · skip
      exact absurd (by assumption) h_2
  · skip
    have h_1 : ¬ (skW n b k) < n := fun z => h_1 ((nI_ltI (show (skW n b k) < 2 ^ 31 by omega) (show n < 2 ^ 31 by omega)).mpr z)
    exfalso; omega
set_option maxHeartbeats 1000000 in
set_option maxRecDepth 100000 in
theorem tl_M_step_oa (d : Nat) (C : wd_C) (Y : wd_Y) (og : Nat → Int64) (n : Nat) (b : Nat → Int32) (k nv u : Nat) (V : VT) (no : Int32) (hI : ryI Y n b k nv u V no) (hk : k ≤ n) (hlt : skW n b k < n) (hb1 : b (skW n b k) = 91) (d0 : Nat) (hd : Y.1 12 = nI d0) (h8 : d0 < 8) (h3 : nv < 300) : am_Rn l D cA ad fm (d + 6) m_M_step (wd C Y og).length (fun vr w' => vr = some (.int (-1)) ∧ w' = wd C (yOpn (upd Y.1 6 (nI (skW n b k)), Y.2) nv u d0 (skW n b k + 1) 6) og) (250, [some (.ref 19), some (.int (b (skW n b k))), none, none, none], [], wd C (upd Y.1 6 (nI (skW n b k)), Y.2) og) := by
  have hT := hI.1
  have hn := hT.2.1
  have hnv := hI.2.2.2.2.1.2.1
  have hsk := skW_le n b hk
  refine am_steps_r ok_M_step 7 (q' := (bif decide ((nI (skW n b k)) < (Y.1 1)) then 276 else 263, [some (.ref 19), some (.int (b (skW n b k))), some (.int 1), none, none], [], wd C (upd Y.1 6 (nI (skW n b k)), Y.2) og)) rfl ?_
  rw [show (Y.1 1 : Int32) = nI n from hI.1.1]
  refine am_br_r (fun h_1 => ?_) (fun h_1 => ?_)
  · skip
    have h_1 : (skW n b k) < n := (nI_ltI (show (skW n b k) < 2 ^ 31 by omega) (show n < 2 ^ 31 by omega)).mp h_1
    refine am_steps_r ok_M_step 3 (q' := (bif decide ((b (skW n b k)) = 91) then 282 else 292, [some (.ref 19), some (.int (b (skW n b k))), some (.int 1), none, none], [], wd C (upd Y.1 6 (nI (skW n b k)), Y.2) og)) rfl ?_
    refine am_br_r (fun h_2 => ?_) (fun h_2 => ?_)
    · skip
      refine am_steps_r ok_M_step 3 (q' := (286, [some (.ref 19), some (.int (b (skW n b k))), some (.int 1), none, none], [.int 1, .int 6, .ref 19], wd C (upd Y.1 6 (nI (skW n b k)), Y.2) og)) rfl ?_
      refine am_callV_r (As := [.int 6, .int 1]) (rest := []) ok_M_step rfl rfl ok_M_opens oi_M_opens lk_6_215 (Or.inl ⟨_, _, _, rfl, rfl, rfl⟩) rfl rfl (Nat.le_of_ble_eq_true rfl) (c_M_opens_i _ C (upd Y.1 6 (nI (skW n b k)), Y.2) og n b (skW n b k) nv u V no (show ryI (upd Y.1 6 (nI (skW n b k)), Y.2) n b (skW n b k) nv u V no from ⟨hI.1, rfl, hI.2.2.1, hI.2.2.2.1, hI.2.2.2.2⟩) d0 hd 6 1 h8 h3) ?_
      rintro v_ w_ ⟨rfl, rfl⟩ -
      refine am_eq_r (q' := (289, [some (.ref 19), some (.int (b (skW n b k))), some (.int 1), none, none], [.int 1], wd C (yOpn (upd Y.1 6 (nI (skW n b k)), Y.2) nv u d0 (skW n b k + 1) 6) og)) rfl ?_
      refine am_steps_r ok_M_step 2 (q' := (291, [some (.ref 19), some (.int (b (skW n b k))), some (.int 1), none, none], [.int (-1)], wd C (yOpn (upd Y.1 6 (nI (skW n b k)), Y.2) nv u d0 (skW n b k + 1) 6) og)) rfl ?_
      refine am_iret_r ok_M_step rfl rfl rfl ?_
      exact ⟨rfl, rfl⟩
    · skip
      exact absurd (by assumption) h_2
  · skip
    have h_1 : ¬ (skW n b k) < n := fun z => h_1 ((nI_ltI (show (skW n b k) < 2 ^ 31 by omega) (show n < 2 ^ 31 by omega)).mpr z)
    exfalso; omega
set_option maxHeartbeats 1000000 in
set_option maxRecDepth 100000 in
theorem tl_M_step_5d (d : Nat) (C : wd_C) (Y : wd_Y) (og : Nat → Int64) (n : Nat) (b : Nat → Int32) (k nv u : Nat) (V : VT) (no : Int32) (hI : ryI Y n b k nv u V no) (hk : k ≤ n) (hlt : skW n b k < n) (hb1 : b (skW n b k) = 60) (hb2 : b (skW n b k + 1) = 60) (d0 : Nat) (hd : Y.1 12 = nI d0) (h8 : d0 = 8) : am_Rn l D cA ad fm (d + 6) m_M_step (wd C Y og).length (fun vr w' => vr = some (.int (-1)) ∧ w' = wd C (upd (upd (upd Y.1 6 (nI (skW n b k))) 7 5) 8 (nI (skW n b k)), Y.2) og) (250, [some (.ref 19), some (.int (b (skW n b k))), none, none, none], [], wd C (upd Y.1 6 (nI (skW n b k)), Y.2) og) := by
  have hT := hI.1
  have hn := hT.2.1
  have hnv := hI.2.2.2.2.1.2.1
  have hsk := skW_le n b hk
  refine am_steps_r ok_M_step 7 (q' := (bif decide ((nI (skW n b k)) < (Y.1 1)) then 276 else 263, [some (.ref 19), some (.int (b (skW n b k))), some (.int 1), none, none], [], wd C (upd Y.1 6 (nI (skW n b k)), Y.2) og)) rfl ?_
  rw [show (Y.1 1 : Int32) = nI n from hI.1.1]
  refine am_br_r (fun h_1 => ?_) (fun h_1 => ?_)
  · skip
    have h_1 : (skW n b k) < n := (nI_ltI (show (skW n b k) < 2 ^ 31 by omega) (show n < 2 ^ 31 by omega)).mp h_1
    refine am_steps_r ok_M_step 3 (q' := (bif decide ((b (skW n b k)) = 91) then 282 else 292, [some (.ref 19), some (.int (b (skW n b k))), some (.int 1), none, none], [], wd C (upd Y.1 6 (nI (skW n b k)), Y.2) og)) rfl ?_
    refine am_br_r (fun h_2 => ?_) (fun h_2 => ?_)
    · skip
      first | exact absurd h_2 (by assumption) | exact absurd (hb1.symm.trans h_2) (by decide)
    · skip
      refine am_steps_r ok_M_step 3 (q' := (bif decide ((b (skW n b k)) = 60) then 298 else 323, [some (.ref 19), some (.int (b (skW n b k))), some (.int 1), none, none], [], wd C (upd Y.1 6 (nI (skW n b k)), Y.2) og)) rfl ?_
      refine am_br_r (fun h_3 => ?_) (fun h_3 => ?_)
      · skip
        refine am_steps_r ok_M_step 5 (q' := (305, [some (.ref 19), some (.int (b (skW n b k))), some (.int 1), none, none], [.int ((nI (skW n b k)) + 1), .ref 19], wd C (upd Y.1 6 (nI (skW n b k)), Y.2) og)) rfl ?_
        rw [show ((nI (skW n b k)) + 1 : Int32) = nI ((skW n b k) + 1) from nI_add (skW n b k) 1]
        refine am_callV_r (As := [.int (nI ((skW n b k) + 1))]) (rest := []) ok_M_step rfl rfl ok_M_byteAt oi_M_byteAt lk_6_78 (Or.inl ⟨_, _, _, rfl, rfl, rfl⟩) rfl rfl (Nat.le_of_ble_eq_true rfl) (c_M_byteAt _ C (upd Y.1 6 (nI (skW n b k)), Y.2) og n b hT ((skW n b k) + 1) (by omega)) ?_
        rintro v_ w_ ⟨rfl, rfl⟩ -
        refine am_eq_r (q' := (308, [some (.ref 19), some (.int (b (skW n b k))), some (.int 1), none, none], [.int (b ((skW n b k) + 1))], wd C (upd Y.1 6 (nI (skW n b k)), Y.2) og)) rfl ?_
        refine am_steps_r ok_M_step 2 (q' := (bif decide ((b ((skW n b k) + 1)) = 60) then 313 else 323, [some (.ref 19), some (.int (b (skW n b k))), some (.int 1), none, none], [], wd C (upd Y.1 6 (nI (skW n b k)), Y.2) og)) rfl ?_
        refine am_br_r (fun h_5 => ?_) (fun h_5 => ?_)
        · skip
          refine am_steps_r ok_M_step 3 (q' := (317, [some (.ref 19), some (.int (b (skW n b k))), some (.int 1), none, none], [.int 2, .int 7, .ref 19], wd C (upd Y.1 6 (nI (skW n b k)), Y.2) og)) rfl ?_
          refine am_callV_r (As := [.int 7, .int 2]) (rest := []) ok_M_step rfl rfl ok_M_opens oi_M_opens lk_6_215 (Or.inl ⟨_, _, _, rfl, rfl, rfl⟩) rfl rfl (Nat.le_of_ble_eq_true rfl) (c_M_opens_8 _ C (upd Y.1 6 (nI (skW n b k)), Y.2) og n b (skW n b k) nv u V no (show ryI (upd Y.1 6 (nI (skW n b k)), Y.2) n b (skW n b k) nv u V no from ⟨hI.1, rfl, hI.2.2.1, hI.2.2.2.1, hI.2.2.2.2⟩) d0 hd 7 2 h8 (by omega)) ?_
          rintro v_ w_ ⟨rfl, rfl⟩ -
          refine am_eq_r (q' := (320, [some (.ref 19), some (.int (b (skW n b k))), some (.int 1), none, none], [.int 0], wd C (upd (upd (upd Y.1 6 (nI (skW n b k))) 7 5) 8 (nI (skW n b k)), Y.2) og)) rfl ?_
          refine am_steps_r ok_M_step 2 (q' := (322, [some (.ref 19), some (.int (b (skW n b k))), some (.int 0), none, none], [.int (-1)], wd C (upd (upd (upd Y.1 6 (nI (skW n b k))) 7 5) 8 (nI (skW n b k)), Y.2) og)) rfl ?_
          refine am_iret_r ok_M_step rfl rfl rfl ?_
          exact ⟨rfl, rfl⟩
        · skip
          exact absurd (by assumption) h_5
      · skip
        exact absurd (by assumption) h_3
  · skip
    have h_1 : ¬ (skW n b k) < n := fun z => h_1 ((nI_ltI (show (skW n b k) < 2 ^ 31 by omega) (show n < 2 ^ 31 by omega)).mpr z)
    exfalso; omega
set_option maxHeartbeats 1000000 in
set_option maxRecDepth 100000 in
theorem tl_M_step_6d (d : Nat) (C : wd_C) (Y : wd_Y) (og : Nat → Int64) (n : Nat) (b : Nat → Int32) (k nv u : Nat) (V : VT) (no : Int32) (hI : ryI Y n b k nv u V no) (hk : k ≤ n) (hlt : skW n b k < n) (hb1 : b (skW n b k) = 60) (hb2 : b (skW n b k + 1) = 60) (d0 : Nat) (hd : Y.1 12 = nI d0) (h8 : d0 < 8) (h3 : nv = 300) : am_Rn l D cA ad fm (d + 6) m_M_step (wd C Y og).length (fun vr w' => vr = some (.int (-1)) ∧ w' = wd C (upd (upd (upd Y.1 6 (nI (skW n b k))) 7 6) 8 (nI (skW n b k)), Y.2) og) (250, [some (.ref 19), some (.int (b (skW n b k))), none, none, none], [], wd C (upd Y.1 6 (nI (skW n b k)), Y.2) og) := by
  have hT := hI.1
  have hn := hT.2.1
  have hnv := hI.2.2.2.2.1.2.1
  have hsk := skW_le n b hk
  refine am_steps_r ok_M_step 7 (q' := (bif decide ((nI (skW n b k)) < (Y.1 1)) then 276 else 263, [some (.ref 19), some (.int (b (skW n b k))), some (.int 1), none, none], [], wd C (upd Y.1 6 (nI (skW n b k)), Y.2) og)) rfl ?_
  rw [show (Y.1 1 : Int32) = nI n from hI.1.1]
  refine am_br_r (fun h_1 => ?_) (fun h_1 => ?_)
  · skip
    have h_1 : (skW n b k) < n := (nI_ltI (show (skW n b k) < 2 ^ 31 by omega) (show n < 2 ^ 31 by omega)).mp h_1
    refine am_steps_r ok_M_step 3 (q' := (bif decide ((b (skW n b k)) = 91) then 282 else 292, [some (.ref 19), some (.int (b (skW n b k))), some (.int 1), none, none], [], wd C (upd Y.1 6 (nI (skW n b k)), Y.2) og)) rfl ?_
    refine am_br_r (fun h_2 => ?_) (fun h_2 => ?_)
    · skip
      first | exact absurd h_2 (by assumption) | exact absurd (hb1.symm.trans h_2) (by decide)
    · skip
      refine am_steps_r ok_M_step 3 (q' := (bif decide ((b (skW n b k)) = 60) then 298 else 323, [some (.ref 19), some (.int (b (skW n b k))), some (.int 1), none, none], [], wd C (upd Y.1 6 (nI (skW n b k)), Y.2) og)) rfl ?_
      refine am_br_r (fun h_3 => ?_) (fun h_3 => ?_)
      · skip
        refine am_steps_r ok_M_step 5 (q' := (305, [some (.ref 19), some (.int (b (skW n b k))), some (.int 1), none, none], [.int ((nI (skW n b k)) + 1), .ref 19], wd C (upd Y.1 6 (nI (skW n b k)), Y.2) og)) rfl ?_
        rw [show ((nI (skW n b k)) + 1 : Int32) = nI ((skW n b k) + 1) from nI_add (skW n b k) 1]
        refine am_callV_r (As := [.int (nI ((skW n b k) + 1))]) (rest := []) ok_M_step rfl rfl ok_M_byteAt oi_M_byteAt lk_6_78 (Or.inl ⟨_, _, _, rfl, rfl, rfl⟩) rfl rfl (Nat.le_of_ble_eq_true rfl) (c_M_byteAt _ C (upd Y.1 6 (nI (skW n b k)), Y.2) og n b hT ((skW n b k) + 1) (by omega)) ?_
        rintro v_ w_ ⟨rfl, rfl⟩ -
        refine am_eq_r (q' := (308, [some (.ref 19), some (.int (b (skW n b k))), some (.int 1), none, none], [.int (b ((skW n b k) + 1))], wd C (upd Y.1 6 (nI (skW n b k)), Y.2) og)) rfl ?_
        refine am_steps_r ok_M_step 2 (q' := (bif decide ((b ((skW n b k) + 1)) = 60) then 313 else 323, [some (.ref 19), some (.int (b (skW n b k))), some (.int 1), none, none], [], wd C (upd Y.1 6 (nI (skW n b k)), Y.2) og)) rfl ?_
        refine am_br_r (fun h_5 => ?_) (fun h_5 => ?_)
        · skip
          refine am_steps_r ok_M_step 3 (q' := (317, [some (.ref 19), some (.int (b (skW n b k))), some (.int 1), none, none], [.int 2, .int 7, .ref 19], wd C (upd Y.1 6 (nI (skW n b k)), Y.2) og)) rfl ?_
          refine am_callV_r (As := [.int 7, .int 2]) (rest := []) ok_M_step rfl rfl ok_M_opens oi_M_opens lk_6_215 (Or.inl ⟨_, _, _, rfl, rfl, rfl⟩) rfl rfl (Nat.le_of_ble_eq_true rfl) (c_M_opens_f _ C (upd Y.1 6 (nI (skW n b k)), Y.2) og n b (skW n b k) nv u V no (show ryI (upd Y.1 6 (nI (skW n b k)), Y.2) n b (skW n b k) nv u V no from ⟨hI.1, rfl, hI.2.2.1, hI.2.2.2.1, hI.2.2.2.2⟩) d0 hd 7 2 h8 h3) ?_
          rintro v_ w_ ⟨rfl, rfl⟩ -
          refine am_eq_r (q' := (320, [some (.ref 19), some (.int (b (skW n b k))), some (.int 1), none, none], [.int 0], wd C (upd (upd (upd Y.1 6 (nI (skW n b k))) 7 6) 8 (nI (skW n b k)), Y.2) og)) rfl ?_
          refine am_steps_r ok_M_step 2 (q' := (322, [some (.ref 19), some (.int (b (skW n b k))), some (.int 0), none, none], [.int (-1)], wd C (upd (upd (upd Y.1 6 (nI (skW n b k))) 7 6) 8 (nI (skW n b k)), Y.2) og)) rfl ?_
          refine am_iret_r ok_M_step rfl rfl rfl ?_
          exact ⟨rfl, rfl⟩
        · skip
          exact absurd (by assumption) h_5
      · skip
        exact absurd (by assumption) h_3
  · skip
    have h_1 : ¬ (skW n b k) < n := fun z => h_1 ((nI_ltI (show (skW n b k) < 2 ^ 31 by omega) (show n < 2 ^ 31 by omega)).mpr z)
    exfalso; omega
set_option maxHeartbeats 1000000 in
set_option maxRecDepth 100000 in
theorem tl_M_step_od (d : Nat) (C : wd_C) (Y : wd_Y) (og : Nat → Int64) (n : Nat) (b : Nat → Int32) (k nv u : Nat) (V : VT) (no : Int32) (hI : ryI Y n b k nv u V no) (hk : k ≤ n) (hlt : skW n b k < n) (hb1 : b (skW n b k) = 60) (hb2 : b (skW n b k + 1) = 60) (d0 : Nat) (hd : Y.1 12 = nI d0) (h8 : d0 < 8) (h3 : nv < 300) : am_Rn l D cA ad fm (d + 6) m_M_step (wd C Y og).length (fun vr w' => vr = some (.int (-1)) ∧ w' = wd C (yOpn (upd Y.1 6 (nI (skW n b k)), Y.2) nv u d0 (skW n b k + 2) 7) og) (250, [some (.ref 19), some (.int (b (skW n b k))), none, none, none], [], wd C (upd Y.1 6 (nI (skW n b k)), Y.2) og) := by
  have hT := hI.1
  have hn := hT.2.1
  have hnv := hI.2.2.2.2.1.2.1
  have hsk := skW_le n b hk
  refine am_steps_r ok_M_step 7 (q' := (bif decide ((nI (skW n b k)) < (Y.1 1)) then 276 else 263, [some (.ref 19), some (.int (b (skW n b k))), some (.int 1), none, none], [], wd C (upd Y.1 6 (nI (skW n b k)), Y.2) og)) rfl ?_
  rw [show (Y.1 1 : Int32) = nI n from hI.1.1]
  refine am_br_r (fun h_1 => ?_) (fun h_1 => ?_)
  · skip
    have h_1 : (skW n b k) < n := (nI_ltI (show (skW n b k) < 2 ^ 31 by omega) (show n < 2 ^ 31 by omega)).mp h_1
    refine am_steps_r ok_M_step 3 (q' := (bif decide ((b (skW n b k)) = 91) then 282 else 292, [some (.ref 19), some (.int (b (skW n b k))), some (.int 1), none, none], [], wd C (upd Y.1 6 (nI (skW n b k)), Y.2) og)) rfl ?_
    refine am_br_r (fun h_2 => ?_) (fun h_2 => ?_)
    · skip
      first | exact absurd h_2 (by assumption) | exact absurd (hb1.symm.trans h_2) (by decide)
    · skip
      refine am_steps_r ok_M_step 3 (q' := (bif decide ((b (skW n b k)) = 60) then 298 else 323, [some (.ref 19), some (.int (b (skW n b k))), some (.int 1), none, none], [], wd C (upd Y.1 6 (nI (skW n b k)), Y.2) og)) rfl ?_
      refine am_br_r (fun h_3 => ?_) (fun h_3 => ?_)
      · skip
        refine am_steps_r ok_M_step 5 (q' := (305, [some (.ref 19), some (.int (b (skW n b k))), some (.int 1), none, none], [.int ((nI (skW n b k)) + 1), .ref 19], wd C (upd Y.1 6 (nI (skW n b k)), Y.2) og)) rfl ?_
        rw [show ((nI (skW n b k)) + 1 : Int32) = nI ((skW n b k) + 1) from nI_add (skW n b k) 1]
        refine am_callV_r (As := [.int (nI ((skW n b k) + 1))]) (rest := []) ok_M_step rfl rfl ok_M_byteAt oi_M_byteAt lk_6_78 (Or.inl ⟨_, _, _, rfl, rfl, rfl⟩) rfl rfl (Nat.le_of_ble_eq_true rfl) (c_M_byteAt _ C (upd Y.1 6 (nI (skW n b k)), Y.2) og n b hT ((skW n b k) + 1) (by omega)) ?_
        rintro v_ w_ ⟨rfl, rfl⟩ -
        refine am_eq_r (q' := (308, [some (.ref 19), some (.int (b (skW n b k))), some (.int 1), none, none], [.int (b ((skW n b k) + 1))], wd C (upd Y.1 6 (nI (skW n b k)), Y.2) og)) rfl ?_
        refine am_steps_r ok_M_step 2 (q' := (bif decide ((b ((skW n b k) + 1)) = 60) then 313 else 323, [some (.ref 19), some (.int (b (skW n b k))), some (.int 1), none, none], [], wd C (upd Y.1 6 (nI (skW n b k)), Y.2) og)) rfl ?_
        refine am_br_r (fun h_5 => ?_) (fun h_5 => ?_)
        · skip
          refine am_steps_r ok_M_step 3 (q' := (317, [some (.ref 19), some (.int (b (skW n b k))), some (.int 1), none, none], [.int 2, .int 7, .ref 19], wd C (upd Y.1 6 (nI (skW n b k)), Y.2) og)) rfl ?_
          refine am_callV_r (As := [.int 7, .int 2]) (rest := []) ok_M_step rfl rfl ok_M_opens oi_M_opens lk_6_215 (Or.inl ⟨_, _, _, rfl, rfl, rfl⟩) rfl rfl (Nat.le_of_ble_eq_true rfl) (c_M_opens_i _ C (upd Y.1 6 (nI (skW n b k)), Y.2) og n b (skW n b k) nv u V no (show ryI (upd Y.1 6 (nI (skW n b k)), Y.2) n b (skW n b k) nv u V no from ⟨hI.1, rfl, hI.2.2.1, hI.2.2.2.1, hI.2.2.2.2⟩) d0 hd 7 2 h8 h3) ?_
          rintro v_ w_ ⟨rfl, rfl⟩ -
          refine am_eq_r (q' := (320, [some (.ref 19), some (.int (b (skW n b k))), some (.int 1), none, none], [.int 1], wd C (yOpn (upd Y.1 6 (nI (skW n b k)), Y.2) nv u d0 (skW n b k + 2) 7) og)) rfl ?_
          refine am_steps_r ok_M_step 2 (q' := (322, [some (.ref 19), some (.int (b (skW n b k))), some (.int 1), none, none], [.int (-1)], wd C (yOpn (upd Y.1 6 (nI (skW n b k)), Y.2) nv u d0 (skW n b k + 2) 7) og)) rfl ?_
          refine am_iret_r ok_M_step rfl rfl rfl ?_
          exact ⟨rfl, rfl⟩
        · skip
          exact absurd (by assumption) h_5
      · skip
        exact absurd (by assumption) h_3
  · skip
    have h_1 : ¬ (skW n b k) < n := fun z => h_1 ((nI_ltI (show (skW n b k) < 2 ^ 31 by omega) (show n < 2 ^ 31 by omega)).mpr z)
    exfalso; omega
set_option maxHeartbeats 1000000 in
set_option maxRecDepth 100000 in
theorem tl_M_step_2 (d : Nat) (C : wd_C) (Y : wd_Y) (og : Nat → Int64) (n : Nat) (b : Nat → Int32) (k nv u : Nat) (V : VT) (no : Int32) (hI : ryI Y n b k nv u V no) (hk : k ≤ n) (hlt : skW n b k < n) (h91 : ¬ b (skW n b k) = 91) (h60 : ¬ b (skW n b k) = 60) (h40 : ¬ b (skW n b k) = 40) (h47 : ¬ b (skW n b k) = 47) (hr : isReg (b (skW n b k)) = false) : am_Rn l D cA ad fm (d + 6) m_M_step (wd C Y og).length (fun vr w' => vr = some (.int (-1)) ∧ w' = wd C (upd (upd (upd Y.1 6 (nI (skW n b k))) 7 2) 8 (nI (skW n b k)), Y.2) og) (250, [some (.ref 19), some (.int (b (skW n b k))), none, none, none], [], wd C (upd Y.1 6 (nI (skW n b k)), Y.2) og) := by
  have hT := hI.1
  have hn := hT.2.1
  have hnv := hI.2.2.2.2.1.2.1
  have hsk := skW_le n b hk
  refine am_steps_r ok_M_step 7 (q' := (bif decide ((nI (skW n b k)) < (Y.1 1)) then 276 else 263, [some (.ref 19), some (.int (b (skW n b k))), some (.int 1), none, none], [], wd C (upd Y.1 6 (nI (skW n b k)), Y.2) og)) rfl ?_
  rw [show (Y.1 1 : Int32) = nI n from hI.1.1]
  refine am_br_r (fun h_1 => ?_) (fun h_1 => ?_)
  · skip
    have h_1 : (skW n b k) < n := (nI_ltI (show (skW n b k) < 2 ^ 31 by omega) (show n < 2 ^ 31 by omega)).mp h_1
    refine am_steps_r ok_M_step 3 (q' := (bif decide ((b (skW n b k)) = 91) then 282 else 292, [some (.ref 19), some (.int (b (skW n b k))), some (.int 1), none, none], [], wd C (upd Y.1 6 (nI (skW n b k)), Y.2) og)) rfl ?_
    refine am_br_r (fun h_2 => ?_) (fun h_2 => ?_)
    · skip
      first | exact absurd h_2 (by assumption) | exact absurd (hb1.symm.trans h_2) (by decide)
    · skip
      refine am_steps_r ok_M_step 3 (q' := (bif decide ((b (skW n b k)) = 60) then 298 else 323, [some (.ref 19), some (.int (b (skW n b k))), some (.int 1), none, none], [], wd C (upd Y.1 6 (nI (skW n b k)), Y.2) og)) rfl ?_
      refine am_br_r (fun h_3 => ?_) (fun h_3 => ?_)
      · skip
        first | exact absurd h_3 (by assumption) | exact absurd (hb1.symm.trans h_3) (by decide)
      · skip
        refine am_steps_r ok_M_step 3 (q' := (bif decide ((b (skW n b k)) = 60) then 329 else 337, [some (.ref 19), some (.int (b (skW n b k))), some (.int 1), none, none], [], wd C (upd Y.1 6 (nI (skW n b k)), Y.2) og)) rfl ?_
        refine am_br_r (fun h_4 => ?_) (fun h_4 => ?_)
        · skip
          first | contradiction | (exfalso; simp_all; done)
        · skip
          refine am_steps_r ok_M_step 3 (q' := (bif decide ((b (skW n b k)) = 40) then 343 else 351, [some (.ref 19), some (.int (b (skW n b k))), some (.int 1), none, none], [], wd C (upd Y.1 6 (nI (skW n b k)), Y.2) og)) rfl ?_
          refine am_br_r (fun h_5 => ?_) (fun h_5 => ?_)
          · skip
            first | exact absurd h_5 (by assumption) | exact absurd (hb1.symm.trans h_5) (by decide)
          · skip
            refine am_steps_r ok_M_step 3 (q' := (bif decide ((b (skW n b k)) = 47) then 357 else 365, [some (.ref 19), some (.int (b (skW n b k))), some (.int 1), none, none], [], wd C (upd Y.1 6 (nI (skW n b k)), Y.2) og)) rfl ?_
            refine am_br_r (fun h_6 => ?_) (fun h_6 => ?_)
            · skip
              first | exact absurd h_6 (by assumption) | exact absurd (hb1.symm.trans h_6) (by decide)
            · skip
              refine am_steps_r ok_M_step 1 (q' := (366, [some (.ref 19), some (.int (b (skW n b k))), some (.int 1), none, none], [.int (b (skW n b k))], wd C (upd Y.1 6 (nI (skW n b k)), Y.2) og)) rfl ?_
              refine am_callS_r (As := [.int (b (skW n b k))]) (rest := []) ok_M_step rfl rfl ok_M_isRegular os_M_isRegular lk_6_85 rfl rfl (Nat.le_of_ble_eq_true rfl) (c_M_isRegular _ C (upd Y.1 6 (nI (skW n b k)), Y.2) og (b (skW n b k))) ?_
              rintro v_ w_ ⟨rfl, rfl⟩ -
              refine am_eq_r (q' := (369, [some (.ref 19), some (.int (b (skW n b k))), some (.int 1), none, none], [.int (bz (isReg (b (skW n b k))))], wd C (upd Y.1 6 (nI (skW n b k)), Y.2) og)) rfl ?_
              refine am_steps_r ok_M_step 1 (q' := (bif decide ((bz (isReg (b (skW n b k)))) = 0) then 380 else 372, [some (.ref 19), some (.int (b (skW n b k))), some (.int 1), none, none], [], wd C (upd Y.1 6 (nI (skW n b k)), Y.2) og)) rfl ?_
              refine am_bz_r (fun h_8 => ?_) (fun h_8 => ?_)
              · skip
                exact absurd h_8 (by first | (rw [hb1]; decide) | (rw [show isReg (b (skW n b k)) = false by assumption]; decide))
              · skip
                refine am_steps_r ok_M_step 4 (q' := (386, [some (.ref 19), some (.int (b (skW n b k))), some (.int 1), none, none], [.int (nI (skW n b k)), .int 2, .ref 19], wd C (upd Y.1 6 (nI (skW n b k)), Y.2) og)) rfl ?_
                refine am_callV_r (As := [.int 2, .int (nI (skW n b k))]) (rest := []) ok_M_step rfl rfl ok_M_fails oi_M_fails lk_6_139 (Or.inl ⟨_, _, _, rfl, rfl, rfl⟩) rfl rfl (Nat.le_of_ble_eq_true rfl) (c_M_fails _ C (upd Y.1 6 (nI (skW n b k)), Y.2) og 2 (nI (skW n b k))) ?_
                rintro v_ w_ ⟨rfl, rfl⟩ -
                refine am_eq_r (q' := (389, [some (.ref 19), some (.int (b (skW n b k))), some (.int 1), none, none], [.int 0], wd C (upd (upd (upd Y.1 6 (nI (skW n b k))) 7 2) 8 (nI (skW n b k)), Y.2) og)) rfl ?_
                refine am_steps_r ok_M_step 4 (q' := (404, [some (.ref 19), some (.int (b (skW n b k))), some (.int 0), none, none], [.int (-1)], wd C (upd (upd (upd Y.1 6 (nI (skW n b k))) 7 2) 8 (nI (skW n b k)), Y.2) og)) rfl ?_
                refine am_iret_r ok_M_step rfl rfl rfl ?_
                exact ⟨rfl, rfl⟩
  · skip
    have h_1 : ¬ (skW n b k) < n := fun z => h_1 ((nI_ltI (show (skW n b k) < 2 ^ 31 by omega) (show n < 2 ^ 31 by omega)).mpr z)
    exfalso; omega
set_option maxHeartbeats 1000000 in
set_option maxRecDepth 100000 in
theorem tl_M_step_ln (d : Nat) (C : wd_C) (Y : wd_Y) (og : Nat → Int64) (n : Nat) (b : Nat → Int32) (k nv u : Nat) (V : VT) (no : Int32) (hI : ryI Y n b k nv u V no) (hk : k ≤ n) (hok : vok nv V) (huk : u ≤ k) (h3 : nv < 300) (hlt : skW n b k < n) (hb1 : b (skW n b k) = 47)  : am_Rn l D cA ad fm (d + 6) m_M_step (wd C Y og).length (fun vr w' => (∃ c p, lfR n b (skW n b k) = .inl (c, p) ∧ vr = some (.int (-1)) ∧ lfQ (upd Y.1 6 (nI (skW n b k)), Y.2) C og nv u V (.inl (c, p)) (some (.int 0)) w') ∨ (∃ kd nu acc k1 bit, lfR n b (skW n b k) = .inr (kd, nu, acc, k1, bit) ∧ vr = some (.int (nI nv)) ∧ lfQ (upd Y.1 6 (nI (skW n b k)), Y.2) C og nv u V (.inr (kd, nu, acc, k1, bit)) (some (.int 1)) w')) (250, [some (.ref 19), some (.int (b (skW n b k))), none, none, none], [], wd C (upd Y.1 6 (nI (skW n b k)), Y.2) og) := by
  have hT := hI.1
  have hn := hT.2.1
  have hnv := hI.2.2.2.2.1.2.1
  have hsk := skW_le n b hk
  have elf : lfR n b (skW n b k) = nmL (skW n b k) (nmR b (wEnd n b (skW n b k + 1)) 2000 (skW n b k + 1) []) := by rw [lfR, if_pos hb1]
  refine am_steps_r ok_M_step 7 (q' := (bif decide ((nI (skW n b k)) < (Y.1 1)) then 276 else 263, [some (.ref 19), some (.int (b (skW n b k))), some (.int 1), none, none], [], wd C (upd Y.1 6 (nI (skW n b k)), Y.2) og)) rfl ?_
  rw [show (Y.1 1 : Int32) = nI n from hI.1.1]
  refine am_br_r (fun h_1 => ?_) (fun h_1 => ?_)
  · skip
    have h_1 : (skW n b k) < n := (nI_ltI (show (skW n b k) < 2 ^ 31 by omega) (show n < 2 ^ 31 by omega)).mp h_1
    refine am_steps_r ok_M_step 3 (q' := (bif decide ((b (skW n b k)) = 91) then 282 else 292, [some (.ref 19), some (.int (b (skW n b k))), some (.int 1), none, none], [], wd C (upd Y.1 6 (nI (skW n b k)), Y.2) og)) rfl ?_
    refine am_br_r (fun h_2 => ?_) (fun h_2 => ?_)
    · skip
      first | exact absurd h_2 (by assumption) | exact absurd (hb1.symm.trans h_2) (by decide)
    · skip
      refine am_steps_r ok_M_step 3 (q' := (bif decide ((b (skW n b k)) = 60) then 298 else 323, [some (.ref 19), some (.int (b (skW n b k))), some (.int 1), none, none], [], wd C (upd Y.1 6 (nI (skW n b k)), Y.2) og)) rfl ?_
      refine am_br_r (fun h_3 => ?_) (fun h_3 => ?_)
      · skip
        first | exact absurd h_3 (by assumption) | exact absurd (hb1.symm.trans h_3) (by decide)
      · skip
        refine am_steps_r ok_M_step 3 (q' := (bif decide ((b (skW n b k)) = 60) then 329 else 337, [some (.ref 19), some (.int (b (skW n b k))), some (.int 1), none, none], [], wd C (upd Y.1 6 (nI (skW n b k)), Y.2) og)) rfl ?_
        refine am_br_r (fun h_4 => ?_) (fun h_4 => ?_)
        · skip
          first | contradiction | (exfalso; simp_all; done)
        · skip
          refine am_steps_r ok_M_step 3 (q' := (bif decide ((b (skW n b k)) = 40) then 343 else 351, [some (.ref 19), some (.int (b (skW n b k))), some (.int 1), none, none], [], wd C (upd Y.1 6 (nI (skW n b k)), Y.2) og)) rfl ?_
          refine am_br_r (fun h_5 => ?_) (fun h_5 => ?_)
          · skip
            first | exact absurd h_5 (by assumption) | exact absurd (hb1.symm.trans h_5) (by decide)
          · skip
            refine am_steps_r ok_M_step 3 (q' := (bif decide ((b (skW n b k)) = 47) then 357 else 365, [some (.ref 19), some (.int (b (skW n b k))), some (.int 1), none, none], [], wd C (upd Y.1 6 (nI (skW n b k)), Y.2) og)) rfl ?_
            refine am_br_r (fun h_6 => ?_) (fun h_6 => ?_)
            · skip
              refine am_steps_r ok_M_step 1 (q' := (358, [some (.ref 19), some (.int (b (skW n b k))), some (.int 1), none, none], [.ref 19], wd C (upd Y.1 6 (nI (skW n b k)), Y.2) og)) rfl ?_
              refine am_callV_r (As := []) (rest := []) ok_M_step rfl rfl ok_M_readName oi_M_readName lk_6_211 (Or.inl ⟨_, _, _, rfl, rfl, rfl⟩) rfl rfl (Nat.le_of_ble_eq_true rfl) (c_M_readName _ C (upd Y.1 6 (nI (skW n b k)), Y.2) og n b hI.1 nv u V hI.2.2.2.2 hok h3 (skW n b k) rfl hlt (by omega)) ?_
              rintro v_ w_ hLq -
              rw [← elf] at hLq
              rcases hlr : lfR n b (skW n b k) with ⟨c, p⟩ | ⟨kd, nu, acc, k1, bit⟩
              · rw [hlr] at hLq
                have hLq1 := hLq
                obtain ⟨rfl, Y1, rfl, f7, f8, f9, ff, fl, nv9, V9, g1, g2, g3⟩ := hLq
                refine am_eq_r (q' := (361, [some (.ref 19), some (.int (b (skW n b k))), some (.int 1), none, none], [.int 0], wd C Y1 og)) rfl ?_
                refine am_steps_r ok_M_step 5 (q' := (404, [some (.ref 19), some (.int (b (skW n b k))), some (.int 0), none, none], [.int (-1)], wd C Y1 og)) rfl ?_
                refine am_iret_r ok_M_step rfl rfl rfl ?_
                exact Or.inl ⟨c, p, rfl, rfl, hLq1⟩
              · rw [hlr] at hLq
                have hLq1 := hLq
                obtain ⟨rfl, Y1, rfl, f6, f7, f9, ff, fl, g1⟩ := hLq
                refine am_eq_r (q' := (361, [some (.ref 19), some (.int (b (skW n b k))), some (.int 1), none, none], [.int 1], wd C Y1 og)) rfl ?_
                refine am_steps_r ok_M_step 9 (q' := (404, [some (.ref 19), some (.int (b (skW n b k))), some (.int 1), none, none], [.int ((Y1.1 4) - 1)], wd C Y1 og)) rfl ?_
                rw [show (Y1.1 4 : Int32) = nI (nv + 1) from g1.1.1]
                rw [show ((nI (nv + 1)) - 1 : Int32) = nI nv from pk_sub (a := nv + 1) (b := 1) (by omega)]
                refine am_iret_r ok_M_step rfl rfl rfl ?_
                exact Or.inr ⟨kd, nu, acc, k1, bit, rfl, rfl, hLq1⟩
            · skip
              exact absurd (by assumption) h_6
  · skip
    have h_1 : ¬ (skW n b k) < n := fun z => h_1 ((nI_ltI (show (skW n b k) < 2 ^ 31 by omega) (show n < 2 ^ 31 by omega)).mpr z)
    exfalso; omega
set_option maxHeartbeats 1000000 in
set_option maxRecDepth 100000 in
theorem tl_M_step_fn (d : Nat) (C : wd_C) (Y : wd_Y) (og : Nat → Int64) (n : Nat) (b : Nat → Int32) (k nv u : Nat) (V : VT) (no : Int32) (hI : ryI Y n b k nv u V no) (hk : k ≤ n) (h3 : nv = 300) (hlt : skW n b k < n) (hb1 : b (skW n b k) = 47)  : am_Rn l D cA ad fm (d + 6) m_M_step (wd C Y og).length (fun vr w' => vr = some (.int (-1)) ∧ w' = wd C (upd (upd (upd Y.1 6 (nI (skW n b k))) 7 6) 8 (nI (skW n b k)), Y.2) og) (250, [some (.ref 19), some (.int (b (skW n b k))), none, none, none], [], wd C (upd Y.1 6 (nI (skW n b k)), Y.2) og) := by
  have hT := hI.1
  have hn := hT.2.1
  have hnv := hI.2.2.2.2.1.2.1
  have hsk := skW_le n b hk
  refine am_steps_r ok_M_step 7 (q' := (bif decide ((nI (skW n b k)) < (Y.1 1)) then 276 else 263, [some (.ref 19), some (.int (b (skW n b k))), some (.int 1), none, none], [], wd C (upd Y.1 6 (nI (skW n b k)), Y.2) og)) rfl ?_
  rw [show (Y.1 1 : Int32) = nI n from hI.1.1]
  refine am_br_r (fun h_1 => ?_) (fun h_1 => ?_)
  · skip
    have h_1 : (skW n b k) < n := (nI_ltI (show (skW n b k) < 2 ^ 31 by omega) (show n < 2 ^ 31 by omega)).mp h_1
    refine am_steps_r ok_M_step 3 (q' := (bif decide ((b (skW n b k)) = 91) then 282 else 292, [some (.ref 19), some (.int (b (skW n b k))), some (.int 1), none, none], [], wd C (upd Y.1 6 (nI (skW n b k)), Y.2) og)) rfl ?_
    refine am_br_r (fun h_2 => ?_) (fun h_2 => ?_)
    · skip
      first | exact absurd h_2 (by assumption) | exact absurd (hb1.symm.trans h_2) (by decide)
    · skip
      refine am_steps_r ok_M_step 3 (q' := (bif decide ((b (skW n b k)) = 60) then 298 else 323, [some (.ref 19), some (.int (b (skW n b k))), some (.int 1), none, none], [], wd C (upd Y.1 6 (nI (skW n b k)), Y.2) og)) rfl ?_
      refine am_br_r (fun h_3 => ?_) (fun h_3 => ?_)
      · skip
        first | exact absurd h_3 (by assumption) | exact absurd (hb1.symm.trans h_3) (by decide)
      · skip
        refine am_steps_r ok_M_step 3 (q' := (bif decide ((b (skW n b k)) = 60) then 329 else 337, [some (.ref 19), some (.int (b (skW n b k))), some (.int 1), none, none], [], wd C (upd Y.1 6 (nI (skW n b k)), Y.2) og)) rfl ?_
        refine am_br_r (fun h_4 => ?_) (fun h_4 => ?_)
        · skip
          first | contradiction | (exfalso; simp_all; done)
        · skip
          refine am_steps_r ok_M_step 3 (q' := (bif decide ((b (skW n b k)) = 40) then 343 else 351, [some (.ref 19), some (.int (b (skW n b k))), some (.int 1), none, none], [], wd C (upd Y.1 6 (nI (skW n b k)), Y.2) og)) rfl ?_
          refine am_br_r (fun h_5 => ?_) (fun h_5 => ?_)
          · skip
            first | exact absurd h_5 (by assumption) | exact absurd (hb1.symm.trans h_5) (by decide)
          · skip
            refine am_steps_r ok_M_step 3 (q' := (bif decide ((b (skW n b k)) = 47) then 357 else 365, [some (.ref 19), some (.int (b (skW n b k))), some (.int 1), none, none], [], wd C (upd Y.1 6 (nI (skW n b k)), Y.2) og)) rfl ?_
            refine am_br_r (fun h_6 => ?_) (fun h_6 => ?_)
            · skip
              refine am_steps_r ok_M_step 1 (q' := (358, [some (.ref 19), some (.int (b (skW n b k))), some (.int 1), none, none], [.ref 19], wd C (upd Y.1 6 (nI (skW n b k)), Y.2) og)) rfl ?_
              refine am_callV_r (As := []) (rest := []) ok_M_step rfl rfl ok_M_readName oi_M_readName lk_6_211 (Or.inl ⟨_, _, _, rfl, rfl, rfl⟩) rfl rfl (Nat.le_of_ble_eq_true rfl) (c_M_readName_full _ C (upd Y.1 6 (nI (skW n b k)), Y.2) og n b hI.1 nv u V hI.2.2.2.2 h3 (skW n b k) rfl) ?_
              rintro v_ w_ ⟨rfl, rfl⟩ -
              refine am_eq_r (q' := (361, [some (.ref 19), some (.int (b (skW n b k))), some (.int 1), none, none], [.int 0], wd C (upd (upd (upd Y.1 6 (nI (skW n b k))) 7 6) 8 (nI (skW n b k)), Y.2) og)) rfl ?_
              refine am_steps_r ok_M_step 5 (q' := (404, [some (.ref 19), some (.int (b (skW n b k))), some (.int 0), none, none], [.int (-1)], wd C (upd (upd (upd Y.1 6 (nI (skW n b k))) 7 6) 8 (nI (skW n b k)), Y.2) og)) rfl ?_
              refine am_iret_r ok_M_step rfl rfl rfl ?_
              exact ⟨rfl, rfl⟩
            · skip
              exact absurd (by assumption) h_6
  · skip
    have h_1 : ¬ (skW n b k) < n := fun z => h_1 ((nI_ltI (show (skW n b k) < 2 ^ 31 by omega) (show n < 2 ^ 31 by omega)).mpr z)
    exfalso; omega
set_option maxHeartbeats 1000000 in
set_option maxRecDepth 100000 in
theorem tl_M_step_lr (d : Nat) (C : wd_C) (Y : wd_Y) (og : Nat → Int64) (n : Nat) (b : Nat → Int32) (k nv u : Nat) (V : VT) (no : Int32) (hI : ryI Y n b k nv u V no) (hk : k ≤ n) (hok : vok nv V) (huk : u ≤ k) (h3 : nv < 300) (hlt : skW n b k < n) (hb1 : b (skW n b k) = 40)  : am_Rn l D cA ad fm (d + 6) m_M_step (wd C Y og).length (fun vr w' => (∃ c p, lfR n b (skW n b k) = .inl (c, p) ∧ vr = some (.int (-1)) ∧ lfQ (upd Y.1 6 (nI (skW n b k)), Y.2) C og nv u V (.inl (c, p)) (some (.int 0)) w') ∨ (∃ kd nu acc k1 bit, lfR n b (skW n b k) = .inr (kd, nu, acc, k1, bit) ∧ vr = some (.int (nI nv)) ∧ lfQ (upd Y.1 6 (nI (skW n b k)), Y.2) C og nv u V (.inr (kd, nu, acc, k1, bit)) (some (.int 1)) w')) (250, [some (.ref 19), some (.int (b (skW n b k))), none, none, none], [], wd C (upd Y.1 6 (nI (skW n b k)), Y.2) og) := by
  have hT := hI.1
  have hn := hT.2.1
  have hnv := hI.2.2.2.2.1.2.1
  have hsk := skW_le n b hk
  have elf : lfR n b (skW n b k) = rdR n b (skW n b k) 2000 (skW n b k + 1) 1 [] := by rw [lfR, if_neg (by rw [hb1]; decide), if_pos hb1]
  refine am_steps_r ok_M_step 7 (q' := (bif decide ((nI (skW n b k)) < (Y.1 1)) then 276 else 263, [some (.ref 19), some (.int (b (skW n b k))), some (.int 1), none, none], [], wd C (upd Y.1 6 (nI (skW n b k)), Y.2) og)) rfl ?_
  rw [show (Y.1 1 : Int32) = nI n from hI.1.1]
  refine am_br_r (fun h_1 => ?_) (fun h_1 => ?_)
  · skip
    have h_1 : (skW n b k) < n := (nI_ltI (show (skW n b k) < 2 ^ 31 by omega) (show n < 2 ^ 31 by omega)).mp h_1
    refine am_steps_r ok_M_step 3 (q' := (bif decide ((b (skW n b k)) = 91) then 282 else 292, [some (.ref 19), some (.int (b (skW n b k))), some (.int 1), none, none], [], wd C (upd Y.1 6 (nI (skW n b k)), Y.2) og)) rfl ?_
    refine am_br_r (fun h_2 => ?_) (fun h_2 => ?_)
    · skip
      first | exact absurd h_2 (by assumption) | exact absurd (hb1.symm.trans h_2) (by decide)
    · skip
      refine am_steps_r ok_M_step 3 (q' := (bif decide ((b (skW n b k)) = 60) then 298 else 323, [some (.ref 19), some (.int (b (skW n b k))), some (.int 1), none, none], [], wd C (upd Y.1 6 (nI (skW n b k)), Y.2) og)) rfl ?_
      refine am_br_r (fun h_3 => ?_) (fun h_3 => ?_)
      · skip
        first | exact absurd h_3 (by assumption) | exact absurd (hb1.symm.trans h_3) (by decide)
      · skip
        refine am_steps_r ok_M_step 3 (q' := (bif decide ((b (skW n b k)) = 60) then 329 else 337, [some (.ref 19), some (.int (b (skW n b k))), some (.int 1), none, none], [], wd C (upd Y.1 6 (nI (skW n b k)), Y.2) og)) rfl ?_
        refine am_br_r (fun h_4 => ?_) (fun h_4 => ?_)
        · skip
          first | contradiction | (exfalso; simp_all; done)
        · skip
          refine am_steps_r ok_M_step 3 (q' := (bif decide ((b (skW n b k)) = 40) then 343 else 351, [some (.ref 19), some (.int (b (skW n b k))), some (.int 1), none, none], [], wd C (upd Y.1 6 (nI (skW n b k)), Y.2) og)) rfl ?_
          refine am_br_r (fun h_5 => ?_) (fun h_5 => ?_)
          · skip
            refine am_steps_r ok_M_step 1 (q' := (344, [some (.ref 19), some (.int (b (skW n b k))), some (.int 1), none, none], [.ref 19], wd C (upd Y.1 6 (nI (skW n b k)), Y.2) og)) rfl ?_
            refine am_callV_r (As := []) (rest := []) ok_M_step rfl rfl ok_M_readRound oi_M_readRound lk_6_221 (Or.inl ⟨_, _, _, rfl, rfl, rfl⟩) rfl rfl (Nat.le_of_ble_eq_true rfl) (c_M_readRound _ C (upd Y.1 6 (nI (skW n b k)), Y.2) og n b hI.1 nv u V hI.2.2.2.2 hok h3 (skW n b k) rfl hlt (by omega)) ?_
            rintro v_ w_ hLq -
            rw [← elf] at hLq
            rcases hlr : lfR n b (skW n b k) with ⟨c, p⟩ | ⟨kd, nu, acc, k1, bit⟩
            · rw [hlr] at hLq
              have hLq1 := hLq
              obtain ⟨rfl, Y1, rfl, f7, f8, f9, ff, fl, nv9, V9, g1, g2, g3⟩ := hLq
              refine am_eq_r (q' := (347, [some (.ref 19), some (.int (b (skW n b k))), some (.int 1), none, none], [.int 0], wd C Y1 og)) rfl ?_
              refine am_steps_r ok_M_step 5 (q' := (404, [some (.ref 19), some (.int (b (skW n b k))), some (.int 0), none, none], [.int (-1)], wd C Y1 og)) rfl ?_
              refine am_iret_r ok_M_step rfl rfl rfl ?_
              exact Or.inl ⟨c, p, rfl, rfl, hLq1⟩
            · rw [hlr] at hLq
              have hLq1 := hLq
              obtain ⟨rfl, Y1, rfl, f6, f7, f9, ff, fl, g1⟩ := hLq
              refine am_eq_r (q' := (347, [some (.ref 19), some (.int (b (skW n b k))), some (.int 1), none, none], [.int 1], wd C Y1 og)) rfl ?_
              refine am_steps_r ok_M_step 9 (q' := (404, [some (.ref 19), some (.int (b (skW n b k))), some (.int 1), none, none], [.int ((Y1.1 4) - 1)], wd C Y1 og)) rfl ?_
              rw [show (Y1.1 4 : Int32) = nI (nv + 1) from g1.1.1]
              rw [show ((nI (nv + 1)) - 1 : Int32) = nI nv from pk_sub (a := nv + 1) (b := 1) (by omega)]
              refine am_iret_r ok_M_step rfl rfl rfl ?_
              exact Or.inr ⟨kd, nu, acc, k1, bit, rfl, rfl, hLq1⟩
          · skip
            exact absurd (by assumption) h_5
  · skip
    have h_1 : ¬ (skW n b k) < n := fun z => h_1 ((nI_ltI (show (skW n b k) < 2 ^ 31 by omega) (show n < 2 ^ 31 by omega)).mpr z)
    exfalso; omega
set_option maxHeartbeats 1000000 in
set_option maxRecDepth 100000 in
theorem tl_M_step_fr (d : Nat) (C : wd_C) (Y : wd_Y) (og : Nat → Int64) (n : Nat) (b : Nat → Int32) (k nv u : Nat) (V : VT) (no : Int32) (hI : ryI Y n b k nv u V no) (hk : k ≤ n) (h3 : nv = 300) (hlt : skW n b k < n) (hb1 : b (skW n b k) = 40)  : am_Rn l D cA ad fm (d + 6) m_M_step (wd C Y og).length (fun vr w' => vr = some (.int (-1)) ∧ w' = wd C (upd (upd (upd Y.1 6 (nI (skW n b k))) 7 6) 8 (nI (skW n b k)), Y.2) og) (250, [some (.ref 19), some (.int (b (skW n b k))), none, none, none], [], wd C (upd Y.1 6 (nI (skW n b k)), Y.2) og) := by
  have hT := hI.1
  have hn := hT.2.1
  have hnv := hI.2.2.2.2.1.2.1
  have hsk := skW_le n b hk
  refine am_steps_r ok_M_step 7 (q' := (bif decide ((nI (skW n b k)) < (Y.1 1)) then 276 else 263, [some (.ref 19), some (.int (b (skW n b k))), some (.int 1), none, none], [], wd C (upd Y.1 6 (nI (skW n b k)), Y.2) og)) rfl ?_
  rw [show (Y.1 1 : Int32) = nI n from hI.1.1]
  refine am_br_r (fun h_1 => ?_) (fun h_1 => ?_)
  · skip
    have h_1 : (skW n b k) < n := (nI_ltI (show (skW n b k) < 2 ^ 31 by omega) (show n < 2 ^ 31 by omega)).mp h_1
    refine am_steps_r ok_M_step 3 (q' := (bif decide ((b (skW n b k)) = 91) then 282 else 292, [some (.ref 19), some (.int (b (skW n b k))), some (.int 1), none, none], [], wd C (upd Y.1 6 (nI (skW n b k)), Y.2) og)) rfl ?_
    refine am_br_r (fun h_2 => ?_) (fun h_2 => ?_)
    · skip
      first | exact absurd h_2 (by assumption) | exact absurd (hb1.symm.trans h_2) (by decide)
    · skip
      refine am_steps_r ok_M_step 3 (q' := (bif decide ((b (skW n b k)) = 60) then 298 else 323, [some (.ref 19), some (.int (b (skW n b k))), some (.int 1), none, none], [], wd C (upd Y.1 6 (nI (skW n b k)), Y.2) og)) rfl ?_
      refine am_br_r (fun h_3 => ?_) (fun h_3 => ?_)
      · skip
        first | exact absurd h_3 (by assumption) | exact absurd (hb1.symm.trans h_3) (by decide)
      · skip
        refine am_steps_r ok_M_step 3 (q' := (bif decide ((b (skW n b k)) = 60) then 329 else 337, [some (.ref 19), some (.int (b (skW n b k))), some (.int 1), none, none], [], wd C (upd Y.1 6 (nI (skW n b k)), Y.2) og)) rfl ?_
        refine am_br_r (fun h_4 => ?_) (fun h_4 => ?_)
        · skip
          first | contradiction | (exfalso; simp_all; done)
        · skip
          refine am_steps_r ok_M_step 3 (q' := (bif decide ((b (skW n b k)) = 40) then 343 else 351, [some (.ref 19), some (.int (b (skW n b k))), some (.int 1), none, none], [], wd C (upd Y.1 6 (nI (skW n b k)), Y.2) og)) rfl ?_
          refine am_br_r (fun h_5 => ?_) (fun h_5 => ?_)
          · skip
            refine am_steps_r ok_M_step 1 (q' := (344, [some (.ref 19), some (.int (b (skW n b k))), some (.int 1), none, none], [.ref 19], wd C (upd Y.1 6 (nI (skW n b k)), Y.2) og)) rfl ?_
            refine am_callV_r (As := []) (rest := []) ok_M_step rfl rfl ok_M_readRound oi_M_readRound lk_6_221 (Or.inl ⟨_, _, _, rfl, rfl, rfl⟩) rfl rfl (Nat.le_of_ble_eq_true rfl) (c_M_readRound_full _ C (upd Y.1 6 (nI (skW n b k)), Y.2) og n b hI.1 nv u V hI.2.2.2.2 h3 (skW n b k) rfl) ?_
            rintro v_ w_ ⟨rfl, rfl⟩ -
            refine am_eq_r (q' := (347, [some (.ref 19), some (.int (b (skW n b k))), some (.int 1), none, none], [.int 0], wd C (upd (upd (upd Y.1 6 (nI (skW n b k))) 7 6) 8 (nI (skW n b k)), Y.2) og)) rfl ?_
            refine am_steps_r ok_M_step 5 (q' := (404, [some (.ref 19), some (.int (b (skW n b k))), some (.int 0), none, none], [.int (-1)], wd C (upd (upd (upd Y.1 6 (nI (skW n b k))) 7 6) 8 (nI (skW n b k)), Y.2) og)) rfl ?_
            refine am_iret_r ok_M_step rfl rfl rfl ?_
            exact ⟨rfl, rfl⟩
          · skip
            exact absurd (by assumption) h_5
  · skip
    have h_1 : ¬ (skW n b k) < n := fun z => h_1 ((nI_ltI (show (skW n b k) < 2 ^ 31 by omega) (show n < 2 ^ 31 by omega)).mpr z)
    exfalso; omega
set_option maxHeartbeats 1000000 in
set_option maxRecDepth 100000 in
theorem tl_M_step_la (d : Nat) (C : wd_C) (Y : wd_Y) (og : Nat → Int64) (n : Nat) (b : Nat → Int32) (k nv u : Nat) (V : VT) (no : Int32) (hI : ryI Y n b k nv u V no) (hk : k ≤ n) (hok : vok nv V) (huk : u ≤ k) (h3 : nv < 300) (hlt : skW n b k < n) (hb1 : b (skW n b k) = 60) (hb2 : ¬ b (skW n b k + 1) = 60)  : am_Rn l D cA ad fm (d + 6) m_M_step (wd C Y og).length (fun vr w' => (∃ c p, lfR n b (skW n b k) = .inl (c, p) ∧ vr = some (.int (-1)) ∧ lfQ (upd Y.1 6 (nI (skW n b k)), Y.2) C og nv u V (.inl (c, p)) (some (.int 0)) w') ∨ (∃ kd nu acc k1 bit, lfR n b (skW n b k) = .inr (kd, nu, acc, k1, bit) ∧ vr = some (.int (nI nv)) ∧ lfQ (upd Y.1 6 (nI (skW n b k)), Y.2) C og nv u V (.inr (kd, nu, acc, k1, bit)) (some (.int 1)) w')) (250, [some (.ref 19), some (.int (b (skW n b k))), none, none, none], [], wd C (upd Y.1 6 (nI (skW n b k)), Y.2) og) := by
  have hT := hI.1
  have hn := hT.2.1
  have hnv := hI.2.2.2.2.1.2.1
  have hsk := skW_le n b hk
  have elf : lfR n b (skW n b k) = anR n b (skW n b k) 2000 (skW n b k + 1) (-1) [] := by rw [lfR, if_neg (by rw [hb1]; decide), if_neg (by rw [hb1]; decide), if_pos hb1]
  refine am_steps_r ok_M_step 7 (q' := (bif decide ((nI (skW n b k)) < (Y.1 1)) then 276 else 263, [some (.ref 19), some (.int (b (skW n b k))), some (.int 1), none, none], [], wd C (upd Y.1 6 (nI (skW n b k)), Y.2) og)) rfl ?_
  rw [show (Y.1 1 : Int32) = nI n from hI.1.1]
  refine am_br_r (fun h_1 => ?_) (fun h_1 => ?_)
  · skip
    have h_1 : (skW n b k) < n := (nI_ltI (show (skW n b k) < 2 ^ 31 by omega) (show n < 2 ^ 31 by omega)).mp h_1
    refine am_steps_r ok_M_step 3 (q' := (bif decide ((b (skW n b k)) = 91) then 282 else 292, [some (.ref 19), some (.int (b (skW n b k))), some (.int 1), none, none], [], wd C (upd Y.1 6 (nI (skW n b k)), Y.2) og)) rfl ?_
    refine am_br_r (fun h_2 => ?_) (fun h_2 => ?_)
    · skip
      first | exact absurd h_2 (by assumption) | exact absurd (hb1.symm.trans h_2) (by decide)
    · skip
      refine am_steps_r ok_M_step 3 (q' := (bif decide ((b (skW n b k)) = 60) then 298 else 323, [some (.ref 19), some (.int (b (skW n b k))), some (.int 1), none, none], [], wd C (upd Y.1 6 (nI (skW n b k)), Y.2) og)) rfl ?_
      refine am_br_r (fun h_3 => ?_) (fun h_3 => ?_)
      · skip
        refine am_steps_r ok_M_step 5 (q' := (305, [some (.ref 19), some (.int (b (skW n b k))), some (.int 1), none, none], [.int ((nI (skW n b k)) + 1), .ref 19], wd C (upd Y.1 6 (nI (skW n b k)), Y.2) og)) rfl ?_
        rw [show ((nI (skW n b k)) + 1 : Int32) = nI ((skW n b k) + 1) from nI_add (skW n b k) 1]
        refine am_callV_r (As := [.int (nI ((skW n b k) + 1))]) (rest := []) ok_M_step rfl rfl ok_M_byteAt oi_M_byteAt lk_6_78 (Or.inl ⟨_, _, _, rfl, rfl, rfl⟩) rfl rfl (Nat.le_of_ble_eq_true rfl) (c_M_byteAt _ C (upd Y.1 6 (nI (skW n b k)), Y.2) og n b hT ((skW n b k) + 1) (by omega)) ?_
        rintro v_ w_ ⟨rfl, rfl⟩ -
        refine am_eq_r (q' := (308, [some (.ref 19), some (.int (b (skW n b k))), some (.int 1), none, none], [.int (b ((skW n b k) + 1))], wd C (upd Y.1 6 (nI (skW n b k)), Y.2) og)) rfl ?_
        refine am_steps_r ok_M_step 2 (q' := (bif decide ((b ((skW n b k) + 1)) = 60) then 313 else 323, [some (.ref 19), some (.int (b (skW n b k))), some (.int 1), none, none], [], wd C (upd Y.1 6 (nI (skW n b k)), Y.2) og)) rfl ?_
        refine am_br_r (fun h_5 => ?_) (fun h_5 => ?_)
        · skip
          first | exact absurd h_5 (by assumption) | exact absurd (hb1.symm.trans h_5) (by decide)
        · skip
          refine am_steps_r ok_M_step 3 (q' := (bif decide ((b (skW n b k)) = 60) then 329 else 337, [some (.ref 19), some (.int (b (skW n b k))), some (.int 1), none, none], [], wd C (upd Y.1 6 (nI (skW n b k)), Y.2) og)) rfl ?_
          refine am_br_r (fun h_6 => ?_) (fun h_6 => ?_)
          · skip
            refine am_steps_r ok_M_step 1 (q' := (330, [some (.ref 19), some (.int (b (skW n b k))), some (.int 1), none, none], [.ref 19], wd C (upd Y.1 6 (nI (skW n b k)), Y.2) og)) rfl ?_
            refine am_callV_r (As := []) (rest := []) ok_M_step rfl rfl ok_M_readAngled oi_M_readAngled lk_6_218 (Or.inl ⟨_, _, _, rfl, rfl, rfl⟩) rfl rfl (Nat.le_of_ble_eq_true rfl) (c_M_readAngled _ C (upd Y.1 6 (nI (skW n b k)), Y.2) og n b hI.1 nv u V hI.2.2.2.2 hok h3 (skW n b k) rfl hlt (by omega)) ?_
            rintro v_ w_ hLq -
            rw [← elf] at hLq
            rcases hlr : lfR n b (skW n b k) with ⟨c, p⟩ | ⟨kd, nu, acc, k1, bit⟩
            · rw [hlr] at hLq
              have hLq1 := hLq
              obtain ⟨rfl, Y1, rfl, f7, f8, f9, ff, fl, nv9, V9, g1, g2, g3⟩ := hLq
              refine am_eq_r (q' := (333, [some (.ref 19), some (.int (b (skW n b k))), some (.int 1), none, none], [.int 0], wd C Y1 og)) rfl ?_
              refine am_steps_r ok_M_step 5 (q' := (404, [some (.ref 19), some (.int (b (skW n b k))), some (.int 0), none, none], [.int (-1)], wd C Y1 og)) rfl ?_
              refine am_iret_r ok_M_step rfl rfl rfl ?_
              exact Or.inl ⟨c, p, rfl, rfl, hLq1⟩
            · rw [hlr] at hLq
              have hLq1 := hLq
              obtain ⟨rfl, Y1, rfl, f6, f7, f9, ff, fl, g1⟩ := hLq
              refine am_eq_r (q' := (333, [some (.ref 19), some (.int (b (skW n b k))), some (.int 1), none, none], [.int 1], wd C Y1 og)) rfl ?_
              refine am_steps_r ok_M_step 9 (q' := (404, [some (.ref 19), some (.int (b (skW n b k))), some (.int 1), none, none], [.int ((Y1.1 4) - 1)], wd C Y1 og)) rfl ?_
              rw [show (Y1.1 4 : Int32) = nI (nv + 1) from g1.1.1]
              rw [show ((nI (nv + 1)) - 1 : Int32) = nI nv from pk_sub (a := nv + 1) (b := 1) (by omega)]
              refine am_iret_r ok_M_step rfl rfl rfl ?_
              exact Or.inr ⟨kd, nu, acc, k1, bit, rfl, rfl, hLq1⟩
          · skip
            first | contradiction | (exfalso; simp_all; done)
      · skip
        exact absurd (by assumption) h_3
  · skip
    have h_1 : ¬ (skW n b k) < n := fun z => h_1 ((nI_ltI (show (skW n b k) < 2 ^ 31 by omega) (show n < 2 ^ 31 by omega)).mpr z)
    exfalso; omega
set_option maxHeartbeats 1000000 in
set_option maxRecDepth 100000 in
theorem tl_M_step_fa (d : Nat) (C : wd_C) (Y : wd_Y) (og : Nat → Int64) (n : Nat) (b : Nat → Int32) (k nv u : Nat) (V : VT) (no : Int32) (hI : ryI Y n b k nv u V no) (hk : k ≤ n) (h3 : nv = 300) (hlt : skW n b k < n) (hb1 : b (skW n b k) = 60) (hb2 : ¬ b (skW n b k + 1) = 60)  : am_Rn l D cA ad fm (d + 6) m_M_step (wd C Y og).length (fun vr w' => vr = some (.int (-1)) ∧ w' = wd C (upd (upd (upd Y.1 6 (nI (skW n b k))) 7 6) 8 (nI (skW n b k)), Y.2) og) (250, [some (.ref 19), some (.int (b (skW n b k))), none, none, none], [], wd C (upd Y.1 6 (nI (skW n b k)), Y.2) og) := by
  have hT := hI.1
  have hn := hT.2.1
  have hnv := hI.2.2.2.2.1.2.1
  have hsk := skW_le n b hk
  refine am_steps_r ok_M_step 7 (q' := (bif decide ((nI (skW n b k)) < (Y.1 1)) then 276 else 263, [some (.ref 19), some (.int (b (skW n b k))), some (.int 1), none, none], [], wd C (upd Y.1 6 (nI (skW n b k)), Y.2) og)) rfl ?_
  rw [show (Y.1 1 : Int32) = nI n from hI.1.1]
  refine am_br_r (fun h_1 => ?_) (fun h_1 => ?_)
  · skip
    have h_1 : (skW n b k) < n := (nI_ltI (show (skW n b k) < 2 ^ 31 by omega) (show n < 2 ^ 31 by omega)).mp h_1
    refine am_steps_r ok_M_step 3 (q' := (bif decide ((b (skW n b k)) = 91) then 282 else 292, [some (.ref 19), some (.int (b (skW n b k))), some (.int 1), none, none], [], wd C (upd Y.1 6 (nI (skW n b k)), Y.2) og)) rfl ?_
    refine am_br_r (fun h_2 => ?_) (fun h_2 => ?_)
    · skip
      first | exact absurd h_2 (by assumption) | exact absurd (hb1.symm.trans h_2) (by decide)
    · skip
      refine am_steps_r ok_M_step 3 (q' := (bif decide ((b (skW n b k)) = 60) then 298 else 323, [some (.ref 19), some (.int (b (skW n b k))), some (.int 1), none, none], [], wd C (upd Y.1 6 (nI (skW n b k)), Y.2) og)) rfl ?_
      refine am_br_r (fun h_3 => ?_) (fun h_3 => ?_)
      · skip
        refine am_steps_r ok_M_step 5 (q' := (305, [some (.ref 19), some (.int (b (skW n b k))), some (.int 1), none, none], [.int ((nI (skW n b k)) + 1), .ref 19], wd C (upd Y.1 6 (nI (skW n b k)), Y.2) og)) rfl ?_
        rw [show ((nI (skW n b k)) + 1 : Int32) = nI ((skW n b k) + 1) from nI_add (skW n b k) 1]
        refine am_callV_r (As := [.int (nI ((skW n b k) + 1))]) (rest := []) ok_M_step rfl rfl ok_M_byteAt oi_M_byteAt lk_6_78 (Or.inl ⟨_, _, _, rfl, rfl, rfl⟩) rfl rfl (Nat.le_of_ble_eq_true rfl) (c_M_byteAt _ C (upd Y.1 6 (nI (skW n b k)), Y.2) og n b hT ((skW n b k) + 1) (by omega)) ?_
        rintro v_ w_ ⟨rfl, rfl⟩ -
        refine am_eq_r (q' := (308, [some (.ref 19), some (.int (b (skW n b k))), some (.int 1), none, none], [.int (b ((skW n b k) + 1))], wd C (upd Y.1 6 (nI (skW n b k)), Y.2) og)) rfl ?_
        refine am_steps_r ok_M_step 2 (q' := (bif decide ((b ((skW n b k) + 1)) = 60) then 313 else 323, [some (.ref 19), some (.int (b (skW n b k))), some (.int 1), none, none], [], wd C (upd Y.1 6 (nI (skW n b k)), Y.2) og)) rfl ?_
        refine am_br_r (fun h_5 => ?_) (fun h_5 => ?_)
        · skip
          first | exact absurd h_5 (by assumption) | exact absurd (hb1.symm.trans h_5) (by decide)
        · skip
          refine am_steps_r ok_M_step 3 (q' := (bif decide ((b (skW n b k)) = 60) then 329 else 337, [some (.ref 19), some (.int (b (skW n b k))), some (.int 1), none, none], [], wd C (upd Y.1 6 (nI (skW n b k)), Y.2) og)) rfl ?_
          refine am_br_r (fun h_6 => ?_) (fun h_6 => ?_)
          · skip
            refine am_steps_r ok_M_step 1 (q' := (330, [some (.ref 19), some (.int (b (skW n b k))), some (.int 1), none, none], [.ref 19], wd C (upd Y.1 6 (nI (skW n b k)), Y.2) og)) rfl ?_
            refine am_callV_r (As := []) (rest := []) ok_M_step rfl rfl ok_M_readAngled oi_M_readAngled lk_6_218 (Or.inl ⟨_, _, _, rfl, rfl, rfl⟩) rfl rfl (Nat.le_of_ble_eq_true rfl) (c_M_readAngled_full _ C (upd Y.1 6 (nI (skW n b k)), Y.2) og n b hI.1 nv u V hI.2.2.2.2 h3 (skW n b k) rfl) ?_
            rintro v_ w_ ⟨rfl, rfl⟩ -
            refine am_eq_r (q' := (333, [some (.ref 19), some (.int (b (skW n b k))), some (.int 1), none, none], [.int 0], wd C (upd (upd (upd Y.1 6 (nI (skW n b k))) 7 6) 8 (nI (skW n b k)), Y.2) og)) rfl ?_
            refine am_steps_r ok_M_step 5 (q' := (404, [some (.ref 19), some (.int (b (skW n b k))), some (.int 0), none, none], [.int (-1)], wd C (upd (upd (upd Y.1 6 (nI (skW n b k))) 7 6) 8 (nI (skW n b k)), Y.2) og)) rfl ?_
            refine am_iret_r ok_M_step rfl rfl rfl ?_
            exact ⟨rfl, rfl⟩
          · skip
            first | contradiction | (exfalso; simp_all; done)
      · skip
        exact absurd (by assumption) h_3
  · skip
    have h_1 : ¬ (skW n b k) < n := fun z => h_1 ((nI_ltI (show (skW n b k) < 2 ^ 31 by omega) (show n < 2 ^ 31 by omega)).mpr z)
    exfalso; omega
set_option maxHeartbeats 1000000 in
set_option maxRecDepth 100000 in
theorem tl_M_step_wn (d : Nat) (C : wd_C) (Y : wd_Y) (og : Nat → Int64) (n : Nat) (b : Nat → Int32) (k nv u : Nat) (V : VT) (no : Int32) (hI : ryI Y n b k nv u V no) (hk : k ≤ n) (hok : vok nv V) (huk : u ≤ k) (h3 : nv < 300) (hlt : skW n b k < n) (h91 : ¬ b (skW n b k) = 91) (h60 : ¬ b (skW n b k) = 60) (h40 : ¬ b (skW n b k) = 40) (h47 : ¬ b (skW n b k) = 47) (hr : isReg (b (skW n b k)) = true) (hpr : prW n b st_3 (skW n b k) = none) : am_Rn l D cA ad fm (d + 6) m_M_step (wd C Y og).length (fun vr w' => (∃ c p, lfR n b (skW n b k) = .inl (c, p) ∧ vr = some (.int (-1)) ∧ lfQ (upd Y.1 6 (nI (skW n b k)), Y.2) C og nv u V (.inl (c, p)) (some (.int 0)) w') ∨ (∃ kd nu acc k1 bit, lfR n b (skW n b k) = .inr (kd, nu, acc, k1, bit) ∧ vr = some (.int (nI nv)) ∧ lfQ (upd Y.1 6 (nI (skW n b k)), Y.2) C og nv u V (.inr (kd, nu, acc, k1, bit)) (some (.int 1)) w')) (250, [some (.ref 19), some (.int (b (skW n b k))), none, none, none], [], wd C (upd Y.1 6 (nI (skW n b k)), Y.2) og) := by
  have hT := hI.1
  have hn := hT.2.1
  have hnv := hI.2.2.2.2.1.2.1
  have hsk := skW_le n b hk
  have elf : lfR n b (skW n b k) = wdL n b (skW n b k) := by rw [lfR, if_neg h47, if_neg h40, if_neg h60]
  refine am_steps_r ok_M_step 7 (q' := (bif decide ((nI (skW n b k)) < (Y.1 1)) then 276 else 263, [some (.ref 19), some (.int (b (skW n b k))), some (.int 1), none, none], [], wd C (upd Y.1 6 (nI (skW n b k)), Y.2) og)) rfl ?_
  rw [show (Y.1 1 : Int32) = nI n from hI.1.1]
  refine am_br_r (fun h_1 => ?_) (fun h_1 => ?_)
  · skip
    have h_1 : (skW n b k) < n := (nI_ltI (show (skW n b k) < 2 ^ 31 by omega) (show n < 2 ^ 31 by omega)).mp h_1
    refine am_steps_r ok_M_step 3 (q' := (bif decide ((b (skW n b k)) = 91) then 282 else 292, [some (.ref 19), some (.int (b (skW n b k))), some (.int 1), none, none], [], wd C (upd Y.1 6 (nI (skW n b k)), Y.2) og)) rfl ?_
    refine am_br_r (fun h_2 => ?_) (fun h_2 => ?_)
    · skip
      first | exact absurd h_2 (by assumption) | exact absurd (hb1.symm.trans h_2) (by decide)
    · skip
      refine am_steps_r ok_M_step 3 (q' := (bif decide ((b (skW n b k)) = 60) then 298 else 323, [some (.ref 19), some (.int (b (skW n b k))), some (.int 1), none, none], [], wd C (upd Y.1 6 (nI (skW n b k)), Y.2) og)) rfl ?_
      refine am_br_r (fun h_3 => ?_) (fun h_3 => ?_)
      · skip
        first | exact absurd h_3 (by assumption) | exact absurd (hb1.symm.trans h_3) (by decide)
      · skip
        refine am_steps_r ok_M_step 3 (q' := (bif decide ((b (skW n b k)) = 60) then 329 else 337, [some (.ref 19), some (.int (b (skW n b k))), some (.int 1), none, none], [], wd C (upd Y.1 6 (nI (skW n b k)), Y.2) og)) rfl ?_
        refine am_br_r (fun h_4 => ?_) (fun h_4 => ?_)
        · skip
          first | contradiction | (exfalso; simp_all; done)
        · skip
          refine am_steps_r ok_M_step 3 (q' := (bif decide ((b (skW n b k)) = 40) then 343 else 351, [some (.ref 19), some (.int (b (skW n b k))), some (.int 1), none, none], [], wd C (upd Y.1 6 (nI (skW n b k)), Y.2) og)) rfl ?_
          refine am_br_r (fun h_5 => ?_) (fun h_5 => ?_)
          · skip
            first | exact absurd h_5 (by assumption) | exact absurd (hb1.symm.trans h_5) (by decide)
          · skip
            refine am_steps_r ok_M_step 3 (q' := (bif decide ((b (skW n b k)) = 47) then 357 else 365, [some (.ref 19), some (.int (b (skW n b k))), some (.int 1), none, none], [], wd C (upd Y.1 6 (nI (skW n b k)), Y.2) og)) rfl ?_
            refine am_br_r (fun h_6 => ?_) (fun h_6 => ?_)
            · skip
              first | exact absurd h_6 (by assumption) | exact absurd (hb1.symm.trans h_6) (by decide)
            · skip
              refine am_steps_r ok_M_step 1 (q' := (366, [some (.ref 19), some (.int (b (skW n b k))), some (.int 1), none, none], [.int (b (skW n b k))], wd C (upd Y.1 6 (nI (skW n b k)), Y.2) og)) rfl ?_
              refine am_callS_r (As := [.int (b (skW n b k))]) (rest := []) ok_M_step rfl rfl ok_M_isRegular os_M_isRegular lk_6_85 rfl rfl (Nat.le_of_ble_eq_true rfl) (c_M_isRegular _ C (upd Y.1 6 (nI (skW n b k)), Y.2) og (b (skW n b k))) ?_
              rintro v_ w_ ⟨rfl, rfl⟩ -
              refine am_eq_r (q' := (369, [some (.ref 19), some (.int (b (skW n b k))), some (.int 1), none, none], [.int (bz (isReg (b (skW n b k))))], wd C (upd Y.1 6 (nI (skW n b k)), Y.2) og)) rfl ?_
              refine am_steps_r ok_M_step 1 (q' := (bif decide ((bz (isReg (b (skW n b k)))) = 0) then 380 else 372, [some (.ref 19), some (.int (b (skW n b k))), some (.int 1), none, none], [], wd C (upd Y.1 6 (nI (skW n b k)), Y.2) og)) rfl ?_
              refine am_bz_r (fun h_8 => ?_) (fun h_8 => ?_)
              · skip
                refine am_steps_r ok_M_step 1 (q' := (373, [some (.ref 19), some (.int (b (skW n b k))), some (.int 1), none, none], [.ref 19], wd C (upd Y.1 6 (nI (skW n b k)), Y.2) og)) rfl ?_
                refine am_callV_r (As := []) (rest := []) ok_M_step rfl rfl ok_M_readWord oi_M_readWord lk_6_224 (Or.inl ⟨_, _, _, rfl, rfl, rfl⟩) rfl rfl (Nat.le_of_ble_eq_true rfl) (c_M_readWord_n _ C (upd Y.1 6 (nI (skW n b k)), Y.2) og n b hI.1 nv u V hI.2.2.2.2 hok h3 (skW n b k) rfl hlt (by omega) hr hpr) ?_
                rintro v_ w_ hLq -
                rw [← elf] at hLq
                rcases hlr : lfR n b (skW n b k) with ⟨c, p⟩ | ⟨kd, nu, acc, k1, bit⟩
                · rw [hlr] at hLq
                  have hLq1 := hLq
                  obtain ⟨rfl, Y1, rfl, f7, f8, f9, ff, fl, nv9, V9, g1, g2, g3⟩ := hLq
                  refine am_eq_r (q' := (376, [some (.ref 19), some (.int (b (skW n b k))), some (.int 1), none, none], [.int 0], wd C Y1 og)) rfl ?_
                  refine am_steps_r ok_M_step 5 (q' := (404, [some (.ref 19), some (.int (b (skW n b k))), some (.int 0), none, none], [.int (-1)], wd C Y1 og)) rfl ?_
                  refine am_iret_r ok_M_step rfl rfl rfl ?_
                  exact Or.inl ⟨c, p, rfl, rfl, hLq1⟩
                · rw [hlr] at hLq
                  have hLq1 := hLq
                  obtain ⟨rfl, Y1, rfl, f6, f7, f9, ff, fl, g1⟩ := hLq
                  refine am_eq_r (q' := (376, [some (.ref 19), some (.int (b (skW n b k))), some (.int 1), none, none], [.int 1], wd C Y1 og)) rfl ?_
                  refine am_steps_r ok_M_step 9 (q' := (404, [some (.ref 19), some (.int (b (skW n b k))), some (.int 1), none, none], [.int ((Y1.1 4) - 1)], wd C Y1 og)) rfl ?_
                  rw [show (Y1.1 4 : Int32) = nI (nv + 1) from g1.1.1]
                  rw [show ((nI (nv + 1)) - 1 : Int32) = nI nv from pk_sub (a := nv + 1) (b := 1) (by omega)]
                  refine am_iret_r ok_M_step rfl rfl rfl ?_
                  exact Or.inr ⟨kd, nu, acc, k1, bit, rfl, rfl, hLq1⟩
              · skip
                exact absurd (show isReg (b (skW n b k)) = true by assumption) (by rw [h_8]; decide)
  · skip
    have h_1 : ¬ (skW n b k) < n := fun z => h_1 ((nI_ltI (show (skW n b k) < 2 ^ 31 by omega) (show n < 2 ^ 31 by omega)).mpr z)
    exfalso; omega
set_option maxHeartbeats 1000000 in
set_option maxRecDepth 100000 in
theorem tl_M_step_wr (d : Nat) (C : wd_C) (Y : wd_Y) (og : Nat → Int64) (n : Nat) (b : Nat → Int32) (k nv u : Nat) (V : VT) (no : Int32) (hI : ryI Y n b k nv u V no) (hk : k ≤ n) (hok : vok nv V) (huk : u ≤ k) (h3 : nv < 300) (hlt : skW n b k < n) (h91 : ¬ b (skW n b k) = 91) (h60 : ¬ b (skW n b k) = 60) (h40 : ¬ b (skW n b k) = 40) (h47 : ¬ b (skW n b k) = 47) (hr : isReg (b (skW n b k)) = true) (t : Nat) (hpr : prW n b st_3 (skW n b k) = some t) : am_Rn l D cA ad fm (d + 6) m_M_step (wd C Y og).length (fun vr w' => (∃ c p, lfR n b (skW n b k) = .inl (c, p) ∧ vr = some (.int (-1)) ∧ lfQ (upd Y.1 6 (nI (skW n b k)), Y.2) C og nv u V (.inl (c, p)) (some (.int 0)) w') ∨ (∃ kd nu acc k1 bit, lfR n b (skW n b k) = .inr (kd, nu, acc, k1, bit) ∧ vr = some (.int (nI nv)) ∧ lfQ (upd Y.1 6 (nI (skW n b k)), Y.2) C og nv u V (.inr (kd, nu, acc, k1, bit)) (some (.int 1)) w')) (250, [some (.ref 19), some (.int (b (skW n b k))), none, none, none], [], wd C (upd Y.1 6 (nI (skW n b k)), Y.2) og) := by
  have hT := hI.1
  have hn := hT.2.1
  have hnv := hI.2.2.2.2.1.2.1
  have hsk := skW_le n b hk
  have elf : lfR n b (skW n b k) = wdL n b (skW n b k) := by rw [lfR, if_neg h47, if_neg h40, if_neg h60]
  refine am_steps_r ok_M_step 7 (q' := (bif decide ((nI (skW n b k)) < (Y.1 1)) then 276 else 263, [some (.ref 19), some (.int (b (skW n b k))), some (.int 1), none, none], [], wd C (upd Y.1 6 (nI (skW n b k)), Y.2) og)) rfl ?_
  rw [show (Y.1 1 : Int32) = nI n from hI.1.1]
  refine am_br_r (fun h_1 => ?_) (fun h_1 => ?_)
  · skip
    have h_1 : (skW n b k) < n := (nI_ltI (show (skW n b k) < 2 ^ 31 by omega) (show n < 2 ^ 31 by omega)).mp h_1
    refine am_steps_r ok_M_step 3 (q' := (bif decide ((b (skW n b k)) = 91) then 282 else 292, [some (.ref 19), some (.int (b (skW n b k))), some (.int 1), none, none], [], wd C (upd Y.1 6 (nI (skW n b k)), Y.2) og)) rfl ?_
    refine am_br_r (fun h_2 => ?_) (fun h_2 => ?_)
    · skip
      first | exact absurd h_2 (by assumption) | exact absurd (hb1.symm.trans h_2) (by decide)
    · skip
      refine am_steps_r ok_M_step 3 (q' := (bif decide ((b (skW n b k)) = 60) then 298 else 323, [some (.ref 19), some (.int (b (skW n b k))), some (.int 1), none, none], [], wd C (upd Y.1 6 (nI (skW n b k)), Y.2) og)) rfl ?_
      refine am_br_r (fun h_3 => ?_) (fun h_3 => ?_)
      · skip
        first | exact absurd h_3 (by assumption) | exact absurd (hb1.symm.trans h_3) (by decide)
      · skip
        refine am_steps_r ok_M_step 3 (q' := (bif decide ((b (skW n b k)) = 60) then 329 else 337, [some (.ref 19), some (.int (b (skW n b k))), some (.int 1), none, none], [], wd C (upd Y.1 6 (nI (skW n b k)), Y.2) og)) rfl ?_
        refine am_br_r (fun h_4 => ?_) (fun h_4 => ?_)
        · skip
          first | contradiction | (exfalso; simp_all; done)
        · skip
          refine am_steps_r ok_M_step 3 (q' := (bif decide ((b (skW n b k)) = 40) then 343 else 351, [some (.ref 19), some (.int (b (skW n b k))), some (.int 1), none, none], [], wd C (upd Y.1 6 (nI (skW n b k)), Y.2) og)) rfl ?_
          refine am_br_r (fun h_5 => ?_) (fun h_5 => ?_)
          · skip
            first | exact absurd h_5 (by assumption) | exact absurd (hb1.symm.trans h_5) (by decide)
          · skip
            refine am_steps_r ok_M_step 3 (q' := (bif decide ((b (skW n b k)) = 47) then 357 else 365, [some (.ref 19), some (.int (b (skW n b k))), some (.int 1), none, none], [], wd C (upd Y.1 6 (nI (skW n b k)), Y.2) og)) rfl ?_
            refine am_br_r (fun h_6 => ?_) (fun h_6 => ?_)
            · skip
              first | exact absurd h_6 (by assumption) | exact absurd (hb1.symm.trans h_6) (by decide)
            · skip
              refine am_steps_r ok_M_step 1 (q' := (366, [some (.ref 19), some (.int (b (skW n b k))), some (.int 1), none, none], [.int (b (skW n b k))], wd C (upd Y.1 6 (nI (skW n b k)), Y.2) og)) rfl ?_
              refine am_callS_r (As := [.int (b (skW n b k))]) (rest := []) ok_M_step rfl rfl ok_M_isRegular os_M_isRegular lk_6_85 rfl rfl (Nat.le_of_ble_eq_true rfl) (c_M_isRegular _ C (upd Y.1 6 (nI (skW n b k)), Y.2) og (b (skW n b k))) ?_
              rintro v_ w_ ⟨rfl, rfl⟩ -
              refine am_eq_r (q' := (369, [some (.ref 19), some (.int (b (skW n b k))), some (.int 1), none, none], [.int (bz (isReg (b (skW n b k))))], wd C (upd Y.1 6 (nI (skW n b k)), Y.2) og)) rfl ?_
              refine am_steps_r ok_M_step 1 (q' := (bif decide ((bz (isReg (b (skW n b k)))) = 0) then 380 else 372, [some (.ref 19), some (.int (b (skW n b k))), some (.int 1), none, none], [], wd C (upd Y.1 6 (nI (skW n b k)), Y.2) og)) rfl ?_
              refine am_bz_r (fun h_8 => ?_) (fun h_8 => ?_)
              · skip
                refine am_steps_r ok_M_step 1 (q' := (373, [some (.ref 19), some (.int (b (skW n b k))), some (.int 1), none, none], [.ref 19], wd C (upd Y.1 6 (nI (skW n b k)), Y.2) og)) rfl ?_
                refine am_callV_r (As := []) (rest := []) ok_M_step rfl rfl ok_M_readWord oi_M_readWord lk_6_224 (Or.inl ⟨_, _, _, rfl, rfl, rfl⟩) rfl rfl (Nat.le_of_ble_eq_true rfl) (c_M_readWord_r _ C (upd Y.1 6 (nI (skW n b k)), Y.2) og n b hI.1 nv u V hI.2.2.2.2 hok h3 (skW n b k) rfl hlt (by omega) hr t hpr) ?_
                rintro v_ w_ hLq -
                rw [← elf] at hLq
                rcases hlr : lfR n b (skW n b k) with ⟨c, p⟩ | ⟨kd, nu, acc, k1, bit⟩
                · rw [hlr] at hLq
                  have hLq1 := hLq
                  obtain ⟨rfl, Y1, rfl, f7, f8, f9, ff, fl, nv9, V9, g1, g2, g3⟩ := hLq
                  refine am_eq_r (q' := (376, [some (.ref 19), some (.int (b (skW n b k))), some (.int 1), none, none], [.int 0], wd C Y1 og)) rfl ?_
                  refine am_steps_r ok_M_step 5 (q' := (404, [some (.ref 19), some (.int (b (skW n b k))), some (.int 0), none, none], [.int (-1)], wd C Y1 og)) rfl ?_
                  refine am_iret_r ok_M_step rfl rfl rfl ?_
                  exact Or.inl ⟨c, p, rfl, rfl, hLq1⟩
                · rw [hlr] at hLq
                  have hLq1 := hLq
                  obtain ⟨rfl, Y1, rfl, f6, f7, f9, ff, fl, g1⟩ := hLq
                  refine am_eq_r (q' := (376, [some (.ref 19), some (.int (b (skW n b k))), some (.int 1), none, none], [.int 1], wd C Y1 og)) rfl ?_
                  refine am_steps_r ok_M_step 9 (q' := (404, [some (.ref 19), some (.int (b (skW n b k))), some (.int 1), none, none], [.int ((Y1.1 4) - 1)], wd C Y1 og)) rfl ?_
                  rw [show (Y1.1 4 : Int32) = nI (nv + 1) from g1.1.1]
                  rw [show ((nI (nv + 1)) - 1 : Int32) = nI nv from pk_sub (a := nv + 1) (b := 1) (by omega)]
                  refine am_iret_r ok_M_step rfl rfl rfl ?_
                  exact Or.inr ⟨kd, nu, acc, k1, bit, rfl, rfl, hLq1⟩
              · skip
                exact absurd (show isReg (b (skW n b k)) = true by assumption) (by rw [h_8]; decide)
  · skip
    have h_1 : ¬ (skW n b k) < n := fun z => h_1 ((nI_ltI (show (skW n b k) < 2 ^ 31 by omega) (show n < 2 ^ 31 by omega)).mpr z)
    exfalso; omega
set_option maxHeartbeats 1000000 in
set_option maxRecDepth 100000 in
theorem tl_M_step_fw (d : Nat) (C : wd_C) (Y : wd_Y) (og : Nat → Int64) (n : Nat) (b : Nat → Int32) (k nv u : Nat) (V : VT) (no : Int32) (hI : ryI Y n b k nv u V no) (hk : k ≤ n) (hlt : skW n b k < n) (h91 : ¬ b (skW n b k) = 91) (h60 : ¬ b (skW n b k) = 60) (h40 : ¬ b (skW n b k) = 40) (h47 : ¬ b (skW n b k) = 47) (hr : isReg (b (skW n b k)) = true) (h3 : nv = 300) : am_Rn l D cA ad fm (d + 6) m_M_step (wd C Y og).length (fun vr w' => vr = some (.int (-1)) ∧ w' = wd C (upd (upd (upd Y.1 6 (nI (skW n b k))) 7 6) 8 (nI (skW n b k)), Y.2) og) (250, [some (.ref 19), some (.int (b (skW n b k))), none, none, none], [], wd C (upd Y.1 6 (nI (skW n b k)), Y.2) og) := by
  have hT := hI.1
  have hn := hT.2.1
  have hnv := hI.2.2.2.2.1.2.1
  have hsk := skW_le n b hk
  refine am_steps_r ok_M_step 7 (q' := (bif decide ((nI (skW n b k)) < (Y.1 1)) then 276 else 263, [some (.ref 19), some (.int (b (skW n b k))), some (.int 1), none, none], [], wd C (upd Y.1 6 (nI (skW n b k)), Y.2) og)) rfl ?_
  rw [show (Y.1 1 : Int32) = nI n from hI.1.1]
  refine am_br_r (fun h_1 => ?_) (fun h_1 => ?_)
  · skip
    have h_1 : (skW n b k) < n := (nI_ltI (show (skW n b k) < 2 ^ 31 by omega) (show n < 2 ^ 31 by omega)).mp h_1
    refine am_steps_r ok_M_step 3 (q' := (bif decide ((b (skW n b k)) = 91) then 282 else 292, [some (.ref 19), some (.int (b (skW n b k))), some (.int 1), none, none], [], wd C (upd Y.1 6 (nI (skW n b k)), Y.2) og)) rfl ?_
    refine am_br_r (fun h_2 => ?_) (fun h_2 => ?_)
    · skip
      first | exact absurd h_2 (by assumption) | exact absurd (hb1.symm.trans h_2) (by decide)
    · skip
      refine am_steps_r ok_M_step 3 (q' := (bif decide ((b (skW n b k)) = 60) then 298 else 323, [some (.ref 19), some (.int (b (skW n b k))), some (.int 1), none, none], [], wd C (upd Y.1 6 (nI (skW n b k)), Y.2) og)) rfl ?_
      refine am_br_r (fun h_3 => ?_) (fun h_3 => ?_)
      · skip
        first | exact absurd h_3 (by assumption) | exact absurd (hb1.symm.trans h_3) (by decide)
      · skip
        refine am_steps_r ok_M_step 3 (q' := (bif decide ((b (skW n b k)) = 60) then 329 else 337, [some (.ref 19), some (.int (b (skW n b k))), some (.int 1), none, none], [], wd C (upd Y.1 6 (nI (skW n b k)), Y.2) og)) rfl ?_
        refine am_br_r (fun h_4 => ?_) (fun h_4 => ?_)
        · skip
          first | contradiction | (exfalso; simp_all; done)
        · skip
          refine am_steps_r ok_M_step 3 (q' := (bif decide ((b (skW n b k)) = 40) then 343 else 351, [some (.ref 19), some (.int (b (skW n b k))), some (.int 1), none, none], [], wd C (upd Y.1 6 (nI (skW n b k)), Y.2) og)) rfl ?_
          refine am_br_r (fun h_5 => ?_) (fun h_5 => ?_)
          · skip
            first | exact absurd h_5 (by assumption) | exact absurd (hb1.symm.trans h_5) (by decide)
          · skip
            refine am_steps_r ok_M_step 3 (q' := (bif decide ((b (skW n b k)) = 47) then 357 else 365, [some (.ref 19), some (.int (b (skW n b k))), some (.int 1), none, none], [], wd C (upd Y.1 6 (nI (skW n b k)), Y.2) og)) rfl ?_
            refine am_br_r (fun h_6 => ?_) (fun h_6 => ?_)
            · skip
              first | exact absurd h_6 (by assumption) | exact absurd (hb1.symm.trans h_6) (by decide)
            · skip
              refine am_steps_r ok_M_step 1 (q' := (366, [some (.ref 19), some (.int (b (skW n b k))), some (.int 1), none, none], [.int (b (skW n b k))], wd C (upd Y.1 6 (nI (skW n b k)), Y.2) og)) rfl ?_
              refine am_callS_r (As := [.int (b (skW n b k))]) (rest := []) ok_M_step rfl rfl ok_M_isRegular os_M_isRegular lk_6_85 rfl rfl (Nat.le_of_ble_eq_true rfl) (c_M_isRegular _ C (upd Y.1 6 (nI (skW n b k)), Y.2) og (b (skW n b k))) ?_
              rintro v_ w_ ⟨rfl, rfl⟩ -
              refine am_eq_r (q' := (369, [some (.ref 19), some (.int (b (skW n b k))), some (.int 1), none, none], [.int (bz (isReg (b (skW n b k))))], wd C (upd Y.1 6 (nI (skW n b k)), Y.2) og)) rfl ?_
              refine am_steps_r ok_M_step 1 (q' := (bif decide ((bz (isReg (b (skW n b k)))) = 0) then 380 else 372, [some (.ref 19), some (.int (b (skW n b k))), some (.int 1), none, none], [], wd C (upd Y.1 6 (nI (skW n b k)), Y.2) og)) rfl ?_
              refine am_bz_r (fun h_8 => ?_) (fun h_8 => ?_)
              · skip
                refine am_steps_r ok_M_step 1 (q' := (373, [some (.ref 19), some (.int (b (skW n b k))), some (.int 1), none, none], [.ref 19], wd C (upd Y.1 6 (nI (skW n b k)), Y.2) og)) rfl ?_
                refine am_callV_r (As := []) (rest := []) ok_M_step rfl rfl ok_M_readWord oi_M_readWord lk_6_224 (Or.inl ⟨_, _, _, rfl, rfl, rfl⟩) rfl rfl (Nat.le_of_ble_eq_true rfl) (c_M_readWord_full _ C (upd Y.1 6 (nI (skW n b k)), Y.2) og n b hI.1 nv u V hI.2.2.2.2 h3 (skW n b k) rfl) ?_
                rintro v_ w_ ⟨rfl, rfl⟩ -
                refine am_eq_r (q' := (376, [some (.ref 19), some (.int (b (skW n b k))), some (.int 1), none, none], [.int 0], wd C (upd (upd (upd Y.1 6 (nI (skW n b k))) 7 6) 8 (nI (skW n b k)), Y.2) og)) rfl ?_
                refine am_steps_r ok_M_step 5 (q' := (404, [some (.ref 19), some (.int (b (skW n b k))), some (.int 0), none, none], [.int (-1)], wd C (upd (upd (upd Y.1 6 (nI (skW n b k))) 7 6) 8 (nI (skW n b k)), Y.2) og)) rfl ?_
                refine am_iret_r ok_M_step rfl rfl rfl ?_
                exact ⟨rfl, rfl⟩
              · skip
                exact absurd (show isReg (b (skW n b k)) = true by assumption) (by rw [h_8]; decide)
  · skip
    have h_1 : ¬ (skW n b k) < n := fun z => h_1 ((nI_ltI (show (skW n b k) < 2 ^ 31 by omega) (show n < 2 ^ 31 by omega)).mpr z)
    exfalso; omega
set_option maxHeartbeats 1000000 in
set_option maxRecDepth 100000 in
theorem c_M_deliver_0 (d : Nat) (C : wd_C) (Y : wd_Y) (og : Nat → Int64) (nv u : Nat) (V : VT) (hY : vsY Y nv u V) (x : Nat) (hx : x < nv) (hd : Y.1 12 = nI 0) : am_Mt l D cA ad fm (d + 2) m_M_deliver [.ref 19, .int (nI x)] (wd C Y og) (fun vr w' => vr = some (.int 1) ∧ w' = wd C Y og) := by
  have hnv := hY.1.2.1
  refine am_mt ok_M_deliver (by simp [am_arg, Value.category, m_M_deliver, am_ml]) ?_
  refine am_eq_r (q' := (0, [some (.ref 19), some (.int (nI x)), none], [], wd C Y og)) rfl ?_
  refine am_steps_r ok_M_deliver 3 (q' := (bif decide ((Y.1 12) = 0) then 7 else 9, [some (.ref 19), some (.int (nI x)), none], [], wd C Y og)) rfl ?_
  rw [show (Y.1 12 : Int32) = nI 0 from hd]
  refine am_br_r (fun h_1 => ?_) (fun h_1 => ?_)
  · skip
    have h_1 : 0 = 0 := (nI_eq (show 0 < 2 ^ 31 by omega) (show 0 < 2 ^ 31 by omega)).mp h_1
    refine am_steps_r ok_M_deliver 1 (q' := (8, [some (.ref 19), some (.int (nI x)), none], [.int 1], wd C Y og)) rfl ?_
    refine am_zret_r ok_M_deliver rfl rfl rfl rfl ?_
    first | (exfalso; omega) | exact ⟨rfl, rfl⟩
  · skip
    have h_1 : ¬ 0 = 0 := fun z => h_1 ((nI_eq (show 0 < 2 ^ 31 by omega) (show 0 < 2 ^ 31 by omega)).mpr z)
    exfalso; omega
theorem c_M_append_o (d : Nat) (C : wd_C) (Y : wd_Y) (og : Nat → Int64) (nv u : Nat) (V : VT) (hY : vsY Y nv u V) (hok : vok nv V) (v p : Nat) (hv : v < nv) (hp : p < nv) : am_Mt l D cA ad fm (d + 0) m_M_append [.ref 19, .int (nI v), .int (nI p)] (wd C Y og) (fun vr w' => vr = none ∧ w' = wd C (yApp Y v p (V.2.2.1 v).getLast?) og) := by
  have hnv := hY.1.2.1
  obtain ⟨r1, r2, r3, r4, r5, r6⟩ := hY.2 v hv
  cases hl : (V.2.2.1 v).getLast? with
  | none =>
    have e0 : V.2.2.1 v = [] := by simpa using hl
    rw [e0] at r5
    exact c_M_append_n d C Y og v p (by omega) (by omega) r5
  | some q =>
    rw [hl] at r6
    have hq := (hok.1 v hv).1 q (List.mem_of_getLast? hl)
    obtain ⟨f, r, ef⟩ : ∃ f r, V.2.2.1 v = f :: r := by
      cases hz : V.2.2.1 v with
      | nil => rw [hz] at hl; cases hl
      | cons f r => exact ⟨f, r, rfl⟩
    have hf := (hok.1 v hv).1 f (by rw [ef]; exact List.mem_cons_self)
    rw [ef] at r5
    exact c_M_append_s d C Y og v p (by omega) (by omega) f q (by omega) (by omega) r5.1 r6
set_option maxHeartbeats 1000000 in
set_option maxRecDepth 100000 in
theorem c_M_deliver_a (d : Nat) (C : wd_C) (Y : wd_Y) (og : Nat → Int64) (nv u : Nat) (V : VT) (hY : vsY Y nv u V) (x : Nat) (hx : x < nv) (e t : Nat) (hd : Y.1 12 = nI (e + 1)) (he : e < 8) (ht : t < nv) (ho : Y.2.1 11 e = nI t) (hok : vok nv V) (hkd : Y.2.1 2 t = 6) : am_Mt l D cA ad fm (d + 2) m_M_deliver [.ref 19, .int (nI x)] (wd C Y og) (fun vr w' => vr = some (.int 0) ∧ w' = wd C (yApp Y t x (V.2.2.1 t).getLast?) og) := by
  have hnv := hY.1.2.1
  refine am_mt ok_M_deliver (by simp [am_arg, Value.category, m_M_deliver, am_ml]) ?_
  refine am_eq_r (q' := (0, [some (.ref 19), some (.int (nI x)), none], [], wd C Y og)) rfl ?_
  refine am_steps_r ok_M_deliver 3 (q' := (bif decide ((Y.1 12) = 0) then 7 else 9, [some (.ref 19), some (.int (nI x)), none], [], wd C Y og)) rfl ?_
  rw [show (Y.1 12 : Int32) = nI (e + 1) from hd]
  refine am_br_r (fun h_1 => ?_) (fun h_1 => ?_)
  · skip
    have h_1 : (e + 1) = 0 := (nI_eq (show (e + 1) < 2 ^ 31 by omega) (show 0 < 2 ^ 31 by omega)).mp h_1
    exfalso; omega
  · skip
    have h_1 : ¬ (e + 1) = 0 := fun z => h_1 ((nI_eq (show (e + 1) < 2 ^ 31 by omega) (show 0 < 2 ^ 31 by omega)).mpr z)
    refine am_steps_r ok_M_deliver 6 (q' := (19, [some (.ref 19), some (.int (nI x)), none], [.int ((Y.1 12) - 1), .ref 32], wd C Y og)) rfl ?_
    rw [show (Y.1 12 : Int32) = nI (e + 1) from hd]
    rw [show ((nI (e + 1)) - 1 : Int32) = nI e from pk_sub (a := e + 1) (b := 1) (by omega)]
    refine am_iald_r ok_M_deliver rfl (w := wd C Y og) (f := Y.2.1 11) rfl rfl (pk_in e 9 (by omega)) ?_
    rw [nI_clamp (show e < 2 ^ 31 by omega)]
    rw [ho]
    refine am_steps_r ok_M_deliver 4 (q' := (26, [some (.ref 19), some (.int (nI x)), some (.int (nI t))], [.int (nI t), .ref 22], wd C Y og)) rfl ?_
    refine am_iald_r ok_M_deliver rfl (w := wd C Y og) (f := Y.2.1 2) rfl rfl (pk_in t 300 (by omega)) ?_
    rw [nI_clamp (show t < 2 ^ 31 by omega)]
    rw [hkd]
    refine am_steps_r ok_M_deliver 5 (q' := (35, [some (.ref 19), some (.int (nI x)), some (.int (nI t))], [.int (nI x), .int (nI t), .ref 19], wd C Y og)) rfl ?_
    refine am_callV_r (As := [.int (nI t), .int (nI x)]) (rest := []) ok_M_deliver rfl rfl ok_M_append oi_M_append lk_6_200 (Or.inl ⟨_, _, _, rfl, rfl, rfl⟩) rfl rfl (Nat.le_of_ble_eq_true rfl) (c_M_append_o _ C Y og nv u V hY hok t x ht hx) ?_
    rintro v_ w_ ⟨rfl, rfl⟩ -
    refine am_eq_r (q' := (38, [some (.ref 19), some (.int (nI x)), some (.int (nI t))], [], wd C (yApp Y t x (V.2.2.1 t).getLast?) og)) rfl ?_
    refine am_steps_r ok_M_deliver 2 (q' := (71, [some (.ref 19), some (.int (nI x)), some (.int (nI t))], [.int 0], wd C (yApp Y t x (V.2.2.1 t).getLast?) og)) rfl ?_
    refine am_zret_r ok_M_deliver rfl rfl rfl rfl ?_
    exact ⟨rfl, rfl⟩
set_option maxHeartbeats 1000000 in
set_option maxRecDepth 100000 in
theorem c_M_deliver_d (d : Nat) (C : wd_C) (Y : wd_Y) (og : Nat → Int64) (nv u : Nat) (V : VT) (hY : vsY Y nv u V) (x : Nat) (hx : x < nv) (e t : Nat) (hd : Y.1 12 = nI (e + 1)) (he : e < 8) (ht : t < nv) (ho : Y.2.1 11 e = nI t) (hok : vok nv V) (hkd : Y.2.1 2 t = 7) (q m : Nat) (hq : q < nv) (hk9 : Y.2.1 12 e = nI q) (hm : (V.2.2.1 t).length = 2 * m) (hqx : q ≠ x) (hfq : ∀ w, w < nv → q ∉ V.2.2.1 w) (hfx : ∀ w, w < nv → x ∉ V.2.2.1 w) : am_Mt l D cA ad fm (d + 2) m_M_deliver [.ref 19, .int (nI x)] (wd C Y og) (fun vr w' => vr = some (.int 0) ∧ ∃ Y1 : wd_Y, w' = wd C (Y1.1, wd_u Y1.2.1 12 (upd (Y1.2.1 12) e (-1)), Y1.2.2) og ∧ vsY Y1 nv u (vtEnt V t q x) ∧ Y1.1 = (match vtFnd V t q with | none => Y.1 | some _ => upd Y.1 9 (Y.1 9 ||| 2)) ∧ yfr Y Y1) := by
  have hnv := hY.1.2.1
  refine am_mt ok_M_deliver (by simp [am_arg, Value.category, m_M_deliver, am_ml]) ?_
  refine am_eq_r (q' := (0, [some (.ref 19), some (.int (nI x)), none], [], wd C Y og)) rfl ?_
  refine am_steps_r ok_M_deliver 3 (q' := (bif decide ((Y.1 12) = 0) then 7 else 9, [some (.ref 19), some (.int (nI x)), none], [], wd C Y og)) rfl ?_
  rw [show (Y.1 12 : Int32) = nI (e + 1) from hd]
  refine am_br_r (fun h_1 => ?_) (fun h_1 => ?_)
  · skip
    have h_1 : (e + 1) = 0 := (nI_eq (show (e + 1) < 2 ^ 31 by omega) (show 0 < 2 ^ 31 by omega)).mp h_1
    exfalso; omega
  · skip
    have h_1 : ¬ (e + 1) = 0 := fun z => h_1 ((nI_eq (show (e + 1) < 2 ^ 31 by omega) (show 0 < 2 ^ 31 by omega)).mpr z)
    refine am_steps_r ok_M_deliver 6 (q' := (19, [some (.ref 19), some (.int (nI x)), none], [.int ((Y.1 12) - 1), .ref 32], wd C Y og)) rfl ?_
    rw [show (Y.1 12 : Int32) = nI (e + 1) from hd]
    rw [show ((nI (e + 1)) - 1 : Int32) = nI e from pk_sub (a := e + 1) (b := 1) (by omega)]
    refine am_iald_r ok_M_deliver rfl (w := wd C Y og) (f := Y.2.1 11) rfl rfl (pk_in e 9 (by omega)) ?_
    rw [nI_clamp (show e < 2 ^ 31 by omega)]
    rw [ho]
    refine am_steps_r ok_M_deliver 4 (q' := (26, [some (.ref 19), some (.int (nI x)), some (.int (nI t))], [.int (nI t), .ref 22], wd C Y og)) rfl ?_
    refine am_iald_r ok_M_deliver rfl (w := wd C Y og) (f := Y.2.1 2) rfl rfl (pk_in t 300 (by omega)) ?_
    rw [nI_clamp (show t < 2 ^ 31 by omega)]
    rw [hkd]
    refine am_steps_r ok_M_deliver 10 (q' := (53, [some (.ref 19), some (.int (nI x)), some (.int (nI t))], [.int ((Y.1 12) - 1), .ref 33, .int (nI t), .ref 19], wd C Y og)) rfl ?_
    rw [show (Y.1 12 : Int32) = nI (e + 1) from hd]
    rw [show ((nI (e + 1)) - 1 : Int32) = nI e from pk_sub (a := e + 1) (b := 1) (by omega)]
    refine am_iald_r ok_M_deliver rfl (w := wd C Y og) (f := Y.2.1 12) rfl rfl (pk_in e 9 (by omega)) ?_
    rw [nI_clamp (show e < 2 ^ 31 by omega)]
    rw [hk9]
    refine am_steps_r ok_M_deliver 1 (q' := (55, [some (.ref 19), some (.int (nI x)), some (.int (nI t))], [.int (nI x), .int (nI q), .int (nI t), .ref 19], wd C Y og)) rfl ?_
    refine am_callV_r (As := [.int (nI t), .int (nI q), .int (nI x)]) (rest := []) ok_M_deliver rfl rfl ok_M_enter oi_M_enter lk_6_207 (Or.inl ⟨_, _, _, rfl, rfl, rfl⟩) rfl rfl (Nat.le_of_ble_eq_true rfl) (c_M_enter _ C Y og nv u V hY hok t q x m ht hq hx hm hqx hfq hfx) ?_
    rintro v_ w_ ⟨rfl, Y1, rfl, j1, j2, j3⟩ -
    have hd1 : Y1.1 12 = nI (e + 1) := by rw [j2]; cases vtFnd V t q <;> exact hd
    refine am_eq_r (q' := (58, [some (.ref 19), some (.int (nI x)), some (.int (nI t))], [], wd C Y1 og)) rfl ?_
    refine am_steps_r ok_M_deliver 7 (q' := (69, [some (.ref 19), some (.int (nI x)), some (.int (nI t))], [.int (-1), .int ((Y1.1 12) - 1), .ref 33], wd C Y1 og)) rfl ?_
    rw [show (Y1.1 12 : Int32) = nI (e + 1) from hd1]
    rw [show ((nI (e + 1)) - 1 : Int32) = nI e from pk_sub (a := e + 1) (b := 1) (by omega)]
    refine am_iast_r ok_M_deliver rfl (w := wd C Y1 og) (f := Y1.2.1 12) rfl rfl (pk_in e 9 (by omega)) ?_
    rw [nI_clamp (show e < 2 ^ 31 by omega)]
    refine am_eq_r (q' := (70, [some (.ref 19), some (.int (nI x)), some (.int (nI t))], [], wd C (Y1.1, wd_u Y1.2.1 12 (upd (Y1.2.1 12) e (-1)), Y1.2.2) og)) rfl ?_
    refine am_steps_r ok_M_deliver 1 (q' := (71, [some (.ref 19), some (.int (nI x)), some (.int (nI t))], [.int 0], wd C (Y1.1, wd_u Y1.2.1 12 (upd (Y1.2.1 12) e (-1)), Y1.2.2) og)) rfl ?_
    refine am_zret_r ok_M_deliver rfl rfl rfl rfl ?_
    exact ⟨rfl, Y1, rfl, j1, j2, j3⟩
end C65
