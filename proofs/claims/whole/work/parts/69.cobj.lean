/-! the component's rows of objects; what Length tells; printed by wip/gen/g69.py -/
section C69
variable {l : Launch} {D : va_G} {cA : Nat → ClassId} {ad : Nat → Nat} {fm : Value}
set_option maxHeartbeats 1000000 in
set_option maxRecDepth 100000 in
theorem c_O_size (d : Nat) (C : wd_C) (Y : wd_Y) (og : Nat → Int64) (no : Nat) (hn : C.1 3 = nI no) (hn2 : no ≤ 20)  : am_Mt l D cA ad fm (d + 0) m_O_size [.ref 14] (wd C Y og) (fun vr w' => vr = some (.int (nI no)) ∧ w' = wd C Y og) := by
  refine am_mt ok_O_size (by simp [am_arg, Value.category, m_O_size, am_ml]) ?_
  refine am_eq_r (q' := (0, [some (.ref 14)], [], wd C Y og)) rfl ?_
  refine am_steps_r ok_O_size 2 (q' := (4, [some (.ref 14)], [.int (C.1 3)], wd C Y og)) rfl ?_
  rw [show (C.1 3 : Int32) = nI no from hn]
  refine am_iret_r ok_O_size rfl rfl rfl ?_
  first | (exfalso; omega) | exact ⟨rfl, rfl⟩
set_option maxHeartbeats 1000000 in
set_option maxRecDepth 100000 in
theorem c_O_clear (d : Nat) (C : wd_C) (Y : wd_Y) (og : Nat → Int64)  : am_Mt l D cA ad fm (d + 0) m_O_clear [.ref 14] (wd C Y og) (fun vr w' => vr = none ∧ w' = wd (upd C.1 3 0, C.2) Y og) := by
  refine am_mt ok_O_clear (by simp [am_arg, Value.category, m_O_clear, am_ml]) ?_
  refine am_eq_r (q' := (0, [some (.ref 14)], [], wd C Y og)) rfl ?_
  refine am_steps_r ok_O_clear 3 (q' := (5, [some (.ref 14)], [], wd (upd C.1 3 0, C.2) Y og)) rfl ?_
  refine am_vret_r ok_O_clear rfl rfl rfl ?_
  first | (exfalso; omega) | exact ⟨rfl, rfl⟩
set_option maxHeartbeats 1000000 in
set_option maxRecDepth 100000 in
theorem c_O_hasRoom (d : Nat) (C : wd_C) (Y : wd_Y) (og : Nat → Int64) (no : Nat) (hn : C.1 3 = nI no) (hn2 : no ≤ 20)  : am_Mt l D cA ad fm (d + 0) m_O_hasRoom [.ref 14] (wd C Y og) (fun vr w' => vr = some (.int (bz (decide (no < 20)))) ∧ w' = wd C Y og) := by
  refine am_mt ok_O_hasRoom (by simp [am_arg, Value.category, m_O_hasRoom, am_ml]) ?_
  refine am_eq_r (q' := (0, [some (.ref 14)], [], wd C Y og)) rfl ?_
  refine am_steps_r ok_O_hasRoom 4 (q' := (bif decide (20 ≤ (C.1 3)) then 13 else 9, [some (.ref 14)], [], wd C Y og)) rfl ?_
  rw [show (C.1 3 : Int32) = nI no from hn]
  refine am_br_r (fun h_1 => ?_) (fun h_1 => ?_)
  · skip
    have h_1 : 20 ≤ no := (nI_leI (show 20 < 2 ^ 31 by omega) (show no < 2 ^ 31 by omega)).mp h_1
    refine am_steps_r ok_O_hasRoom 1 (q' := (14, [some (.ref 14)], [.int 0], wd C Y og)) rfl ?_
    refine am_zret_r ok_O_hasRoom rfl rfl rfl rfl ?_
    refine ⟨?_, rfl⟩
    first | (rw [decide_eq_false (by omega)]; rfl) | (rw [decide_eq_true (by omega)]; rfl)
  · skip
    have h_1 : ¬ 20 ≤ no := fun z => h_1 ((nI_leI (show 20 < 2 ^ 31 by omega) (show no < 2 ^ 31 by omega)).mpr z)
    refine am_steps_r ok_O_hasRoom 2 (q' := (14, [some (.ref 14)], [.int 1], wd C Y og)) rfl ?_
    refine am_zret_r ok_O_hasRoom rfl rfl rfl rfl ?_
    refine ⟨?_, rfl⟩
    first | (rw [decide_eq_false (by omega)]; rfl) | (rw [decide_eq_true (by omega)]; rfl)
set_option maxHeartbeats 1000000 in
set_option maxRecDepth 100000 in
theorem c_O_has_in (d : Nat) (C : wd_C) (Y : wd_Y) (og : Nat → Int64) (no : Nat) (hn : C.1 3 = nI no) (hn2 : no ≤ 20) (i : Nat) (hi : i < no) : am_Mt l D cA ad fm (d + 0) m_O_has [.ref 14, .int (nI i)] (wd C Y og) (fun vr w' => vr = some (.int 1) ∧ w' = wd C Y og) := by
  refine am_mt ok_O_has (by simp [am_arg, Value.category, m_O_has, am_ml]) ?_
  refine am_eq_r (q' := (0, [some (.ref 14), some (.int (nI i))], [], wd C Y og)) rfl ?_
  refine am_steps_r ok_O_has 2 (q' := (bif decide ((nI i) < 0) then 16 else 4, [some (.ref 14), some (.int (nI i))], [], wd C Y og)) rfl ?_
  refine am_br_r (fun h_1 => ?_) (fun h_1 => ?_)
  · skip
    have h_1 : i < 0 := (nI_ltI (show i < 2 ^ 31 by omega) (show 0 < 2 ^ 31 by omega)).mp h_1
    refine am_steps_r ok_O_has 1 (q' := (17, [some (.ref 14), some (.int (nI i))], [.int 0], wd C Y og)) rfl ?_
    refine am_zret_r ok_O_has rfl rfl rfl rfl ?_
    first | (exfalso; omega) | exact ⟨rfl, rfl⟩
  · skip
    have h_1 : ¬ i < 0 := fun z => h_1 ((nI_ltI (show i < 2 ^ 31 by omega) (show 0 < 2 ^ 31 by omega)).mpr z)
    refine am_steps_r ok_O_has 4 (q' := (bif decide ((C.1 3) ≤ (nI i)) then 16 else 12, [some (.ref 14), some (.int (nI i))], [], wd C Y og)) rfl ?_
    rw [show (C.1 3 : Int32) = nI no from hn]
    refine am_br_r (fun h_2 => ?_) (fun h_2 => ?_)
    · skip
      have h_2 : no ≤ i := (nI_leI (show no < 2 ^ 31 by omega) (show i < 2 ^ 31 by omega)).mp h_2
      refine am_steps_r ok_O_has 1 (q' := (17, [some (.ref 14), some (.int (nI i))], [.int 0], wd C Y og)) rfl ?_
      refine am_zret_r ok_O_has rfl rfl rfl rfl ?_
      first | (exfalso; omega) | exact ⟨rfl, rfl⟩
    · skip
      have h_2 : ¬ no ≤ i := fun z => h_2 ((nI_leI (show no < 2 ^ 31 by omega) (show i < 2 ^ 31 by omega)).mpr z)
      refine am_steps_r ok_O_has 2 (q' := (17, [some (.ref 14), some (.int (nI i))], [.int 1], wd C Y og)) rfl ?_
      refine am_zret_r ok_O_has rfl rfl rfl rfl ?_
      first | (exfalso; omega) | exact ⟨rfl, rfl⟩
set_option maxHeartbeats 1000000 in
set_option maxRecDepth 100000 in
theorem c_O_has_x (d : Nat) (C : wd_C) (Y : wd_Y) (og : Nat → Int64) (no : Nat) (hn : C.1 3 = nI no) (hn2 : no ≤ 20) (x : Int32) : am_Mt l D cA ad fm (d + 0) m_O_has [.ref 14, .int x] (wd C Y og) (fun vr w' => vr = some (.int (bz (decide (0 ≤ x) && decide (x < nI no)))) ∧ w' = wd C Y og) := by
  refine am_mt ok_O_has (by simp [am_arg, Value.category, m_O_has, am_ml]) ?_
  refine am_eq_r (q' := (0, [some (.ref 14), some (.int x)], [], wd C Y og)) rfl ?_
  refine am_steps_r ok_O_has 2 (q' := (bif decide (x < 0) then 16 else 4, [some (.ref 14), some (.int x)], [], wd C Y og)) rfl ?_
  refine am_br_r (fun h_1 => ?_) (fun h_1 => ?_)
  · skip
    refine am_steps_r ok_O_has 1 (q' := (17, [some (.ref 14), some (.int x)], [.int 0], wd C Y og)) rfl ?_
    refine am_zret_r ok_O_has rfl rfl rfl rfl ?_
    refine ⟨?_, rfl⟩
    simp_all [bz, ← Int32.not_lt]
  · skip
    refine am_steps_r ok_O_has 4 (q' := (bif decide ((C.1 3) ≤ x) then 16 else 12, [some (.ref 14), some (.int x)], [], wd C Y og)) rfl ?_
    rw [show (C.1 3 : Int32) = nI no from hn]
    refine am_br_r (fun h_2 => ?_) (fun h_2 => ?_)
    · skip
      refine am_steps_r ok_O_has 1 (q' := (17, [some (.ref 14), some (.int x)], [.int 0], wd C Y og)) rfl ?_
      refine am_zret_r ok_O_has rfl rfl rfl rfl ?_
      refine ⟨?_, rfl⟩
      simp_all [bz, ← Int32.not_lt]
    · skip
      refine am_steps_r ok_O_has 2 (q' := (17, [some (.ref 14), some (.int x)], [.int 1], wd C Y og)) rfl ?_
      refine am_zret_r ok_O_has rfl rfl rfl rfl ?_
      refine ⟨?_, rfl⟩
      simp_all [bz, ← Int32.not_lt]
set_option maxHeartbeats 1000000 in
set_option maxRecDepth 100000 in
theorem c_O_has_m (d : Nat) (C : wd_C) (Y : wd_Y) (og : Nat → Int64) (no : Nat) (hn : C.1 3 = nI no) (hn2 : no ≤ 20)  : am_Mt l D cA ad fm (d + 0) m_O_has [.ref 14, .int (-1)] (wd C Y og) (fun vr w' => vr = some (.int 0) ∧ w' = wd C Y og) := by
  refine am_mt ok_O_has (by simp [am_arg, Value.category, m_O_has, am_ml]) ?_
  refine am_eq_r (q' := (0, [some (.ref 14), some (.int (-1))], [], wd C Y og)) rfl ?_
  refine am_steps_r ok_O_has 3 (q' := (17, [some (.ref 14), some (.int (-1))], [.int 0], wd C Y og)) rfl ?_
  refine am_zret_r ok_O_has rfl rfl rfl rfl ?_
  first | (exfalso; omega) | exact ⟨rfl, rfl⟩
set_option maxHeartbeats 1000000 in
set_option maxRecDepth 100000 in
theorem c_O_entry_in (d : Nat) (C : wd_C) (Y : wd_Y) (og : Nat → Int64) (no : Nat) (hn : C.1 3 = nI no) (hn2 : no ≤ 20) (i j : Nat) (hi : i < no) (hj : j < 8) : am_Mt l D cA ad fm (d + 1) m_O_entry [.ref 14, .int (nI i), .int (nI j)] (wd C Y og) (fun vr w' => vr = some (.int (C.2.1 10 (i * 8 + j))) ∧ w' = wd C Y og) := by
  refine am_mt ok_O_entry (by simp [am_arg, Value.category, m_O_entry, am_ml]) ?_
  refine am_eq_r (q' := (0, [some (.ref 14), some (.int (nI i)), some (.int (nI j))], [], wd C Y og)) rfl ?_
  refine am_steps_r ok_O_entry 2 (q' := (2, [some (.ref 14), some (.int (nI i)), some (.int (nI j))], [.int (nI i), .ref 14], wd C Y og)) rfl ?_
  refine am_callV_r (As := [.int (nI i)]) (rest := []) ok_O_entry rfl rfl ok_O_has oi_O_has lk_0_27 (Or.inl ⟨_, _, _, rfl, rfl, rfl⟩) rfl rfl (Nat.le_of_ble_eq_true rfl) (c_O_has_in _ C Y og no hn hn2 i (by omega)) ?_
  rintro v_ w_ ⟨rfl, rfl⟩ -
  refine am_eq_r (q' := (5, [some (.ref 14), some (.int (nI i)), some (.int (nI j))], [.int 1], wd C Y og)) rfl ?_
  refine am_steps_r ok_O_entry 3 (q' := (bif decide ((nI j) < 0) then 32 else 12, [some (.ref 14), some (.int (nI i)), some (.int (nI j))], [], wd C Y og)) rfl ?_
  refine am_br_r (fun h_2 => ?_) (fun h_2 => ?_)
  · skip
    have h_2 : j < 0 := (nI_ltI (show j < 2 ^ 31 by omega) (show 0 < 2 ^ 31 by omega)).mp h_2
    refine am_steps_r ok_O_entry 1 (q' := (33, [some (.ref 14), some (.int (nI i)), some (.int (nI j))], [.int (-1)], wd C Y og)) rfl ?_
    refine am_iret_r ok_O_entry rfl rfl rfl ?_
    first | (exfalso; omega) | exact ⟨rfl, rfl⟩
  · skip
    have h_2 : ¬ j < 0 := fun z => h_2 ((nI_ltI (show j < 2 ^ 31 by omega) (show 0 < 2 ^ 31 by omega)).mpr z)
    refine am_steps_r ok_O_entry 3 (q' := (bif decide (8 ≤ (nI j)) then 32 else 18, [some (.ref 14), some (.int (nI i)), some (.int (nI j))], [], wd C Y og)) rfl ?_
    refine am_br_r (fun h_3 => ?_) (fun h_3 => ?_)
    · skip
      have h_3 : 8 ≤ j := (nI_leI (show 8 < 2 ^ 31 by omega) (show j < 2 ^ 31 by omega)).mp h_3
      refine am_steps_r ok_O_entry 1 (q' := (33, [some (.ref 14), some (.int (nI i)), some (.int (nI j))], [.int (-1)], wd C Y og)) rfl ?_
      refine am_iret_r ok_O_entry rfl rfl rfl ?_
      first | (exfalso; omega) | exact ⟨rfl, rfl⟩
    · skip
      have h_3 : ¬ 8 ≤ j := fun z => h_3 ((nI_leI (show 8 < 2 ^ 31 by omega) (show j < 2 ^ 31 by omega)).mpr z)
      refine am_steps_r ok_O_entry 7 (q' := (28, [some (.ref 14), some (.int (nI i)), some (.int (nI j))], [.int (((nI i) * 8) + (nI j)), .ref 15], wd C Y og)) rfl ?_
      rw [show ((nI i) * 8 : Int32) = nI (i * 8) from pk_mul i 8]
      rw [show ((nI (i * 8)) + (nI j) : Int32) = nI ((i * 8) + j) from nI_add (i * 8) j]
      refine am_iald_r ok_O_entry rfl (w := wd C Y og) (f := C.2.1 10) rfl rfl (pk_in ((i * 8) + j) 160 (by omega)) ?_
      rw [nI_clamp (show ((i * 8) + j) < 2 ^ 31 by omega)]
      refine am_steps_r ok_O_entry 1 (q' := (33, [some (.ref 14), some (.int (nI i)), some (.int (nI j))], [.int (C.2.1 10 ((i * 8) + j))], wd C Y og)) rfl ?_
      refine am_iret_r ok_O_entry rfl rfl rfl ?_
      first | (exfalso; omega) | exact ⟨rfl, rfl⟩
set_option maxHeartbeats 1000000 in
set_option maxRecDepth 100000 in
theorem c_O_entry_m (d : Nat) (C : wd_C) (Y : wd_Y) (og : Nat → Int64) (no : Nat) (hn : C.1 3 = nI no) (hn2 : no ≤ 20) (j : Nat) : am_Mt l D cA ad fm (d + 1) m_O_entry [.ref 14, .int (-1), .int (nI j)] (wd C Y og) (fun vr w' => vr = some (.int (-1)) ∧ w' = wd C Y og) := by
  refine am_mt ok_O_entry (by simp [am_arg, Value.category, m_O_entry, am_ml]) ?_
  refine am_eq_r (q' := (0, [some (.ref 14), some (.int (-1)), some (.int (nI j))], [], wd C Y og)) rfl ?_
  refine am_steps_r ok_O_entry 2 (q' := (2, [some (.ref 14), some (.int (-1)), some (.int (nI j))], [.int (-1), .ref 14], wd C Y og)) rfl ?_
  refine am_callV_r (As := [.int (-1)]) (rest := []) ok_O_entry rfl rfl ok_O_has oi_O_has lk_0_27 (Or.inl ⟨_, _, _, rfl, rfl, rfl⟩) rfl rfl (Nat.le_of_ble_eq_true rfl) (c_O_has_m _ C Y og no hn hn2) ?_
  rintro v_ w_ ⟨rfl, rfl⟩ -
  refine am_eq_r (q' := (5, [some (.ref 14), some (.int (-1)), some (.int (nI j))], [.int 0], wd C Y og)) rfl ?_
  refine am_steps_r ok_O_entry 2 (q' := (33, [some (.ref 14), some (.int (-1)), some (.int (nI j))], [.int (-1)], wd C Y og)) rfl ?_
  refine am_iret_r ok_O_entry rfl rfl rfl ?_
  first | (exfalso; omega) | exact ⟨rfl, rfl⟩
set_option maxHeartbeats 1000000 in
set_option maxRecDepth 100000 in
theorem c_O_setEntry (d : Nat) (C : wd_C) (Y : wd_Y) (og : Nat → Int64) (no : Nat) (hn : C.1 3 = nI no) (hn2 : no ≤ 20) (i j : Nat) (hi : i < no) (hj : j < 8) (x : Int32) : am_Mt l D cA ad fm (d + 1) m_O_setEntry [.ref 14, .int (nI i), .int (nI j), .int x] (wd C Y og) (fun vr w' => vr = none ∧ w' = wd (C.1, wd_u C.2.1 10 (upd (C.2.1 10) (i * 8 + j) x), C.2.2) Y og) := by
  refine am_mt ok_O_setEntry (by simp [am_arg, Value.category, m_O_setEntry, am_ml]) ?_
  refine am_eq_r (q' := (0, [some (.ref 14), some (.int (nI i)), some (.int (nI j)), some (.int x)], [], wd C Y og)) rfl ?_
  refine am_steps_r ok_O_setEntry 2 (q' := (2, [some (.ref 14), some (.int (nI i)), some (.int (nI j)), some (.int x)], [.int (nI i), .ref 14], wd C Y og)) rfl ?_
  refine am_callV_r (As := [.int (nI i)]) (rest := []) ok_O_setEntry rfl rfl ok_O_has oi_O_has lk_0_27 (Or.inl ⟨_, _, _, rfl, rfl, rfl⟩) rfl rfl (Nat.le_of_ble_eq_true rfl) (c_O_has_in _ C Y og no hn hn2 i (by omega)) ?_
  rintro v_ w_ ⟨rfl, rfl⟩ -
  refine am_eq_r (q' := (5, [some (.ref 14), some (.int (nI i)), some (.int (nI j)), some (.int x)], [.int 1], wd C Y og)) rfl ?_
  refine am_steps_r ok_O_setEntry 3 (q' := (bif decide ((nI j) < 0) then 30 else 12, [some (.ref 14), some (.int (nI i)), some (.int (nI j)), some (.int x)], [], wd C Y og)) rfl ?_
  refine am_br_r (fun h_2 => ?_) (fun h_2 => ?_)
  · skip
    have h_2 : j < 0 := (nI_ltI (show j < 2 ^ 31 by omega) (show 0 < 2 ^ 31 by omega)).mp h_2
    refine am_vret_r ok_O_setEntry rfl rfl rfl ?_
    first | (exfalso; omega) | exact ⟨rfl, rfl⟩
  · skip
    have h_2 : ¬ j < 0 := fun z => h_2 ((nI_ltI (show j < 2 ^ 31 by omega) (show 0 < 2 ^ 31 by omega)).mpr z)
    refine am_steps_r ok_O_setEntry 3 (q' := (bif decide (8 ≤ (nI j)) then 30 else 18, [some (.ref 14), some (.int (nI i)), some (.int (nI j)), some (.int x)], [], wd C Y og)) rfl ?_
    refine am_br_r (fun h_3 => ?_) (fun h_3 => ?_)
    · skip
      have h_3 : 8 ≤ j := (nI_leI (show 8 < 2 ^ 31 by omega) (show j < 2 ^ 31 by omega)).mp h_3
      refine am_vret_r ok_O_setEntry rfl rfl rfl ?_
      first | (exfalso; omega) | exact ⟨rfl, rfl⟩
    · skip
      have h_3 : ¬ 8 ≤ j := fun z => h_3 ((nI_leI (show 8 < 2 ^ 31 by omega) (show j < 2 ^ 31 by omega)).mpr z)
      refine am_steps_r ok_O_setEntry 8 (q' := (29, [some (.ref 14), some (.int (nI i)), some (.int (nI j)), some (.int x)], [.int x, .int (((nI i) * 8) + (nI j)), .ref 15], wd C Y og)) rfl ?_
      rw [show ((nI i) * 8 : Int32) = nI (i * 8) from pk_mul i 8]
      rw [show ((nI (i * 8)) + (nI j) : Int32) = nI ((i * 8) + j) from nI_add (i * 8) j]
      refine am_iast_r ok_O_setEntry rfl (w := wd C Y og) (f := C.2.1 10) rfl rfl (pk_in ((i * 8) + j) 160 (by omega)) ?_
      rw [nI_clamp (show ((i * 8) + j) < 2 ^ 31 by omega)]
      refine am_eq_r (q' := (30, [some (.ref 14), some (.int (nI i)), some (.int (nI j)), some (.int x)], [], wd (C.1, wd_u C.2.1 10 (upd (C.2.1 10) ((i * 8) + j) x), C.2.2) Y og)) rfl ?_
      refine am_vret_r ok_O_setEntry rfl rfl rfl ?_
      first | (exfalso; omega) | exact ⟨rfl, rfl⟩
set_option maxHeartbeats 1000000 in
set_option maxRecDepth 100000 in
theorem c_O_valueOf_in (d : Nat) (C : wd_C) (Y : wd_Y) (og : Nat → Int64) (no : Nat) (E : Nat → Nat → Int32) (hO : obC C no E) (i : Nat) (hi : i < no) : am_Mt l D cA ad fm (d + 2) m_O_valueOf [.ref 14, .int (nI i)] (wd C Y og) (fun vr w' => vr = some (.int (E i 2)) ∧ w' = wd C Y og) := by
  have hn := hO.1
  have hn2 := hO.2.1
  have hE := hO.2.2
  refine am_mt ok_O_valueOf (by simp [am_arg, Value.category, m_O_valueOf, am_ml]) ?_
  refine am_eq_r (q' := (0, [some (.ref 14), some (.int (nI i))], [], wd C Y og)) rfl ?_
  refine am_steps_r ok_O_valueOf 3 (q' := (3, [some (.ref 14), some (.int (nI i))], [.int 2, .int (nI i), .ref 14], wd C Y og)) rfl ?_
  refine am_callV_r (As := [.int (nI i), .int 2]) (rest := []) ok_O_valueOf rfl rfl ok_O_entry oi_O_entry lk_0_31 (Or.inl ⟨_, _, _, rfl, rfl, rfl⟩) rfl rfl (Nat.le_of_ble_eq_true rfl) (c_O_entry_in _ C Y og no hn hn2 i 2 (by omega) (by omega)) ?_
  rintro v_ w_ ⟨rfl, rfl⟩ -
  rw [hE i (by omega) 2 (by omega)]
  refine am_eq_r (q' := (6, [some (.ref 14), some (.int (nI i))], [.int (E i 2)], wd C Y og)) rfl ?_
  refine am_iret_r ok_O_valueOf rfl rfl rfl ?_
  exact ⟨rfl, rfl⟩
set_option maxHeartbeats 1000000 in
set_option maxRecDepth 100000 in
theorem c_O_valueOf_m (d : Nat) (C : wd_C) (Y : wd_Y) (og : Nat → Int64) (no : Nat) (E : Nat → Nat → Int32) (hO : obC C no E)  : am_Mt l D cA ad fm (d + 2) m_O_valueOf [.ref 14, .int (-1)] (wd C Y og) (fun vr w' => vr = some (.int (-1)) ∧ w' = wd C Y og) := by
  have hn := hO.1
  have hn2 := hO.2.1
  have hE := hO.2.2
  refine am_mt ok_O_valueOf (by simp [am_arg, Value.category, m_O_valueOf, am_ml]) ?_
  refine am_eq_r (q' := (0, [some (.ref 14), some (.int (-1))], [], wd C Y og)) rfl ?_
  refine am_steps_r ok_O_valueOf 3 (q' := (3, [some (.ref 14), some (.int (-1))], [.int 2, .int (-1), .ref 14], wd C Y og)) rfl ?_
  refine am_callV_r (As := [.int (-1), .int 2]) (rest := []) ok_O_valueOf rfl rfl ok_O_entry oi_O_entry lk_0_31 (Or.inl ⟨_, _, _, rfl, rfl, rfl⟩) rfl rfl (Nat.le_of_ble_eq_true rfl) (c_O_entry_m _ C Y og no hn hn2 2) ?_
  rintro v_ w_ ⟨rfl, rfl⟩ -
  refine am_eq_r (q' := (6, [some (.ref 14), some (.int (-1))], [.int (-1)], wd C Y og)) rfl ?_
  refine am_iret_r ok_O_valueOf rfl rfl rfl ?_
  exact ⟨rfl, rfl⟩
theorem nI_dec (m : Nat) : nI m + (-1) = nI m - 1 := by rw [Int32.sub_eq_add_neg]
set_option maxHeartbeats 1000000 in
set_option maxRecDepth 100000 in
theorem lp_O_latest_7 (d : Nat) (C : wd_C) (Y : wd_Y) (og : Nat → Int64) (no : Nat) (E : Nat → Nat → Int32) (hO : obC C no E) (a g : Int32) : ∀ (m : Nat) (post : Option Value → am_W → Prop), m ≤ no → post (some (.int (oN (fnO E a g m)))) (wd C Y og) → am_Rn l D cA ad fm (d + 2) m_O_latest (wd C Y og).length post (7, [some (.ref 14), some (.int a), some (.int g), some (.int (nI m - 1))], [], wd C Y og) := by
  have hn := hO.1
  have hn2 := hO.2.1
  have hE := hO.2.2
  intro m
  induction m with
  | zero =>
    intro post hm hp
    refine am_eq_r (q' := (7, [some (.ref 14), some (.int a), some (.int g), some (.int (-1))], [], wd C Y og)) rfl ?_
    refine am_steps_r ok_O_latest 3 (q' := (50, [some (.ref 14), some (.int a), some (.int g), some (.int (-1))], [.int (-1)], wd C Y og)) rfl ?_
    refine am_iret_r ok_O_latest rfl rfl rfl ?_
    exact hp
  | succ m ih =>
    intro post hm hp
    refine am_eq_r (q' := (7, [some (.ref 14), some (.int a), some (.int g), some (.int (nI m))], [], wd C Y og)) (by rw [nI_pred]) ?_
    refine am_steps_r ok_O_latest 2 (q' := (bif decide ((nI m) < 0) then 49 else 11, [some (.ref 14), some (.int a), some (.int g), some (.int (nI m))], [], wd C Y og)) rfl ?_
    refine am_br_r (fun h_1 => ?_) (fun h_1 => ?_)
    · skip
      have h_1 : m < 0 := (nI_ltI (show m < 2 ^ 31 by omega) (show 0 < 2 ^ 31 by omega)).mp h_1
      refine am_steps_r ok_O_latest 1 (q' := (50, [some (.ref 14), some (.int a), some (.int g), some (.int (nI m))], [.int (-1)], wd C Y og)) rfl ?_
      refine am_iret_r ok_O_latest rfl rfl rfl ?_
      exfalso; omega
    · skip
      have h_1 : ¬ m < 0 := fun z => h_1 ((nI_ltI (show m < 2 ^ 31 by omega) (show 0 < 2 ^ 31 by omega)).mpr z)
      refine am_steps_r ok_O_latest 3 (q' := (14, [some (.ref 14), some (.int a), some (.int g), some (.int (nI m))], [.int 0, .int (nI m), .ref 14], wd C Y og)) rfl ?_
      refine am_callV_r (As := [.int (nI m), .int 0]) (rest := []) ok_O_latest rfl rfl ok_O_entry oi_O_entry lk_0_31 (Or.inl ⟨_, _, _, rfl, rfl, rfl⟩) rfl rfl (Nat.le_of_ble_eq_true rfl) (c_O_entry_in _ C Y og no hn hn2 m 0 (by omega) (by omega)) ?_
      rintro v_ w_ ⟨rfl, rfl⟩ -
      rw [hE m (by omega) 0 (by omega)]
      refine am_eq_r (q' := (17, [some (.ref 14), some (.int a), some (.int g), some (.int (nI m))], [.int (E m 0)], wd C Y og)) rfl ?_
      refine am_steps_r ok_O_latest 2 (q' := (bif decide ((E m 0) = a) then 21 else 43, [some (.ref 14), some (.int a), some (.int g), some (.int (nI m))], [], wd C Y og)) rfl ?_
      refine am_br_r (fun h_2 => ?_) (fun h_2 => ?_)
      · skip
        refine am_steps_r ok_O_latest 3 (q' := (24, [some (.ref 14), some (.int a), some (.int g), some (.int (nI m))], [.int 1, .int (nI m), .ref 14], wd C Y og)) rfl ?_
        refine am_callV_r (As := [.int (nI m), .int 1]) (rest := []) ok_O_latest rfl rfl ok_O_entry oi_O_entry lk_0_31 (Or.inl ⟨_, _, _, rfl, rfl, rfl⟩) rfl rfl (Nat.le_of_ble_eq_true rfl) (c_O_entry_in _ C Y og no hn hn2 m 1 (by omega) (by omega)) ?_
        rintro v_ w_ ⟨rfl, rfl⟩ -
        rw [hE m (by omega) 1 (by omega)]
        refine am_eq_r (q' := (27, [some (.ref 14), some (.int a), some (.int g), some (.int (nI m))], [.int (E m 1)], wd C Y og)) rfl ?_
        refine am_steps_r ok_O_latest 2 (q' := (bif decide ((E m 1) = g) then 31 else 43, [some (.ref 14), some (.int a), some (.int g), some (.int (nI m))], [], wd C Y og)) rfl ?_
        refine am_br_r (fun h_3 => ?_) (fun h_3 => ?_)
        · skip
          refine am_steps_r ok_O_latest 3 (q' := (34, [some (.ref 14), some (.int a), some (.int g), some (.int (nI m))], [.int 2, .int (nI m), .ref 14], wd C Y og)) rfl ?_
          refine am_callV_r (As := [.int (nI m), .int 2]) (rest := []) ok_O_latest rfl rfl ok_O_entry oi_O_entry lk_0_31 (Or.inl ⟨_, _, _, rfl, rfl, rfl⟩) rfl rfl (Nat.le_of_ble_eq_true rfl) (c_O_entry_in _ C Y og no hn hn2 m 2 (by omega) (by omega)) ?_
          rintro v_ w_ ⟨rfl, rfl⟩ -
          rw [hE m (by omega) 2 (by omega)]
          refine am_eq_r (q' := (37, [some (.ref 14), some (.int a), some (.int g), some (.int (nI m))], [.int (E m 2)], wd C Y og)) rfl ?_
          refine am_steps_r ok_O_latest 2 (q' := (bif decide ((E m 2) = (-1)) then 43 else 41, [some (.ref 14), some (.int a), some (.int g), some (.int (nI m))], [], wd C Y og)) rfl ?_
          refine am_br_r (fun h_4 => ?_) (fun h_4 => ?_)
          · skip
            refine am_steps_r ok_O_latest 2 (q' := (7, [some (.ref 14), some (.int a), some (.int g), some (.int ((nI m) + (-1)))], [], wd C Y og)) rfl ?_
            refine am_eq_r (q' := (7, [some (.ref 14), some (.int a), some (.int g), some (.int (nI m - 1))], [], wd C Y og)) (by rw [nI_dec]) ?_
            refine ih post (by omega) ?_
            rw [fnO, if_neg (by rintro ⟨z1, z2, z3⟩; contradiction)] at hp
            exact hp
          · skip
            refine am_steps_r ok_O_latest 1 (q' := (42, [some (.ref 14), some (.int a), some (.int g), some (.int (nI m))], [.int (nI m)], wd C Y og)) rfl ?_
            refine am_iret_r ok_O_latest rfl rfl rfl ?_
            rw [fnO, if_pos ⟨by assumption, by assumption, by assumption⟩] at hp
            exact hp
        · skip
          refine am_steps_r ok_O_latest 2 (q' := (7, [some (.ref 14), some (.int a), some (.int g), some (.int ((nI m) + (-1)))], [], wd C Y og)) rfl ?_
          refine am_eq_r (q' := (7, [some (.ref 14), some (.int a), some (.int g), some (.int (nI m - 1))], [], wd C Y og)) (by rw [nI_dec]) ?_
          refine ih post (by omega) ?_
          rw [fnO, if_neg (by rintro ⟨z1, z2, z3⟩; contradiction)] at hp
          exact hp
      · skip
        refine am_steps_r ok_O_latest 2 (q' := (7, [some (.ref 14), some (.int a), some (.int g), some (.int ((nI m) + (-1)))], [], wd C Y og)) rfl ?_
        refine am_eq_r (q' := (7, [some (.ref 14), some (.int a), some (.int g), some (.int (nI m - 1))], [], wd C Y og)) (by rw [nI_dec]) ?_
        refine ih post (by omega) ?_
        rw [fnO, if_neg (by rintro ⟨z1, z2, z3⟩; contradiction)] at hp
        exact hp
set_option maxHeartbeats 1000000 in
set_option maxRecDepth 100000 in
theorem c_O_latest (d : Nat) (C : wd_C) (Y : wd_Y) (og : Nat → Int64) (no : Nat) (E : Nat → Nat → Int32) (hO : obC C no E) (a g : Int32) : am_Mt l D cA ad fm (d + 2) m_O_latest [.ref 14, .int a, .int g] (wd C Y og) (fun vr w' => vr = some (.int (oN (fnO E a g no))) ∧ w' = wd C Y og) := by
  have hn := hO.1
  have hn2 := hO.2.1
  have hE := hO.2.2
  refine am_mt ok_O_latest (by simp [am_arg, Value.category, m_O_latest, am_ml]) ?_
  refine am_eq_r (q' := (0, [some (.ref 14), some (.int a), some (.int g), none], [], wd C Y og)) rfl ?_
  refine am_steps_r ok_O_latest 5 (q' := (7, [some (.ref 14), some (.int a), some (.int g), some (.int ((C.1 3) - 1))], [], wd C Y og)) rfl ?_
  rw [show (C.1 3 : Int32) = nI no from hn]
  exact lp_O_latest_7 d C Y og no E hO a g no _ (Nat.le_refl _) ⟨rfl, rfl⟩
theorem mmx {x : Int32} {a c : Nat} (hx : x = nI a) (ha : a < 2 ^ 31) (h : c ≤ a) : (if (0 : Int32) < (if nI c < x then nI c else x) then (if nI c < x then nI c else x) else 0) = nI c := by
  subst hx
  have e : (if nI c < nI a then nI c else nI a) = nI c := by
    by_cases hc : c < a
    · rw [if_pos ((nI_ltI (by omega) ha).mpr hc)]
    · rw [show c = a by omega]
      split <;> rfl
  rw [e]
  by_cases h0 : (0 : Int32) < nI c
  · rw [if_pos h0]
  · rw [if_neg h0]
    have : ¬ 0 < c := fun z => h0 ((nI_ltI (a := 0) (by omega) (by omega)).mpr z)
    rw [show c = 0 by omega]
    rfl
set_option maxRecDepth 100000 in
theorem lk_3_51 : Cond.methodLink (pr_cn 3) 51 Lib.Math.min.name ∈ lw_g := am_in 303 (by decide +kernel) rfl
set_option maxRecDepth 100000 in
theorem lk_3_57 : Cond.methodLink (pr_cn 3) 57 Lib.Math.max.name ∈ lw_g := am_in 306 (by decide +kernel) rfl
set_option maxHeartbeats 1000000 in
set_option maxRecDepth 100000 in
theorem c_V_cutBack (d : Nat) (C : wd_C) (Y : wd_Y) (og : Nat → Int64) (nv u : Nat) (hV : vsz C nv u) (c1 c2 : Nat) (h1 : c1 ≤ nv) (h2 : c2 ≤ u) : am_Mt l D cA ad fm (d + 1) m_V_cutBack [.ref 3, .int (nI c1), .int (nI c2)] (wd C Y og) (fun vr w' => vr = none ∧ w' = wd (upd (upd C.1 1 (nI c1)) 2 (nI c2), C.2) Y og) := by
  have hv1 := hV.2.1
  have hv2 := hV.2.2.2
  refine am_mt ok_V_cutBack (by simp [am_arg, Value.category, m_V_cutBack, am_ml]) ?_
  refine am_eq_r (q' := (0, [some (.ref 3), some (.int (nI c1)), some (.int (nI c2))], [], wd C Y og)) rfl ?_
  refine am_steps_r ok_V_cutBack 5 (q' := (7, [some (.ref 3), some (.int (nI c1)), some (.int (nI c2))], [.int (nI c1), .int (C.1 1), .int 0, .ref 3], wd C Y og)) rfl ?_
  rw [show (C.1 1 : Int32) = nI nv from hV.1]
  refine am_mmin_r ok_V_cutBack rfl (hrs := Nat.le_of_ble_eq_true rfl) lk_3_51 ?_
  refine am_mmax_r ok_V_cutBack rfl (hrs := Nat.le_of_ble_eq_true rfl) lk_3_57 ?_
  rw [mmx (x := nI nv) (a := nv) rfl (by omega) h1]
  refine am_steps_r ok_V_cutBack 6 (q' := (23, [some (.ref 3), some (.int (nI c1)), some (.int (nI c2))], [.int (nI c2), .int (C.1 2), .int 0, .ref 3], wd (upd C.1 1 (nI c1), C.2) Y og)) rfl ?_
  rw [show (C.1 2 : Int32) = nI u from hV.2.2.1]
  refine am_mmin_r ok_V_cutBack rfl (hrs := Nat.le_of_ble_eq_true rfl) lk_3_51 ?_
  refine am_mmax_r ok_V_cutBack rfl (hrs := Nat.le_of_ble_eq_true rfl) lk_3_57 ?_
  rw [mmx (x := nI u) (a := u) rfl (by omega) h2]
  refine am_steps_r ok_V_cutBack 1 (q' := (32, [some (.ref 3), some (.int (nI c1)), some (.int (nI c2))], [], wd (upd (upd C.1 1 (nI c1)) 2 (nI c2), C.2) Y og)) rfl ?_
  refine am_vret_r ok_V_cutBack rfl rfl rfl ?_
  exact ⟨rfl, rfl⟩
end C69
