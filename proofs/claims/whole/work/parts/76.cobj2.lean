/-! the component reads an object; printed by wip/gen/g76.py -/
section C76
variable {l : Launch} {D : va_G} {cA : Nat → ClassId} {ad : Nat → Nat} {fm : Value}
set_option maxHeartbeats 2000000 in
set_option maxRecDepth 100000 in
theorem c_O_begin (d : Nat) (C : wd_C) (Y : wd_Y) (og : Nat → Int64) (no : Nat) (hn : C.1 3 = nI no) (hn2 : no < 20) (a g q : Int32) : am_Mt l D cA ad fm (d + 2) m_O_begin [.ref 14, .int a, .int g, .int q] (wd C Y og) (fun vr w' => vr = some (.int (nI no)) ∧ ∃ C' : wd_C, w' = wd C' Y og ∧ (∀ j, j ≠ 3 → C'.1 j = C.1 j) ∧ C'.1 3 = nI (no + 1) ∧ (∀ j, j ≠ 10 → C'.2.1 j = C.2.1 j) ∧ C'.2.2 = C.2.2 ∧ (∀ i, i < no → ∀ j, j < 8 → C'.2.1 10 (i * 8 + j) = C.2.1 10 (i * 8 + j)) ∧ C'.2.1 10 (no * 8 + 0) = a ∧ C'.2.1 10 (no * 8 + 1) = g ∧ C'.2.1 10 (no * 8 + 2) = -1 ∧ C'.2.1 10 (no * 8 + 6) = q) := by
  refine am_mt ok_O_begin (by simp [am_arg, Value.category, m_O_begin, am_ml]) ?_
  refine am_eq_r (q' := (0, [some (.ref 14), some (.int a), some (.int g), some (.int q), none], [], wd C Y og)) rfl ?_
  refine am_steps_r ok_O_begin 1 (q' := (1, [some (.ref 14), some (.int a), some (.int g), some (.int q), none], [.ref 14], wd C Y og)) rfl ?_
  refine am_callV_r (As := []) (rest := []) ok_O_begin rfl rfl ok_O_hasRoom oi_O_hasRoom lk_0_19 (Or.inl ⟨_, _, _, rfl, rfl, rfl⟩) rfl rfl (Nat.le_of_ble_eq_true rfl) (c_O_hasRoom _ C Y og no hn (by omega)) ?_
  rintro v_ w_ ⟨rfl, rfl⟩ -
  refine am_eq_r (q' := (4, [some (.ref 14), some (.int a), some (.int g), some (.int q), none], [.int (bz (decide (no < 20)))], wd C Y og)) rfl ?_
  refine am_steps_r ok_O_begin 1 (q' := (bif decide ((bz (decide (no < 20))) = 0) then 7 else 9, [some (.ref 14), some (.int a), some (.int g), some (.int q), none], [], wd C Y og)) rfl ?_
  refine am_bz_r (fun h_2 => ?_) (fun h_2 => ?_)
  · skip
    refine am_steps_r ok_O_begin 13 (q' := (30, [some (.ref 14), some (.int a), some (.int g), some (.int q), some (.int (C.1 3))], [.int a, .int 0, .int (C.1 3), .ref 14], wd (upd C.1 3 ((C.1 3) + 1), C.2) Y og)) rfl ?_
    rw [show (C.1 3 : Int32) = nI no from hn]
    rw [show ((nI no) + 1 : Int32) = nI (no + 1) from nI_add no 1]
    refine am_callV_r (As := [.int (nI no), .int 0, .int a]) (rest := []) ok_O_begin rfl rfl ok_O_setEntry oi_O_setEntry lk_0_23 (Or.inl ⟨_, _, _, rfl, rfl, rfl⟩) rfl rfl (Nat.le_of_ble_eq_true rfl) (c_O_setEntry _ (upd C.1 3 (nI (no + 1)), C.2) Y og (no + 1) rfl (by omega) no 0 (by omega) (by omega) a) ?_
    rintro v_ w_ ⟨rfl, rfl⟩ -
    refine am_eq_r (q' := (33, [some (.ref 14), some (.int a), some (.int g), some (.int q), some (.int (nI no))], [], wd (upd C.1 3 (nI (no + 1)), wd_u C.2.1 10 (upd (C.2.1 10) (no * 8 + 0) a), C.2.2) Y og)) rfl ?_
    refine am_steps_r ok_O_begin 4 (q' := (38, [some (.ref 14), some (.int a), some (.int g), some (.int q), some (.int (nI no))], [.int g, .int 1, .int (nI no), .ref 14], wd (upd C.1 3 (nI (no + 1)), wd_u C.2.1 10 (upd (C.2.1 10) (no * 8 + 0) a), C.2.2) Y og)) rfl ?_
    refine am_callV_r (As := [.int (nI no), .int 1, .int g]) (rest := []) ok_O_begin rfl rfl ok_O_setEntry oi_O_setEntry lk_0_23 (Or.inl ⟨_, _, _, rfl, rfl, rfl⟩) rfl rfl (Nat.le_of_ble_eq_true rfl) (c_O_setEntry _ (upd C.1 3 (nI (no + 1)), wd_u C.2.1 10 (upd (C.2.1 10) (no * 8 + 0) a), C.2.2) Y og (no + 1) rfl (by omega) no 1 (by omega) (by omega) g) ?_
    rintro v_ w_ ⟨rfl, rfl⟩ -
    refine am_eq_r (q' := (41, [some (.ref 14), some (.int a), some (.int g), some (.int q), some (.int (nI no))], [], wd (upd C.1 3 (nI (no + 1)), wd_u C.2.1 10 (upd (upd (C.2.1 10) (no * 8 + 0) a) (no * 8 + 1) g), C.2.2) Y og)) rfl ?_
    refine am_steps_r ok_O_begin 4 (q' := (46, [some (.ref 14), some (.int a), some (.int g), some (.int q), some (.int (nI no))], [.int (-1), .int 2, .int (nI no), .ref 14], wd (upd C.1 3 (nI (no + 1)), wd_u C.2.1 10 (upd (upd (C.2.1 10) (no * 8 + 0) a) (no * 8 + 1) g), C.2.2) Y og)) rfl ?_
    refine am_callV_r (As := [.int (nI no), .int 2, .int (-1)]) (rest := []) ok_O_begin rfl rfl ok_O_setEntry oi_O_setEntry lk_0_23 (Or.inl ⟨_, _, _, rfl, rfl, rfl⟩) rfl rfl (Nat.le_of_ble_eq_true rfl) (c_O_setEntry _ (upd C.1 3 (nI (no + 1)), wd_u C.2.1 10 (upd (upd (C.2.1 10) (no * 8 + 0) a) (no * 8 + 1) g), C.2.2) Y og (no + 1) rfl (by omega) no 2 (by omega) (by omega) (-1)) ?_
    rintro v_ w_ ⟨rfl, rfl⟩ -
    refine am_eq_r (q' := (49, [some (.ref 14), some (.int a), some (.int g), some (.int q), some (.int (nI no))], [], wd (upd C.1 3 (nI (no + 1)), wd_u C.2.1 10 (upd (upd (upd (C.2.1 10) (no * 8 + 0) a) (no * 8 + 1) g) (no * 8 + 2) (-1)), C.2.2) Y og)) rfl ?_
    refine am_steps_r ok_O_begin 4 (q' := (55, [some (.ref 14), some (.int a), some (.int g), some (.int q), some (.int (nI no))], [.int q, .int 6, .int (nI no), .ref 14], wd (upd C.1 3 (nI (no + 1)), wd_u C.2.1 10 (upd (upd (upd (C.2.1 10) (no * 8 + 0) a) (no * 8 + 1) g) (no * 8 + 2) (-1)), C.2.2) Y og)) rfl ?_
    refine am_callV_r (As := [.int (nI no), .int 6, .int q]) (rest := []) ok_O_begin rfl rfl ok_O_setEntry oi_O_setEntry lk_0_23 (Or.inl ⟨_, _, _, rfl, rfl, rfl⟩) rfl rfl (Nat.le_of_ble_eq_true rfl) (c_O_setEntry _ (upd C.1 3 (nI (no + 1)), wd_u C.2.1 10 (upd (upd (upd (C.2.1 10) (no * 8 + 0) a) (no * 8 + 1) g) (no * 8 + 2) (-1)), C.2.2) Y og (no + 1) rfl (by omega) no 6 (by omega) (by omega) q) ?_
    rintro v_ w_ ⟨rfl, rfl⟩ -
    refine am_eq_r (q' := (58, [some (.ref 14), some (.int a), some (.int g), some (.int q), some (.int (nI no))], [], wd (upd C.1 3 (nI (no + 1)), wd_u C.2.1 10 (upd (upd (upd (upd (C.2.1 10) (no * 8 + 0) a) (no * 8 + 1) g) (no * 8 + 2) (-1)) (no * 8 + 6) q), C.2.2) Y og)) rfl ?_
    refine am_steps_r ok_O_begin 1 (q' := (60, [some (.ref 14), some (.int a), some (.int g), some (.int q), some (.int (nI no))], [.int (nI no)], wd (upd C.1 3 (nI (no + 1)), wd_u C.2.1 10 (upd (upd (upd (upd (C.2.1 10) (no * 8 + 0) a) (no * 8 + 1) g) (no * 8 + 2) (-1)) (no * 8 + 6) q), C.2.2) Y og)) rfl ?_
    refine am_iret_r ok_O_begin rfl rfl rfl ?_
    refine ⟨rfl, _, rfl, fun j hj => by simp [upd, hj], rfl, fun j hj => by simp [wd_u, hj], rfl, fun i hi j hj => ?_, by simp [wd_u, upd], by simp [wd_u, upd], by simp [wd_u, upd], by simp [wd_u, upd]⟩
    have e0 : ¬ i * 8 + j = no * 8 + 0 := by omega
    have e1 : ¬ i * 8 + j = no * 8 + 1 := by omega
    have e2 : ¬ i * 8 + j = no * 8 + 2 := by omega
    have e6 : ¬ i * 8 + j = no * 8 + 6 := by omega
    show upd (upd (upd (upd (C.2.1 10) (no * 8 + 0) a) (no * 8 + 1) g) (no * 8 + 2) (-1)) (no * 8 + 6) q (i * 8 + j) = _
    rw [upd, if_neg e6, upd, if_neg e2, upd, if_neg e1, upd, if_neg e0]
  · skip
    refine am_steps_r ok_O_begin 1 (q' := (8, [some (.ref 14), some (.int a), some (.int g), some (.int q), none], [.int (-1)], wd C Y og)) rfl ?_
    refine am_iret_r ok_O_begin rfl rfl rfl ?_
    exfalso; simp at *; omega
set_option maxHeartbeats 2000000 in
set_option maxRecDepth 100000 in
theorem c_O_end (d : Nat) (C : wd_C) (Y : wd_Y) (og : Nat → Int64) (no : Nat) (hn : C.1 3 = nI (no + 1)) (hn2 : no < 20) (a2 a3 a4 a5 a7 : Int32) : am_Mt l D cA ad fm (d + 2) m_O_end [.ref 14, .int (nI no), .int a2, .int a3, .int a4, .int a5, .int a7] (wd C Y og) (fun vr w' => vr = none ∧ ∃ C' : wd_C, w' = wd C' Y og ∧ C'.1 = C.1 ∧ (∀ j, j ≠ 10 → C'.2.1 j = C.2.1 j) ∧ C'.2.2 = C.2.2 ∧ (∀ i, i < no → ∀ j, j < 8 → C'.2.1 10 (i * 8 + j) = C.2.1 10 (i * 8 + j)) ∧ C'.2.1 10 (no * 8 + 0) = C.2.1 10 (no * 8 + 0) ∧ C'.2.1 10 (no * 8 + 1) = C.2.1 10 (no * 8 + 1) ∧ C'.2.1 10 (no * 8 + 2) = a2 ∧ C'.2.1 10 (no * 8 + 3) = a3 ∧ C'.2.1 10 (no * 8 + 4) = a4 ∧ C'.2.1 10 (no * 8 + 5) = a5 ∧ C'.2.1 10 (no * 8 + 6) = C.2.1 10 (no * 8 + 6) ∧ C'.2.1 10 (no * 8 + 7) = a7) := by
  refine am_mt ok_O_end (by simp [am_arg, Value.category, m_O_end, am_ml]) ?_
  refine am_eq_r (q' := (0, [some (.ref 14), some (.int (nI no)), some (.int a2), some (.int a3), some (.int a4), some (.int a5), some (.int a7)], [], wd C Y og)) rfl ?_
  refine am_steps_r ok_O_end 4 (q' := (4, [some (.ref 14), some (.int (nI no)), some (.int a2), some (.int a3), some (.int a4), some (.int a5), some (.int a7)], [.int a2, .int 2, .int (nI no), .ref 14], wd C Y og)) rfl ?_
  refine am_callV_r (As := [.int (nI no), .int 2, .int a2]) (rest := []) ok_O_end rfl rfl ok_O_setEntry oi_O_setEntry lk_0_23 (Or.inl ⟨_, _, _, rfl, rfl, rfl⟩) rfl rfl (Nat.le_of_ble_eq_true rfl) (c_O_setEntry _ C Y og (no + 1) hn (by omega) no 2 (by omega) (by omega) a2) ?_
  rintro v_ w_ ⟨rfl, rfl⟩ -
  refine am_eq_r (q' := (7, [some (.ref 14), some (.int (nI no)), some (.int a2), some (.int a3), some (.int a4), some (.int a5), some (.int a7)], [], wd (C.1, wd_u C.2.1 10 (upd (C.2.1 10) (no * 8 + 2) a2), C.2.2) Y og)) rfl ?_
  refine am_steps_r ok_O_end 4 (q' := (11, [some (.ref 14), some (.int (nI no)), some (.int a2), some (.int a3), some (.int a4), some (.int a5), some (.int a7)], [.int a3, .int 3, .int (nI no), .ref 14], wd (C.1, wd_u C.2.1 10 (upd (C.2.1 10) (no * 8 + 2) a2), C.2.2) Y og)) rfl ?_
  refine am_callV_r (As := [.int (nI no), .int 3, .int a3]) (rest := []) ok_O_end rfl rfl ok_O_setEntry oi_O_setEntry lk_0_23 (Or.inl ⟨_, _, _, rfl, rfl, rfl⟩) rfl rfl (Nat.le_of_ble_eq_true rfl) (c_O_setEntry _ (C.1, wd_u C.2.1 10 (upd (C.2.1 10) (no * 8 + 2) a2), C.2.2) Y og (no + 1) hn (by omega) no 3 (by omega) (by omega) a3) ?_
  rintro v_ w_ ⟨rfl, rfl⟩ -
  refine am_eq_r (q' := (14, [some (.ref 14), some (.int (nI no)), some (.int a2), some (.int a3), some (.int a4), some (.int a5), some (.int a7)], [], wd (C.1, wd_u C.2.1 10 (upd (upd (C.2.1 10) (no * 8 + 2) a2) (no * 8 + 3) a3), C.2.2) Y og)) rfl ?_
  refine am_steps_r ok_O_end 4 (q' := (19, [some (.ref 14), some (.int (nI no)), some (.int a2), some (.int a3), some (.int a4), some (.int a5), some (.int a7)], [.int a4, .int 4, .int (nI no), .ref 14], wd (C.1, wd_u C.2.1 10 (upd (upd (C.2.1 10) (no * 8 + 2) a2) (no * 8 + 3) a3), C.2.2) Y og)) rfl ?_
  refine am_callV_r (As := [.int (nI no), .int 4, .int a4]) (rest := []) ok_O_end rfl rfl ok_O_setEntry oi_O_setEntry lk_0_23 (Or.inl ⟨_, _, _, rfl, rfl, rfl⟩) rfl rfl (Nat.le_of_ble_eq_true rfl) (c_O_setEntry _ (C.1, wd_u C.2.1 10 (upd (upd (C.2.1 10) (no * 8 + 2) a2) (no * 8 + 3) a3), C.2.2) Y og (no + 1) hn (by omega) no 4 (by omega) (by omega) a4) ?_
  rintro v_ w_ ⟨rfl, rfl⟩ -
  refine am_eq_r (q' := (22, [some (.ref 14), some (.int (nI no)), some (.int a2), some (.int a3), some (.int a4), some (.int a5), some (.int a7)], [], wd (C.1, wd_u C.2.1 10 (upd (upd (upd (C.2.1 10) (no * 8 + 2) a2) (no * 8 + 3) a3) (no * 8 + 4) a4), C.2.2) Y og)) rfl ?_
  refine am_steps_r ok_O_end 4 (q' := (27, [some (.ref 14), some (.int (nI no)), some (.int a2), some (.int a3), some (.int a4), some (.int a5), some (.int a7)], [.int a5, .int 5, .int (nI no), .ref 14], wd (C.1, wd_u C.2.1 10 (upd (upd (upd (C.2.1 10) (no * 8 + 2) a2) (no * 8 + 3) a3) (no * 8 + 4) a4), C.2.2) Y og)) rfl ?_
  refine am_callV_r (As := [.int (nI no), .int 5, .int a5]) (rest := []) ok_O_end rfl rfl ok_O_setEntry oi_O_setEntry lk_0_23 (Or.inl ⟨_, _, _, rfl, rfl, rfl⟩) rfl rfl (Nat.le_of_ble_eq_true rfl) (c_O_setEntry _ (C.1, wd_u C.2.1 10 (upd (upd (upd (C.2.1 10) (no * 8 + 2) a2) (no * 8 + 3) a3) (no * 8 + 4) a4), C.2.2) Y og (no + 1) hn (by omega) no 5 (by omega) (by omega) a5) ?_
  rintro v_ w_ ⟨rfl, rfl⟩ -
  refine am_eq_r (q' := (30, [some (.ref 14), some (.int (nI no)), some (.int a2), some (.int a3), some (.int a4), some (.int a5), some (.int a7)], [], wd (C.1, wd_u C.2.1 10 (upd (upd (upd (upd (C.2.1 10) (no * 8 + 2) a2) (no * 8 + 3) a3) (no * 8 + 4) a4) (no * 8 + 5) a5), C.2.2) Y og)) rfl ?_
  refine am_steps_r ok_O_end 4 (q' := (36, [some (.ref 14), some (.int (nI no)), some (.int a2), some (.int a3), some (.int a4), some (.int a5), some (.int a7)], [.int a7, .int 7, .int (nI no), .ref 14], wd (C.1, wd_u C.2.1 10 (upd (upd (upd (upd (C.2.1 10) (no * 8 + 2) a2) (no * 8 + 3) a3) (no * 8 + 4) a4) (no * 8 + 5) a5), C.2.2) Y og)) rfl ?_
  refine am_callV_r (As := [.int (nI no), .int 7, .int a7]) (rest := []) ok_O_end rfl rfl ok_O_setEntry oi_O_setEntry lk_0_23 (Or.inl ⟨_, _, _, rfl, rfl, rfl⟩) rfl rfl (Nat.le_of_ble_eq_true rfl) (c_O_setEntry _ (C.1, wd_u C.2.1 10 (upd (upd (upd (upd (C.2.1 10) (no * 8 + 2) a2) (no * 8 + 3) a3) (no * 8 + 4) a4) (no * 8 + 5) a5), C.2.2) Y og (no + 1) hn (by omega) no 7 (by omega) (by omega) a7) ?_
  rintro v_ w_ ⟨rfl, rfl⟩ -
  refine am_eq_r (q' := (39, [some (.ref 14), some (.int (nI no)), some (.int a2), some (.int a3), some (.int a4), some (.int a5), some (.int a7)], [], wd (C.1, wd_u C.2.1 10 (upd (upd (upd (upd (upd (C.2.1 10) (no * 8 + 2) a2) (no * 8 + 3) a3) (no * 8 + 4) a4) (no * 8 + 5) a5) (no * 8 + 7) a7), C.2.2) Y og)) rfl ?_
  refine am_vret_r ok_O_end rfl rfl rfl ?_
  refine ⟨rfl, _, rfl, rfl, fun j hj => by simp [wd_u, hj], rfl, fun i hi j hj => ?_, by simp [wd_u, upd], by simp [wd_u, upd], by simp [wd_u, upd], by simp [wd_u, upd], by simp [wd_u, upd], by simp [wd_u, upd], by simp [wd_u, upd], by simp [wd_u, upd]⟩
  have e2 : ¬ i * 8 + j = no * 8 + 2 := by omega
  have e3 : ¬ i * 8 + j = no * 8 + 3 := by omega
  have e4 : ¬ i * 8 + j = no * 8 + 4 := by omega
  have e5 : ¬ i * 8 + j = no * 8 + 5 := by omega
  have e7 : ¬ i * 8 + j = no * 8 + 7 := by omega
  show upd (upd (upd (upd (upd (C.2.1 10) (no * 8 + 2) a2) (no * 8 + 3) a3) (no * 8 + 4) a4) (no * 8 + 5) a5) (no * 8 + 7) a7 (i * 8 + j) = _
  rw [upd, if_neg e7, upd, if_neg e5, upd, if_neg e4, upd, if_neg e3, upd, if_neg e2]
end C76
