/-! the face of the reference; printed by wip/gen/g109.py -/
/-- a value's number -/
abbrev isV (nv : Nat) (x : Int32) : Bool := decide (0 ≤ x) && decide (x < nI nv)
theorem isV_in {nv v : Nat} (hv : v < nv) (hn : nv ≤ 300) : isV nv (nI v) = true := by
  rw [isV, decide_eq_true (show (0 : Int32) ≤ nI v from (nI_leI (show 0 < 2 ^ 31 by omega) (show v < 2 ^ 31 by omega)).mpr (Nat.zero_le _)), decide_eq_true ((nI_ltI (by omega) (by omega)).mpr hv)]
  rfl
theorem vsY0 {Y : wd_Y} {nv u : Nat} {V : VT} (h : vsY Y nv u V) (x : Int32) : vsY (upd Y.1 0 x, Y.2) nv u V := vsY_ar h rfl rfl (fun j _ _ => rfl) rfl
/-- of the reference the tape alone is another -/
def tyO (Y Y' : wd_Y) : Prop := (∀ j, 1 < j → Y'.1 j = Y.1 j) ∧ (∀ j, j ≠ 0 → Y'.2.1 j = Y.2.1 j) ∧ Y'.2.2 = Y.2.2
theorem bv_fd (B : BitVec 64) (k : Nat) (h : k < 8) : ((B.sshiftRight (8 * k)) &&& 255#64).signExtend 32 = (B >>> (8 * k)).signExtend 32 &&& 255#32 := by
  apply BitVec.eq_of_getLsbD_eq
  intro i hi
  rw [BitVec.getLsbD_and, BitVec.getLsbD_signExtend, BitVec.getLsbD_signExtend]
  simp only [hi, show i < 64 by omega, decide_true, Bool.true_and, if_true]
  rw [BitVec.getLsbD_and, BitVec.getLsbD_sshiftRight, BitVec.getLsbD_ushiftRight]
  by_cases h8 : i < 8
  · rw [if_pos (by omega)]
    have e1 : (255#64).getLsbD i = true := by
      rcases i with _ | _ | _ | _ | _ | _ | _ | _ | i <;> first | rfl | omega
    have e2 : (255#32).getLsbD i = true := by
      rcases i with _ | _ | _ | _ | _ | _ | _ | _ | i <;> first | rfl | omega
    rw [e1, e2]
    simp; omega
  · have e1 : (255#64).getLsbD i = false := by
      apply BitVec.getLsbD_ofNat .. |>.trans
      rw [Nat.testBit_lt_two_pow (Nat.lt_of_lt_of_le (by decide : 255 < 2 ^ 8) (Nat.pow_le_pow_right (by decide) (by omega)))]
      simp
    have e2 : (255#32).getLsbD i = false := by
      apply BitVec.getLsbD_ofNat .. |>.trans
      rw [Nat.testBit_lt_two_pow (Nat.lt_of_lt_of_le (by decide : 255 < 2 ^ 8) (Nat.pow_le_pow_right (by decide) (by omega)))]
      simp
    rw [e1, e2]
    simp
theorem tyU {f : Nat → Int32} {x y : Int32} {j : Nat} (h : 1 < j) : upd (upd f 0 x) 1 y j = f j := by rw [upd, if_neg (by omega), upd, if_neg (by omega)]
theorem tkY {Y : wd_Y} {O : List Int32} (hU : ouY Y O) (h : O.length ≤ 1600) : (upd (upd Y.1 0 0) 1 (nI O.length) : Nat → Int32) 1 = nI O.length ∧ O.length ≤ 1600 ∧ ∀ k, k < O.length → wd_u Y.2.1 0 (cpK (Y.2.1 13) (Y.2.1 0) O.length) 0 k = O.getD k 0 := ⟨rfl, h, fun k hk => by
  show cpK (Y.2.1 13) (Y.2.1 0) O.length k = _
  rw [cpK, if_pos hk]
  exact hU.2.2 k hk⟩
theorem fdX_y (B : Int64) (k : Nat) (h : k < 8) : (B >>> ((nI (8 * k)).toInt64 &&& 63) &&& 255).toInt32 = fdX B k := by
  unfold fdX
  apply Int32.toBitVec_inj.mp
  rcases k with _ | _ | _ | _ | _ | _ | _ | _ | k
  · exact bv_fd B.toBitVec 0 (by decide)
  · exact bv_fd B.toBitVec 1 (by decide)
  · exact bv_fd B.toBitVec 2 (by decide)
  · exact bv_fd B.toBitVec 3 (by decide)
  · exact bv_fd B.toBitVec 4 (by decide)
  · exact bv_fd B.toBitVec 5 (by decide)
  · exact bv_fd B.toBitVec 6 (by decide)
  · exact bv_fd B.toBitVec 7 (by decide)
  · omega
def tyF (Y1 : wd_Y) (m : Nat) (b' : Nat → Int32) : Prop := Y1.1 1 = nI m ∧ m ≤ 1600 ∧ ∀ k, k < m → Y1.2.1 0 k = b' k
theorem tyF_add {Y Y1 : wd_Y} {n i : Nat} {b : Nat → Int32} {B : Int64} (h : tyF Y1 (n + i) (fdB b n i B)) (h8 : i < 8) (h16 : n + i < 1600) (hT : tpY Y n b) : tyF (upd Y1.1 1 (nI (n + i + 1)), wd_u Y1.2.1 0 (upd (Y1.2.1 0) (n + i) (B >>> ((nI (8 * i)).toInt64 &&& 63) &&& 255).toInt32), Y1.2.2) (n + (i + 1)) (fdB b n (i + 1) B) := by
  refine ⟨rfl, by omega, fun k hk => ?_⟩
  show upd (Y1.2.1 0) (n + i) _ k = _
  by_cases e : k = n + i
  · rw [e, upd, if_pos rfl, fdX_y B i h8, fdB, if_pos ⟨by omega, by omega⟩, show n + i - n = i by omega]
  · rw [upd, if_neg e, h.2.2 k (by omega)]
    simp only [fdB]
    by_cases hz : n ≤ k
    · rw [if_pos ⟨hz, by omega⟩, if_pos ⟨hz, by omega⟩]
    · rw [if_neg (by omega), if_neg (by omega)]
section C109
variable {l : Launch} {D : va_G} {cA : Nat → ClassId} {ad : Nat → Nat} {fm : Value}
set_option maxHeartbeats 4000000 in
set_option maxRecDepth 100000 in
theorem c_M_thrown (d : Nat) (C : wd_C) (Y : wd_Y) (og : Nat → Int64)  : am_Mt l D cA ad fm (d + 0) m_M_thrown [.ref 19] (wd C Y og) (fun vr w' => vr = some (.int (Y.1 0)) ∧ w' = wd C Y og) := by
  refine am_mt ok_M_thrown (by simp [am_arg, Value.category, m_M_thrown, am_ml]) ?_
  refine am_eq_r (q' := (0, [some (.ref 19)], [], wd C Y og)) rfl ?_
  refine am_steps_r ok_M_thrown 2 (q' := (4, [some (.ref 19)], [.int (Y.1 0)], wd C Y og)) rfl ?_
  refine am_iret_r ok_M_thrown rfl rfl rfl ?_
  exact ⟨rfl, rfl⟩
set_option maxHeartbeats 4000000 in
set_option maxRecDepth 100000 in
theorem c_M_wipe (d : Nat) (C : wd_C) (Y : wd_Y) (og : Nat → Int64) (n : Nat) (b : Nat → Int32) (hT : tpY Y n b)  : am_Mt l D cA ad fm (d + 0) m_M_wipe [.ref 19] (wd C Y og) (fun vr w' => vr = some (.int (nI n)) ∧ w' = wd C (upd (upd Y.1 0 0) 1 0, Y.2) og) := by
  refine am_mt ok_M_wipe (by simp [am_arg, Value.category, m_M_wipe, am_ml]) ?_
  refine am_eq_r (q' := (0, [some (.ref 19), none], [], wd C Y og)) rfl ?_
  refine am_steps_r ok_M_wipe 10 (q' := (16, [some (.ref 19), some (.int (Y.1 1))], [.int (Y.1 1)], wd C (upd (upd Y.1 0 0) 1 0, Y.2) og)) rfl ?_
  rw [show (Y.1 1 : Int32) = nI n from hT.1]
  refine am_iret_r ok_M_wipe rfl rfl rfl ?_
  exact ⟨rfl, rfl⟩
set_option maxHeartbeats 4000000 in
set_option maxRecDepth 100000 in
theorem c_M_find (d : Nat) (C : wd_C) (Y : wd_Y) (og : Nat → Int64) (nv : Nat) (hnv : nv ≤ 300) (no : Nat) (E : Nat → Nat → Int32) (hO : obY Y no E) (hob : obI nv no E) (a g : Int32) : am_Mt l D cA ad fm (d + 1) m_M_find [.ref 19, .int a, .int g] (wd C Y og) (fun vr w' => vr = some (.int (oN (fnO E a g no))) ∧ w' = wd C (upd Y.1 0 0, Y.2) og) := by
  refine am_mt ok_M_find (by simp [am_arg, Value.category, m_M_find, am_ml]) ?_
  refine am_eq_r (q' := (0, [some (.ref 19), some (.int a), some (.int g)], [], wd C Y og)) rfl ?_
  refine am_steps_r ok_M_find 8 (q' := (10, [some (.ref 19), some (.int a), some (.int g)], [.long g.toInt64, .long a.toInt64, .ref 19], wd C (upd Y.1 0 0, Y.2) og)) rfl ?_
  refine am_callV_r (As := [.long a.toInt64, .long g.toInt64]) (rest := []) ok_M_find rfl rfl ok_M_findObject oi_M_findObject lk_6_244 (Or.inl ⟨_, _, _, rfl, rfl, rfl⟩) rfl rfl (Nat.le_of_ble_eq_true rfl) (c_M_findObject _ C (upd Y.1 0 0, Y.2) og no E ⟨hO.1, hO.2.1, hO.2.2⟩ nv hob hnv a g) ?_
  rintro v_ w_ ⟨rfl, rfl⟩ -
  refine am_eq_r (q' := (13, [some (.ref 19), some (.int a), some (.int g)], [.int (oN (fnO E a g no))], wd C (upd Y.1 0 0, Y.2) og)) rfl ?_
  refine am_iret_r ok_M_find rfl rfl rfl ?_
  exact ⟨rfl, rfl⟩
set_option maxHeartbeats 4000000 in
set_option maxRecDepth 100000 in
theorem c_M_object_in (d : Nat) (C : wd_C) (Y : wd_Y) (og : Nat → Int64) (no : Nat) (E : Nat → Nat → Int32) (hO : obY Y no E) (i j : Nat) (hi : i < no) (hj : j < 8) : am_Mt l D cA ad fm (d + 0) m_M_object [.ref 19, .int (nI i), .int (nI j)] (wd C Y og) (fun vr w' => vr = some (.int (E i j)) ∧ w' = wd C (upd Y.1 0 0, Y.2) og) := by
  have hno := hO.2.1
  refine am_mt ok_M_object (by simp [am_arg, Value.category, m_M_object, am_ml]) ?_
  refine am_eq_r (q' := (0, [some (.ref 19), some (.int (nI i)), some (.int (nI j))], [], wd C Y og)) rfl ?_
  refine am_steps_r ok_M_object 3 (q' := (bif decide ((nI i) < 0) then 27 else 5, [some (.ref 19), some (.int (nI i)), some (.int (nI j))], [.ref 19], wd C Y og)) rfl ?_
  refine am_br_r (fun h_1 => ?_) (fun h_1 => ?_)
  · skip
    have h_1 : i < 0 := (nI_ltI (show i < 2 ^ 31 by omega) (show 0 < 2 ^ 31 by omega)).mp h_1
    exact absurd h_1 (Nat.not_lt_zero _)
  · skip
    have h_1 : ¬ i < 0 := fun z => h_1 ((nI_ltI (show i < 2 ^ 31 by omega) (show 0 < 2 ^ 31 by omega)).mpr z)
    refine am_steps_r ok_M_object 4 (q' := (bif decide ((Y.1 2) ≤ (nI i)) then 27 else 13, [some (.ref 19), some (.int (nI i)), some (.int (nI j))], [.ref 19], wd C Y og)) rfl ?_
    rw [show (Y.1 2 : Int32) = nI no from hO.1]
    refine am_br_r (fun h_2 => ?_) (fun h_2 => ?_)
    · skip
      have h_2 : no ≤ i := (nI_leI (show no < 2 ^ 31 by omega) (show i < 2 ^ 31 by omega)).mp h_2
      exfalso; omega
    · skip
      have h_2 : ¬ no ≤ i := fun z => h_2 ((nI_leI (show no < 2 ^ 31 by omega) (show i < 2 ^ 31 by omega)).mpr z)
      refine am_steps_r ok_M_object 2 (q' := (bif decide ((nI j) < 0) then 27 else 17, [some (.ref 19), some (.int (nI i)), some (.int (nI j))], [.ref 19], wd C Y og)) rfl ?_
      refine am_br_r (fun h_3 => ?_) (fun h_3 => ?_)
      · skip
        have h_3 : j < 0 := (nI_ltI (show j < 2 ^ 31 by omega) (show 0 < 2 ^ 31 by omega)).mp h_3
        exact absurd h_3 (Nat.not_lt_zero _)
      · skip
        have h_3 : ¬ j < 0 := fun z => h_3 ((nI_ltI (show j < 2 ^ 31 by omega) (show 0 < 2 ^ 31 by omega)).mpr z)
        refine am_steps_r ok_M_object 3 (q' := (bif decide (8 ≤ (nI j)) then 27 else 23, [some (.ref 19), some (.int (nI i)), some (.int (nI j))], [.ref 19], wd C Y og)) rfl ?_
        refine am_br_r (fun h_4 => ?_) (fun h_4 => ?_)
        · skip
          have h_4 : 8 ≤ j := (nI_leI (show 8 < 2 ^ 31 by omega) (show j < 2 ^ 31 by omega)).mp h_4
          exfalso; omega
        · skip
          have h_4 : ¬ 8 ≤ j := fun z => h_4 ((nI_leI (show 8 < 2 ^ 31 by omega) (show j < 2 ^ 31 by omega)).mpr z)
          refine am_steps_r ok_M_object 13 (q' := (52, [some (.ref 19), some (.int (nI i)), some (.int (nI j))], [.int ((8 * (nI i)) + (nI j)), .ref 21], wd C (upd Y.1 0 0, Y.2) og)) rfl ?_
          rw [show (8 * (nI i) : Int32) = nI (8 * i) from pk_mul 8 i]
          rw [show ((nI (8 * i)) + (nI j) : Int32) = nI ((8 * i) + j) from nI_add (8 * i) j]
          refine am_iald_r ok_M_object rfl (w := wd C (upd Y.1 0 0, Y.2) og) (f := Y.2.1 1) rfl rfl (pk_in ((8 * i) + j) 160 (by omega)) ?_
          rw [nI_clamp (show ((8 * i) + j) < 2 ^ 31 by omega)]
          rw [show (Y.2.1 1 ((8 * i) + j)) = E i j from hO.2.2 i hi j hj]
          refine am_iret_r ok_M_object rfl rfl rfl ?_
          exact ⟨rfl, rfl⟩
set_option maxHeartbeats 4000000 in
set_option maxRecDepth 100000 in
theorem c_M_object_x (d : Nat) (C : wd_C) (Y : wd_Y) (og : Nat → Int64) (no : Nat) (E : Nat → Nat → Int32) (hO : obY Y no E) (x y : Int32) (hx : ¬ (0 ≤ x ∧ x < nI no ∧ 0 ≤ y ∧ y < 8)) : am_Mt l D cA ad fm (d + 0) m_M_object [.ref 19, .int x, .int y] (wd C Y og) (fun vr w' => vr = some (.int 0) ∧ w' = wd C (upd Y.1 0 1, Y.2) og) := by
  have hno := hO.2.1
  refine am_mt ok_M_object (by simp [am_arg, Value.category, m_M_object, am_ml]) ?_
  refine am_eq_r (q' := (0, [some (.ref 19), some (.int x), some (.int y)], [], wd C Y og)) rfl ?_
  refine am_steps_r ok_M_object 3 (q' := (bif decide (x < 0) then 27 else 5, [some (.ref 19), some (.int x), some (.int y)], [.ref 19], wd C Y og)) rfl ?_
  refine am_br_r (fun h_1 => ?_) (fun h_1 => ?_)
  · skip
    refine am_steps_r ok_M_object 7 (q' := (53, [some (.ref 19), some (.int x), some (.int y)], [.int 0], wd C (upd Y.1 0 1, Y.2) og)) rfl ?_
    refine am_iret_r ok_M_object rfl rfl rfl ?_
    exact ⟨rfl, rfl⟩
  · skip
    refine am_steps_r ok_M_object 4 (q' := (bif decide ((Y.1 2) ≤ x) then 27 else 13, [some (.ref 19), some (.int x), some (.int y)], [.ref 19], wd C Y og)) rfl ?_
    rw [show (Y.1 2 : Int32) = nI no from hO.1]
    refine am_br_r (fun h_2 => ?_) (fun h_2 => ?_)
    · skip
      refine am_steps_r ok_M_object 7 (q' := (53, [some (.ref 19), some (.int x), some (.int y)], [.int 0], wd C (upd Y.1 0 1, Y.2) og)) rfl ?_
      refine am_iret_r ok_M_object rfl rfl rfl ?_
      exact ⟨rfl, rfl⟩
    · skip
      refine am_steps_r ok_M_object 2 (q' := (bif decide (y < 0) then 27 else 17, [some (.ref 19), some (.int x), some (.int y)], [.ref 19], wd C Y og)) rfl ?_
      refine am_br_r (fun h_3 => ?_) (fun h_3 => ?_)
      · skip
        refine am_steps_r ok_M_object 7 (q' := (53, [some (.ref 19), some (.int x), some (.int y)], [.int 0], wd C (upd Y.1 0 1, Y.2) og)) rfl ?_
        refine am_iret_r ok_M_object rfl rfl rfl ?_
        exact ⟨rfl, rfl⟩
      · skip
        refine am_steps_r ok_M_object 3 (q' := (bif decide (8 ≤ y) then 27 else 23, [some (.ref 19), some (.int x), some (.int y)], [.ref 19], wd C Y og)) rfl ?_
        refine am_br_r (fun h_4 => ?_) (fun h_4 => ?_)
        · skip
          refine am_steps_r ok_M_object 7 (q' := (53, [some (.ref 19), some (.int x), some (.int y)], [.int 0], wd C (upd Y.1 0 1, Y.2) og)) rfl ?_
          refine am_iret_r ok_M_object rfl rfl rfl ?_
          exact ⟨rfl, rfl⟩
        · skip
          exact absurd ⟨Int32.not_lt.mp (by assumption), Int32.not_le.mp (by assumption), Int32.not_lt.mp (by assumption), Int32.not_le.mp (by assumption)⟩ hx
set_option maxHeartbeats 4000000 in
set_option maxRecDepth 100000 in
theorem c_M_value_in (d : Nat) (C : wd_C) (Y : wd_Y) (og : Nat → Int64) (nv u : Nat) (V : VT) (hY : vsY Y nv u V) (v : Nat) (hv : v < nv) (j : Nat) (hj : j < 3) : am_Mt l D cA ad fm (d + 1) m_M_value [.ref 19, .int (nI v), .int (nI j)] (wd C Y og) (fun vr w' => vr = some (.int (if j = 0 then V.1 v else if j = 1 then nI (V.2.2.1 v).length else nI (V.2.2.2 v).length)) ∧ w' = wd C (upd Y.1 0 0, Y.2) og) := by
  have hnv := hY.1.2.1
  have hu2 := hY.1.2.2.2
  have hvl := yq_len hY hv
  obtain ⟨z1, z2, z3, z4, z5, z6⟩ := hY.2 v hv
  obtain ⟨s0, s1, s2, s3, s4⟩ := z4
  refine am_mt ok_M_value (by simp [am_arg, Value.category, m_M_value, am_ml]) ?_
  refine am_eq_r (q' := (0, [some (.ref 19), some (.int (nI v)), some (.int (nI j))], [], wd C Y og)) rfl ?_
  refine am_steps_r ok_M_value 3 (q' := (3, [some (.ref 19), some (.int (nI v)), some (.int (nI j))], [.int (nI v), .ref 19, .ref 19], wd C Y og)) rfl ?_
  refine am_callV_r (As := [.int (nI v)]) (rest := [.ref 19]) ok_M_value rfl rfl ok_M_isValue oi_M_isValue lk_6_264 (Or.inl ⟨_, _, _, rfl, rfl, rfl⟩) rfl rfl (Nat.le_of_ble_eq_true rfl) (c_M_isValue _ C Y og nv u (hY.1) (nI v)) ?_
  rintro v_ w_ ⟨rfl, rfl⟩ -
  rw [show (decide (0 ≤ (nI v)) && decide ((nI v) < nI nv)) = true from isV_in (by omega) (by omega)]
  refine am_eq_r (q' := (6, [some (.ref 19), some (.int (nI v)), some (.int (nI j))], [.int 1, .ref 19], wd C Y og)) rfl ?_
  refine am_steps_r ok_M_value 3 (q' := (bif decide ((nI j) < 0) then 22 else 13, [some (.ref 19), some (.int (nI v)), some (.int (nI j))], [.ref 19], wd C Y og)) rfl ?_
  refine am_br_r (fun h_1 => ?_) (fun h_1 => ?_)
  · skip
    have h_1 : j < 0 := (nI_ltI (show j < 2 ^ 31 by omega) (show 0 < 2 ^ 31 by omega)).mp h_1
    exact absurd h_1 (Nat.not_lt_zero _)
  · skip
    have h_1 : ¬ j < 0 := fun z => h_1 ((nI_ltI (show j < 2 ^ 31 by omega) (show 0 < 2 ^ 31 by omega)).mpr z)
    refine am_steps_r ok_M_value 3 (q' := (bif decide (3 ≤ (nI j)) then 22 else 18, [some (.ref 19), some (.int (nI v)), some (.int (nI j))], [.ref 19], wd C Y og)) rfl ?_
    refine am_br_r (fun h_2 => ?_) (fun h_2 => ?_)
    · skip
      have h_2 : 3 ≤ j := (nI_leI (show 3 < 2 ^ 31 by omega) (show j < 2 ^ 31 by omega)).mp h_2
      exfalso; omega
    · skip
      have h_2 : ¬ 3 ≤ j := fun z => h_2 ((nI_leI (show 3 < 2 ^ 31 by omega) (show j < 2 ^ 31 by omega)).mpr z)
      refine am_steps_r ok_M_value 8 (q' := (bif decide ((nI j) = 0) then 39 else 48, [some (.ref 19), some (.int (nI v)), some (.int (nI j))], [], wd C (upd Y.1 0 0, Y.2) og)) rfl ?_
      refine am_br_r (fun h_3 => ?_) (fun h_3 => ?_)
      · skip
        have h_3 : j = 0 := (nI_eq (show j < 2 ^ 31 by omega) (show 0 < 2 ^ 31 by omega)).mp h_3
        refine am_steps_r ok_M_value 3 (q' := (44, [some (.ref 19), some (.int (nI v)), some (.int (nI j))], [.int (nI v), .ref 22], wd C (upd Y.1 0 0, Y.2) og)) rfl ?_
        refine am_iald_r ok_M_value rfl (w := wd C (upd Y.1 0 0, Y.2) og) (f := Y.2.1 2) rfl rfl (pk_in v 300 (by omega)) ?_
        rw [nI_clamp (show v < 2 ^ 31 by omega)]
        rw [show (Y.2.1 2 v) = V.1 v from (hY.2 v (by omega)).1]
        refine am_steps_r ok_M_value 1 (q' := (68, [some (.ref 19), some (.int (nI v)), some (.int (nI j))], [.int (V.1 v)], wd C (upd Y.1 0 0, Y.2) og)) rfl ?_
        refine am_iret_r ok_M_value rfl rfl rfl ?_
        first | (exfalso; omega) | exact ⟨by rw [if_pos (by omega)], rfl⟩ | exact ⟨by rw [if_neg (by omega), if_pos (by omega)], rfl⟩ | exact ⟨by rw [if_neg (by omega), if_neg (by omega)], rfl⟩
      · skip
        have h_3 : ¬ j = 0 := fun z => h_3 ((nI_eq (show j < 2 ^ 31 by omega) (show 0 < 2 ^ 31 by omega)).mpr z)
        refine am_steps_r ok_M_value 3 (q' := (bif decide ((nI j) = 1) then 53 else 62, [some (.ref 19), some (.int (nI v)), some (.int (nI j))], [], wd C (upd Y.1 0 0, Y.2) og)) rfl ?_
        refine am_br_r (fun h_4 => ?_) (fun h_4 => ?_)
        · skip
          have h_4 : j = 1 := (nI_eq (show j < 2 ^ 31 by omega) (show 1 < 2 ^ 31 by omega)).mp h_4
          refine am_steps_r ok_M_value 3 (q' := (58, [some (.ref 19), some (.int (nI v)), some (.int (nI j))], [.int (nI v), .ref 27], wd C (upd Y.1 0 0, Y.2) og)) rfl ?_
          refine am_iald_r ok_M_value rfl (w := wd C (upd Y.1 0 0, Y.2) og) (f := Y.2.1 6) rfl rfl (pk_in v 300 (by omega)) ?_
          rw [nI_clamp (show v < 2 ^ 31 by omega)]
          rw [show (Y.2.1 6 v) = nI (V.2.2.1 v).length from z3]
          refine am_steps_r ok_M_value 1 (q' := (68, [some (.ref 19), some (.int (nI v)), some (.int (nI j))], [.int (nI ((V.2.2.1 v).length))], wd C (upd Y.1 0 0, Y.2) og)) rfl ?_
          refine am_iret_r ok_M_value rfl rfl rfl ?_
          first | (exfalso; omega) | exact ⟨by rw [if_pos (by omega)], rfl⟩ | exact ⟨by rw [if_neg (by omega), if_pos (by omega)], rfl⟩ | exact ⟨by rw [if_neg (by omega), if_neg (by omega)], rfl⟩
        · skip
          have h_4 : ¬ j = 1 := fun z => h_4 ((nI_eq (show j < 2 ^ 31 by omega) (show 1 < 2 ^ 31 by omega)).mpr z)
          refine am_steps_r ok_M_value 3 (q' := (67, [some (.ref 19), some (.int (nI v)), some (.int (nI j))], [.int (nI v), .ref 29], wd C (upd Y.1 0 0, Y.2) og)) rfl ?_
          refine am_iald_r ok_M_value rfl (w := wd C (upd Y.1 0 0, Y.2) og) (f := Y.2.1 8) rfl rfl (pk_in v 300 (by omega)) ?_
          rw [nI_clamp (show v < 2 ^ 31 by omega)]
          rw [show (Y.2.1 8 v) = nI (V.2.2.2 v).length from s2]
          refine am_iret_r ok_M_value rfl rfl rfl ?_
          first | (exfalso; omega) | exact ⟨by rw [if_pos (by omega)], rfl⟩ | exact ⟨by rw [if_neg (by omega), if_pos (by omega)], rfl⟩ | exact ⟨by rw [if_neg (by omega), if_neg (by omega)], rfl⟩
set_option maxHeartbeats 4000000 in
set_option maxRecDepth 100000 in
theorem c_M_number_in (d : Nat) (C : wd_C) (Y : wd_Y) (og : Nat → Int64) (nv u : Nat) (V : VT) (hY : vsY Y nv u V) (v : Nat) (hv : v < nv)  : am_Mt l D cA ad fm (d + 1) m_M_number [.ref 19, .int (nI v)] (wd C Y og) (fun vr w' => vr = some (.long (V.2.1 v)) ∧ w' = wd C (upd Y.1 0 0, Y.2) og) := by
  have hnv := hY.1.2.1
  have hu2 := hY.1.2.2.2
  have hvl := yq_len hY hv
  obtain ⟨z1, z2, z3, z4, z5, z6⟩ := hY.2 v hv
  obtain ⟨s0, s1, s2, s3, s4⟩ := z4
  refine am_mt ok_M_number (by simp [am_arg, Value.category, m_M_number, am_ml]) ?_
  refine am_eq_r (q' := (0, [some (.ref 19), some (.int (nI v))], [], wd C Y og)) rfl ?_
  refine am_steps_r ok_M_number 3 (q' := (3, [some (.ref 19), some (.int (nI v))], [.int (nI v), .ref 19, .ref 19], wd C Y og)) rfl ?_
  refine am_callV_r (As := [.int (nI v)]) (rest := [.ref 19]) ok_M_number rfl rfl ok_M_isValue oi_M_isValue lk_6_264 (Or.inl ⟨_, _, _, rfl, rfl, rfl⟩) rfl rfl (Nat.le_of_ble_eq_true rfl) (c_M_isValue _ C Y og nv u (hY.1) (nI v)) ?_
  rintro v_ w_ ⟨rfl, rfl⟩ -
  rw [show (decide (0 ≤ (nI v)) && decide ((nI v) < nI nv)) = true from isV_in (by omega) (by omega)]
  refine am_eq_r (q' := (6, [some (.ref 19), some (.int (nI v))], [.int 1, .ref 19], wd C Y og)) rfl ?_
  refine am_steps_r ok_M_number 10 (q' := (33, [some (.ref 19), some (.int (nI v))], [.int (nI v), .ref 23], wd C (upd Y.1 0 0, Y.2) og)) rfl ?_
  refine am_lald_r ok_M_number rfl (w := wd C (upd Y.1 0 0, Y.2) og) (f := Y.2.2.1) rfl rfl (pk_in v 300 (by omega)) ?_
  rw [nI_clamp (show v < 2 ^ 31 by omega)]
  rw [show (Y.2.2.1 v) = V.2.1 v from z2]
  refine am_lret_r ok_M_number rfl rfl rfl ?_
  exact ⟨rfl, rfl⟩
set_option maxHeartbeats 4000000 in
set_option maxRecDepth 100000 in
theorem c_M_byteOf_k (d : Nat) (C : wd_C) (Y : wd_Y) (og : Nat → Int64) (nv u : Nat) (V : VT) (hY : vsY Y nv u V) (v : Nat) (hv : v < nv) (k : Nat) (hk : k < 2 ^ 31) : am_Mt l D cA ad fm (d + 1) m_M_byteOf [.ref 19, .int (nI v), .int (nI k)] (wd C Y og) (fun vr w' => vr = some (.int (byX (V.2.2.2 v) k)) ∧ w' = wd C (upd Y.1 0 0, Y.2) og) := by
  have hnv := hY.1.2.1
  have hu2 := hY.1.2.2.2
  have hvl := yq_len hY hv
  obtain ⟨z1, z2, z3, z4, z5, z6⟩ := hY.2 v hv
  obtain ⟨s0, s1, s2, s3, s4⟩ := z4
  refine am_mt ok_M_byteOf (by simp [am_arg, Value.category, m_M_byteOf, am_ml]) ?_
  refine am_eq_r (q' := (0, [some (.ref 19), some (.int (nI v)), some (.int (nI k))], [], wd C Y og)) rfl ?_
  refine am_steps_r ok_M_byteOf 3 (q' := (3, [some (.ref 19), some (.int (nI v)), some (.int (nI k))], [.int (nI v), .ref 19, .ref 19], wd C Y og)) rfl ?_
  refine am_callV_r (As := [.int (nI v)]) (rest := [.ref 19]) ok_M_byteOf rfl rfl ok_M_isValue oi_M_isValue lk_6_264 (Or.inl ⟨_, _, _, rfl, rfl, rfl⟩) rfl rfl (Nat.le_of_ble_eq_true rfl) (c_M_isValue _ C Y og nv u (hY.1) (nI v)) ?_
  rintro v_ w_ ⟨rfl, rfl⟩ -
  rw [show (decide (0 ≤ (nI v)) && decide ((nI v) < nI nv)) = true from isV_in (by omega) (by omega)]
  refine am_eq_r (q' := (6, [some (.ref 19), some (.int (nI v)), some (.int (nI k))], [.int 1, .ref 19], wd C Y og)) rfl ?_
  refine am_steps_r ok_M_byteOf 9 (q' := (bif decide ((nI k) < 0) then 56 else 30, [some (.ref 19), some (.int (nI v)), some (.int (nI k))], [], wd C (upd Y.1 0 0, Y.2) og)) rfl ?_
  refine am_br_r (fun h_1 => ?_) (fun h_1 => ?_)
  · skip
    have h_1 : k < 0 := (nI_ltI (show k < 2 ^ 31 by omega) (show 0 < 2 ^ 31 by omega)).mp h_1
    exact absurd h_1 (Nat.not_lt_zero _)
  · skip
    have h_1 : ¬ k < 0 := fun z => h_1 ((nI_ltI (show k < 2 ^ 31 by omega) (show 0 < 2 ^ 31 by omega)).mpr z)
    refine am_steps_r ok_M_byteOf 4 (q' := (36, [some (.ref 19), some (.int (nI v)), some (.int (nI k))], [.int (nI v), .ref 29, .int (nI k)], wd C (upd Y.1 0 0, Y.2) og)) rfl ?_
    refine am_iald_r ok_M_byteOf rfl (w := wd C (upd Y.1 0 0, Y.2) og) (f := Y.2.1 8) rfl rfl (pk_in v 300 (by omega)) ?_
    rw [nI_clamp (show v < 2 ^ 31 by omega)]
    rw [show (Y.2.1 8 v) = nI (V.2.2.2 v).length from s2]
    refine am_steps_r ok_M_byteOf 1 (q' := (bif decide ((nI ((V.2.2.2 v).length)) ≤ (nI k)) then 56 else 40, [some (.ref 19), some (.int (nI v)), some (.int (nI k))], [], wd C (upd Y.1 0 0, Y.2) og)) rfl ?_
    refine am_br_r (fun h_2 => ?_) (fun h_2 => ?_)
    · skip
      have h_2 : ((V.2.2.2 v).length) ≤ k := (nI_leI (show ((V.2.2.2 v).length) < 2 ^ 31 by omega) (show k < 2 ^ 31 by omega)).mp h_2
      refine am_steps_r ok_M_byteOf 1 (q' := (57, [some (.ref 19), some (.int (nI v)), some (.int (nI k))], [.int (-1)], wd C (upd Y.1 0 0, Y.2) og)) rfl ?_
      refine am_iret_r ok_M_byteOf rfl rfl rfl ?_
      first | (exfalso; omega) | exact ⟨by rw [byX, if_neg (by omega)], rfl⟩ | exact ⟨by rw [byX, if_pos (by omega)], rfl⟩
    · skip
      have h_2 : ¬ ((V.2.2.2 v).length) ≤ k := fun z => h_2 ((nI_leI (show ((V.2.2.2 v).length) < 2 ^ 31 by omega) (show k < 2 ^ 31 by omega)).mpr z)
      refine am_steps_r ok_M_byteOf 5 (q' := (49, [some (.ref 19), some (.int (nI v)), some (.int (nI k))], [.int (nI v), .ref 28, .ref 30], wd C (upd Y.1 0 0, Y.2) og)) rfl ?_
      refine am_iald_r ok_M_byteOf rfl (w := wd C (upd Y.1 0 0, Y.2) og) (f := Y.2.1 7) rfl rfl (pk_in v 300 (by omega)) ?_
      rw [nI_clamp (show v < 2 ^ 31 by omega)]
      rw [show (Y.2.1 7 v) = nI s0 from s1]
      refine am_steps_r ok_M_byteOf 2 (q' := (52, [some (.ref 19), some (.int (nI v)), some (.int (nI k))], [.int ((nI s0) + (nI k)), .ref 30], wd C (upd Y.1 0 0, Y.2) og)) rfl ?_
      rw [show ((nI s0) + (nI k) : Int32) = nI (s0 + k) from nI_add s0 k]
      refine am_iald_r ok_M_byteOf rfl (w := wd C (upd Y.1 0 0, Y.2) og) (f := Y.2.1 9) rfl rfl (pk_in (s0 + k) 2000 (by omega)) ?_
      rw [nI_clamp (show (s0 + k) < 2 ^ 31 by omega)]
      rw [show (Y.2.1 9 (s0 + k)) = (V.2.2.2 v).getD k 0 from s4 k (by omega)]
      refine am_steps_r ok_M_byteOf 1 (q' := (57, [some (.ref 19), some (.int (nI v)), some (.int (nI k))], [.int ((V.2.2.2 v).getD k 0)], wd C (upd Y.1 0 0, Y.2) og)) rfl ?_
      refine am_iret_r ok_M_byteOf rfl rfl rfl ?_
      first | (exfalso; omega) | exact ⟨by rw [byX, if_neg (by omega)], rfl⟩ | exact ⟨by rw [byX, if_pos (by omega)], rfl⟩
set_option maxHeartbeats 4000000 in
set_option maxRecDepth 100000 in
theorem c_M_byteOf_m (d : Nat) (C : wd_C) (Y : wd_Y) (og : Nat → Int64) (nv u : Nat) (V : VT) (hY : vsY Y nv u V) (v : Nat) (hv : v < nv) (y : Int32) (hy : y < 0) : am_Mt l D cA ad fm (d + 1) m_M_byteOf [.ref 19, .int (nI v), .int y] (wd C Y og) (fun vr w' => vr = some (.int (-1)) ∧ w' = wd C (upd Y.1 0 0, Y.2) og) := by
  have hnv := hY.1.2.1
  have hu2 := hY.1.2.2.2
  have hvl := yq_len hY hv
  obtain ⟨z1, z2, z3, z4, z5, z6⟩ := hY.2 v hv
  obtain ⟨s0, s1, s2, s3, s4⟩ := z4
  refine am_mt ok_M_byteOf (by simp [am_arg, Value.category, m_M_byteOf, am_ml]) ?_
  refine am_eq_r (q' := (0, [some (.ref 19), some (.int (nI v)), some (.int y)], [], wd C Y og)) rfl ?_
  refine am_steps_r ok_M_byteOf 3 (q' := (3, [some (.ref 19), some (.int (nI v)), some (.int y)], [.int (nI v), .ref 19, .ref 19], wd C Y og)) rfl ?_
  refine am_callV_r (As := [.int (nI v)]) (rest := [.ref 19]) ok_M_byteOf rfl rfl ok_M_isValue oi_M_isValue lk_6_264 (Or.inl ⟨_, _, _, rfl, rfl, rfl⟩) rfl rfl (Nat.le_of_ble_eq_true rfl) (c_M_isValue _ C Y og nv u (hY.1) (nI v)) ?_
  rintro v_ w_ ⟨rfl, rfl⟩ -
  rw [show (decide (0 ≤ (nI v)) && decide ((nI v) < nI nv)) = true from isV_in (by omega) (by omega)]
  refine am_eq_r (q' := (6, [some (.ref 19), some (.int (nI v)), some (.int y)], [.int 1, .ref 19], wd C Y og)) rfl ?_
  refine am_steps_r ok_M_byteOf 9 (q' := (bif decide (y < 0) then 56 else 30, [some (.ref 19), some (.int (nI v)), some (.int y)], [], wd C (upd Y.1 0 0, Y.2) og)) rfl ?_
  refine am_br_r (fun h_1 => ?_) (fun h_1 => ?_)
  · skip
    refine am_steps_r ok_M_byteOf 1 (q' := (57, [some (.ref 19), some (.int (nI v)), some (.int y)], [.int (-1)], wd C (upd Y.1 0 0, Y.2) og)) rfl ?_
    refine am_iret_r ok_M_byteOf rfl rfl rfl ?_
    exact ⟨rfl, rfl⟩
  · skip
    exact absurd hy h_1
set_option maxHeartbeats 4000000 in
set_option maxRecDepth 100000 in
theorem lp_M_child_52 (d : Nat) (C : wd_C) (Y : wd_Y) (og : Nat → Int64) (nv u : Nat) (V : VT) (hY : vsY Y nv u V) (v : Nat) (hv : v < nv) (hok : vok nv V) (k : Nat) (hk : k < (V.2.2.1 v).length) (hl6 : (V.2.2.1 v).length ≤ 300)  : ∀ (fu : Nat) (post : Option Value → am_W → Prop) (x : Int32) (n0 : Nat), (n0 ≤ k) → (lkd (Y.2.1 5) x ((V.2.2.1 v).drop n0)) → (post (some (.int (chK (V.2.2.1 v) k))) (wd C (upd Y.1 0 0, Y.2) og)) → k - n0 < fu → am_Rn l D cA ad fm (d + 1) m_M_child (wd C Y og).length post (52, [some (.ref 19), some (.int (nI v)), some (.int (nI k)), some (.int x), some (.int (nI n0))], [], wd C (upd Y.1 0 0, Y.2) og) := by
  intro fu
  induction fu with
  | zero => intro post x n0 hn0 hlk hpo hfu; exact absurd hfu (Nat.not_lt_zero _)
  | succ fu ih =>
    intro post x n0 hn0 hlk hpo hfu
    have hnv := hY.1.2.1
    have hu2 := hY.1.2.2.2
    have hvl := yq_len hY hv
    obtain ⟨z1, z2, z3, z4, z5, z6⟩ := hY.2 v hv
    obtain ⟨s0, s1, s2, s3, s4⟩ := z4
    refine am_steps_r ok_M_child 3 (q' := (bif decide ((nI k) ≤ (nI n0)) then 71 else 58, [some (.ref 19), some (.int (nI v)), some (.int (nI k)), some (.int x), some (.int (nI n0))], [], wd C (upd Y.1 0 0, Y.2) og)) rfl ?_
    refine am_br_r (fun h_1 => ?_) (fun h_1 => ?_)
    · skip
      have h_1 : k ≤ n0 := (nI_leI (show k < 2 ^ 31 by omega) (show n0 < 2 ^ 31 by omega)).mp h_1
      obtain ⟨a, ha⟩ : ∃ a, (V.2.2.1 v)[n0]? = some a := ⟨(V.2.2.1 v)[n0], List.getElem?_eq_getElem (by omega)⟩
      obtain ⟨rfl, hx2⟩ := lkd_drop hlk ha
      have hav := (hok.1 v hv).1 a (List.mem_of_getElem? ha)
      have hn9 : n0 = k := by omega
      rw [hn9] at ha
      refine am_steps_r ok_M_child 1 (q' := (72, [some (.ref 19), some (.int (nI v)), some (.int (nI k)), some (.int (nI a)), some (.int (nI n0))], [.int (nI a)], wd C (upd Y.1 0 0, Y.2) og)) rfl ?_
      refine am_iret_r ok_M_child rfl rfl rfl ?_
      rw [chK, ha] at hpo
      exact hpo
    · skip
      have h_1 : ¬ k ≤ n0 := fun z => h_1 ((nI_leI (show k < 2 ^ 31 by omega) (show n0 < 2 ^ 31 by omega)).mpr z)
      obtain ⟨a, ha⟩ : ∃ a, (V.2.2.1 v)[n0]? = some a := ⟨(V.2.2.1 v)[n0], List.getElem?_eq_getElem (by omega)⟩
      obtain ⟨rfl, hx2⟩ := lkd_drop hlk ha
      have hav := (hok.1 v hv).1 a (List.mem_of_getElem? ha)
      refine am_steps_r ok_M_child 3 (q' := (63, [some (.ref 19), some (.int (nI v)), some (.int (nI k)), some (.int (nI a)), some (.int (nI n0))], [.int (nI a), .ref 26], wd C (upd Y.1 0 0, Y.2) og)) rfl ?_
      refine am_iald_r ok_M_child rfl (w := wd C (upd Y.1 0 0, Y.2) og) (f := Y.2.1 5) rfl rfl (pk_in a 300 (by omega)) ?_
      rw [nI_clamp (show a < 2 ^ 31 by omega)]
      refine am_steps_r ok_M_child 3 (q' := (52, [some (.ref 19), some (.int (nI v)), some (.int (nI k)), some (.int (Y.2.1 5 a)), some (.int ((nI n0) + 1))], [], wd C (upd Y.1 0 0, Y.2) og)) rfl ?_
      rw [show ((nI n0) + 1 : Int32) = nI (n0 + 1) from nI_add n0 1]
      exact ih post (Y.2.1 5 a) (n0 + 1) (by omega) hx2 hpo (by omega)
set_option maxHeartbeats 4000000 in
set_option maxRecDepth 100000 in
theorem c_M_child_k (d : Nat) (C : wd_C) (Y : wd_Y) (og : Nat → Int64) (nv u : Nat) (V : VT) (hY : vsY Y nv u V) (v : Nat) (hv : v < nv) (hok : vok nv V) (k : Nat) (hk : k < 2 ^ 31) : am_Mt l D cA ad fm (d + 1) m_M_child [.ref 19, .int (nI v), .int (nI k)] (wd C Y og) (fun vr w' => vr = some (.int (chK (V.2.2.1 v) k)) ∧ w' = wd C (upd Y.1 0 0, Y.2) og) := by
  have hnv := hY.1.2.1
  have hu2 := hY.1.2.2.2
  have hvl := yq_len hY hv
  obtain ⟨z1, z2, z3, z4, z5, z6⟩ := hY.2 v hv
  obtain ⟨s0, s1, s2, s3, s4⟩ := z4
  have hl6 : (V.2.2.1 v).length ≤ 300 := by have := nd_len nv _ (hok.1 v hv).2 (hok.1 v hv).1; omega
  refine am_mt ok_M_child (by simp [am_arg, Value.category, m_M_child, am_ml]) ?_
  refine am_eq_r (q' := (0, [some (.ref 19), some (.int (nI v)), some (.int (nI k)), none, none], [], wd C Y og)) rfl ?_
  refine am_steps_r ok_M_child 3 (q' := (3, [some (.ref 19), some (.int (nI v)), some (.int (nI k)), none, none], [.int (nI v), .ref 19, .ref 19], wd C Y og)) rfl ?_
  refine am_callV_r (As := [.int (nI v)]) (rest := [.ref 19]) ok_M_child rfl rfl ok_M_isValue oi_M_isValue lk_6_264 (Or.inl ⟨_, _, _, rfl, rfl, rfl⟩) rfl rfl (Nat.le_of_ble_eq_true rfl) (c_M_isValue _ C Y og nv u (hY.1) (nI v)) ?_
  rintro v_ w_ ⟨rfl, rfl⟩ -
  rw [show (decide (0 ≤ (nI v)) && decide ((nI v) < nI nv)) = true from isV_in (by omega) (by omega)]
  refine am_eq_r (q' := (6, [some (.ref 19), some (.int (nI v)), some (.int (nI k)), none, none], [.int 1, .ref 19], wd C Y og)) rfl ?_
  refine am_steps_r ok_M_child 9 (q' := (bif decide ((nI k) < 0) then 40 else 30, [some (.ref 19), some (.int (nI v)), some (.int (nI k)), none, none], [], wd C (upd Y.1 0 0, Y.2) og)) rfl ?_
  refine am_br_r (fun h_1 => ?_) (fun h_1 => ?_)
  · skip
    have h_1 : k < 0 := (nI_ltI (show k < 2 ^ 31 by omega) (show 0 < 2 ^ 31 by omega)).mp h_1
    exact absurd h_1 (Nat.not_lt_zero _)
  · skip
    have h_1 : ¬ k < 0 := fun z => h_1 ((nI_ltI (show k < 2 ^ 31 by omega) (show 0 < 2 ^ 31 by omega)).mpr z)
    refine am_steps_r ok_M_child 4 (q' := (36, [some (.ref 19), some (.int (nI v)), some (.int (nI k)), none, none], [.int (nI v), .ref 27, .int (nI k)], wd C (upd Y.1 0 0, Y.2) og)) rfl ?_
    refine am_iald_r ok_M_child rfl (w := wd C (upd Y.1 0 0, Y.2) og) (f := Y.2.1 6) rfl rfl (pk_in v 300 (by omega)) ?_
    rw [nI_clamp (show v < 2 ^ 31 by omega)]
    rw [show (Y.2.1 6 v) = nI (V.2.2.1 v).length from z3]
    refine am_steps_r ok_M_child 1 (q' := (bif decide ((nI k) < (nI ((V.2.2.1 v).length))) then 42 else 40, [some (.ref 19), some (.int (nI v)), some (.int (nI k)), none, none], [], wd C (upd Y.1 0 0, Y.2) og)) rfl ?_
    refine am_br_r (fun h_2 => ?_) (fun h_2 => ?_)
    · skip
      have h_2 : k < ((V.2.2.1 v).length) := (nI_ltI (show k < 2 ^ 31 by omega) (show ((V.2.2.1 v).length) < 2 ^ 31 by omega)).mp h_2
      refine am_steps_r ok_M_child 3 (q' := (47, [some (.ref 19), some (.int (nI v)), some (.int (nI k)), none, none], [.int (nI v), .ref 24], wd C (upd Y.1 0 0, Y.2) og)) rfl ?_
      refine am_iald_r ok_M_child rfl (w := wd C (upd Y.1 0 0, Y.2) og) (f := Y.2.1 3) rfl rfl (pk_in v 300 (by omega)) ?_
      rw [nI_clamp (show v < 2 ^ 31 by omega)]
      refine am_steps_r ok_M_child 3 (q' := (52, [some (.ref 19), some (.int (nI v)), some (.int (nI k)), some (.int (Y.2.1 3 v)), some (.int 0)], [], wd C (upd Y.1 0 0, Y.2) og)) rfl ?_
      refine am_eq_r (q' := (52, [some (.ref 19), some (.int (nI v)), some (.int (nI k)), some (.int (Y.2.1 3 v)), some (.int (nI 0))], [], wd C (upd Y.1 0 0, Y.2) og)) rfl ?_
      exact lp_M_child_52 _ C Y og nv u V hY v hv hok k (by omega) hl6 (k + 1) _ _ 0 (Nat.zero_le _) (by rw [List.drop_zero]; exact z5) ⟨rfl, rfl⟩ (by omega)
    · skip
      have h_2 : ¬ k < ((V.2.2.1 v).length) := fun z => h_2 ((nI_ltI (show k < 2 ^ 31 by omega) (show ((V.2.2.1 v).length) < 2 ^ 31 by omega)).mpr z)
      refine am_steps_r ok_M_child 1 (q' := (41, [some (.ref 19), some (.int (nI v)), some (.int (nI k)), none, none], [.int (-1)], wd C (upd Y.1 0 0, Y.2) og)) rfl ?_
      refine am_iret_r ok_M_child rfl rfl rfl ?_
      exact ⟨by rw [chK, List.getElem?_eq_none (by omega)]; rfl, rfl⟩
set_option maxHeartbeats 4000000 in
set_option maxRecDepth 100000 in
theorem c_M_child_m (d : Nat) (C : wd_C) (Y : wd_Y) (og : Nat → Int64) (nv u : Nat) (V : VT) (hY : vsY Y nv u V) (v : Nat) (hv : v < nv) (y : Int32) (hy : y < 0) : am_Mt l D cA ad fm (d + 1) m_M_child [.ref 19, .int (nI v), .int y] (wd C Y og) (fun vr w' => vr = some (.int (-1)) ∧ w' = wd C (upd Y.1 0 0, Y.2) og) := by
  have hnv := hY.1.2.1
  have hu2 := hY.1.2.2.2
  have hvl := yq_len hY hv
  obtain ⟨z1, z2, z3, z4, z5, z6⟩ := hY.2 v hv
  obtain ⟨s0, s1, s2, s3, s4⟩ := z4
  refine am_mt ok_M_child (by simp [am_arg, Value.category, m_M_child, am_ml]) ?_
  refine am_eq_r (q' := (0, [some (.ref 19), some (.int (nI v)), some (.int y), none, none], [], wd C Y og)) rfl ?_
  refine am_steps_r ok_M_child 3 (q' := (3, [some (.ref 19), some (.int (nI v)), some (.int y), none, none], [.int (nI v), .ref 19, .ref 19], wd C Y og)) rfl ?_
  refine am_callV_r (As := [.int (nI v)]) (rest := [.ref 19]) ok_M_child rfl rfl ok_M_isValue oi_M_isValue lk_6_264 (Or.inl ⟨_, _, _, rfl, rfl, rfl⟩) rfl rfl (Nat.le_of_ble_eq_true rfl) (c_M_isValue _ C Y og nv u (hY.1) (nI v)) ?_
  rintro v_ w_ ⟨rfl, rfl⟩ -
  rw [show (decide (0 ≤ (nI v)) && decide ((nI v) < nI nv)) = true from isV_in (by omega) (by omega)]
  refine am_eq_r (q' := (6, [some (.ref 19), some (.int (nI v)), some (.int y), none, none], [.int 1, .ref 19], wd C Y og)) rfl ?_
  refine am_steps_r ok_M_child 9 (q' := (bif decide (y < 0) then 40 else 30, [some (.ref 19), some (.int (nI v)), some (.int y), none, none], [], wd C (upd Y.1 0 0, Y.2) og)) rfl ?_
  refine am_br_r (fun h_1 => ?_) (fun h_1 => ?_)
  · skip
    refine am_steps_r ok_M_child 1 (q' := (41, [some (.ref 19), some (.int (nI v)), some (.int y), none, none], [.int (-1)], wd C (upd Y.1 0 0, Y.2) og)) rfl ?_
    refine am_iret_r ok_M_child rfl rfl rfl ?_
    exact ⟨rfl, rfl⟩
  · skip
    exact absurd hy h_1
set_option maxHeartbeats 4000000 in
set_option maxRecDepth 100000 in
theorem lp_M_lookup_87 (d : Nat) (C : wd_C) (Y : wd_Y) (og : Nat → Int64) (nv u : Nat) (V : VT) (hY : vsY Y nv u V) (v w : Nat) (hw : w < nv) (dd : Nat)  : ∀ (fu : Nat) (post : Option Value → am_W → Prop) (ks : List Nat) (y : Int32) (me : Nat), (∀ a ∈ ks, a < nv) → (ks.length = 2 * me) → (lkd (Y.2.1 5) y ks) → (post (some (.int (oN ((prF (fun a => decide (V.2.2.2 a = V.2.2.2 w)) ks).map (fun z => z.2))))) (wd C (upd Y.1 0 0, Y.2) og)) → ks.length < fu → am_Rn l D cA ad fm (d + 1) m_M_lookup (wd C Y og).length post (87, [some (.ref 19), some (.int (nI v)), some (.int (nI w)), some (.int (nI dd)), some (.int y)], [], wd C (upd Y.1 0 0, Y.2) og) := by
  intro fu
  induction fu with
  | zero => intro post ks y me hkv hev hlk hpo hfu; exact absurd hfu (Nat.not_lt_zero _)
  | succ fu ih =>
    intro post ks y me hkv hev hlk hpo hfu
    have hnv := hY.1.2.1
    refine am_steps_r ok_M_lookup 3 (q' := (bif decide (y = (-1)) then 128 else 93, [some (.ref 19), some (.int (nI v)), some (.int (nI w)), some (.int (nI dd)), some (.int y)], [], wd C (upd Y.1 0 0, Y.2) og)) rfl ?_
    refine am_br_r (fun h_1 => ?_) (fun h_1 => ?_)
    · skip
      have hk0 : ks = [] := by
        rcases ks with _ | ⟨k, r⟩
        · rfl
        · exact absurd (hlk.1.symm.trans h_1) (nI_nm (by have := hkv k List.mem_cons_self; omega))
      subst hk0
      refine am_steps_r ok_M_lookup 1 (q' := (129, [some (.ref 19), some (.int (nI v)), some (.int (nI w)), some (.int (nI dd)), some (.int y)], [.int (-1)], wd C (upd Y.1 0 0, Y.2) og)) rfl ?_
      refine am_iret_r ok_M_lookup rfl rfl rfl ?_
      exact hpo
    · skip
      obtain ⟨k, x, r, rfl⟩ : ∃ k x r, ks = k :: x :: r := by
        rcases ks with _ | ⟨k, _ | ⟨x, r⟩⟩
        · exact absurd hlk h_1
        · simp at hev; omega
        · exact ⟨k, x, r, rfl⟩
      obtain ⟨rfl, hkx, hlk3⟩ := hlk
      have hk1 := hkv k List.mem_cons_self
      have hx1 := hkv x (List.mem_cons_of_mem _ List.mem_cons_self)
      refine am_steps_r ok_M_lookup 3 (q' := (97, [some (.ref 19), some (.int (nI v)), some (.int (nI w)), some (.int (nI dd)), some (.int (nI k))], [.int (nI w), .int (nI k), .ref 19], wd C (upd Y.1 0 0, Y.2) og)) rfl ?_
      refine am_callV_r (As := [.int (nI k), .int (nI w)]) (rest := []) ok_M_lookup rfl rfl ok_M_areSame oi_M_areSame lk_6_197 (Or.inl ⟨_, _, _, rfl, rfl, rfl⟩) rfl rfl (Nat.le_of_ble_eq_true rfl) (c_M_areSame _ C (upd Y.1 0 0, Y.2) og nv u (vsY0 hY 0).1 k w (by omega) hw (V.2.2.2 k) (V.2.2.2 w) ((vsY0 hY 0).2 k (by omega)).2.2.2.1 ((vsY0 hY 0).2 w hw).2.2.2.1) ?_
      rintro v_ w_ ⟨rfl, rfl⟩ -
      refine am_eq_r (q' := (100, [some (.ref 19), some (.int (nI v)), some (.int (nI w)), some (.int (nI dd)), some (.int (nI k))], [.int (bz (decide (V.2.2.2 k = V.2.2.2 w)))], wd C (upd Y.1 0 0, Y.2) og)) rfl ?_
      refine am_steps_r ok_M_lookup 1 (q' := (bif decide ((bz (decide (V.2.2.2 k = V.2.2.2 w))) = 0) then 111 else 103, [some (.ref 19), some (.int (nI v)), some (.int (nI w)), some (.int (nI dd)), some (.int (nI k))], [], wd C (upd Y.1 0 0, Y.2) og)) rfl ?_
      refine am_bz_r (fun h_3 => ?_) (fun h_3 => ?_)
      · skip
        refine am_steps_r ok_M_lookup 3 (q' := (109, [some (.ref 19), some (.int (nI v)), some (.int (nI w)), some (.int (nI dd)), some (.int (nI k))], [.int (nI k), .ref 26], wd C (upd Y.1 0 0, Y.2) og)) rfl ?_
        refine am_iald_r ok_M_lookup rfl (w := wd C (upd Y.1 0 0, Y.2) og) (f := Y.2.1 5) rfl rfl (pk_in k 300 (by omega)) ?_
        rw [nI_clamp (show k < 2 ^ 31 by omega)]
        rw [show (Y.2.1 5 k) = nI x from hkx]
        refine am_iret_r ok_M_lookup rfl rfl rfl ?_
        rw [prF, if_pos (by assumption)] at hpo
        exact hpo
      · skip
        refine am_steps_r ok_M_lookup 5 (q' := (121, [some (.ref 19), some (.int (nI v)), some (.int (nI w)), some (.int (nI dd)), some (.int (nI k))], [.int (nI k), .ref 26, .ref 26], wd C (upd Y.1 0 0, Y.2) og)) rfl ?_
        refine am_iald_r ok_M_lookup rfl (w := wd C (upd Y.1 0 0, Y.2) og) (f := Y.2.1 5) rfl rfl (pk_in k 300 (by omega)) ?_
        rw [nI_clamp (show k < 2 ^ 31 by omega)]
        rw [show (Y.2.1 5 k) = nI x from hkx]
        refine am_iald_r ok_M_lookup rfl (w := wd C (upd Y.1 0 0, Y.2) og) (f := Y.2.1 5) rfl rfl (pk_in x 300 (by omega)) ?_
        rw [nI_clamp (show x < 2 ^ 31 by omega)]
        refine am_steps_r ok_M_lookup 2 (q' := (87, [some (.ref 19), some (.int (nI v)), some (.int (nI w)), some (.int (nI dd)), some (.int (Y.2.1 5 x))], [], wd C (upd Y.1 0 0, Y.2) og)) rfl ?_
        exact ih post r (Y.2.1 5 x) (me - 1) (fun z hz => hkv z (List.mem_cons_of_mem _ (List.mem_cons_of_mem _ hz))) (by simp only [List.length_cons] at hev; omega) hlk3 (by rw [prF, if_neg (by simp only [Bool.not_eq_true]; assumption)] at hpo; exact hpo) (by simp only [List.length_cons] at hfu; omega)
set_option maxHeartbeats 4000000 in
set_option maxRecDepth 100000 in
theorem c_M_lookup_in (d : Nat) (C : wd_C) (Y : wd_Y) (og : Nat → Int64) (nv u : Nat) (V : VT) (hY : vsY Y nv u V) (v : Nat) (hv : v < nv) (hok : vok nv V) (ht : Nat → Nat) (hg : hG nv V ht) (hevn : ∀ v, v < nv → V.1 v = 7 → ∃ me, (V.2.2.1 v).length = 2 * me) (w : Nat) (hw : w < nv) : am_Mt l D cA ad fm (d + 1) m_M_lookup [.ref 19, .int (nI v), .int (nI w)] (wd C Y og) (fun vr w' => vr = some (.int (lkX V v w)) ∧ w' = wd C (upd Y.1 0 0, Y.2) og) := by
  have hnv := hY.1.2.1
  have hu2 := hY.1.2.2.2
  have hvl := yq_len hY hv
  obtain ⟨z1, z2, z3, z4, z5, z6⟩ := hY.2 v hv
  obtain ⟨s0, s1, s2, s3, s4⟩ := z4
  refine am_mt ok_M_lookup (by simp [am_arg, Value.category, m_M_lookup, am_ml]) ?_
  refine am_eq_r (q' := (0, [some (.ref 19), some (.int (nI v)), some (.int (nI w)), none, none], [], wd C Y og)) rfl ?_
  refine am_steps_r ok_M_lookup 3 (q' := (3, [some (.ref 19), some (.int (nI v)), some (.int (nI w)), none, none], [.int (nI v), .ref 19, .ref 19], wd C Y og)) rfl ?_
  refine am_callV_r (As := [.int (nI v)]) (rest := [.ref 19]) ok_M_lookup rfl rfl ok_M_isValue oi_M_isValue lk_6_264 (Or.inl ⟨_, _, _, rfl, rfl, rfl⟩) rfl rfl (Nat.le_of_ble_eq_true rfl) (c_M_isValue _ C Y og nv u (hY.1) (nI v)) ?_
  rintro v_ w_ ⟨rfl, rfl⟩ -
  rw [show (decide (0 ≤ (nI v)) && decide ((nI v) < nI nv)) = true from isV_in (by omega) (by omega)]
  refine am_eq_r (q' := (6, [some (.ref 19), some (.int (nI v)), some (.int (nI w)), none, none], [.int 1, .ref 19], wd C Y og)) rfl ?_
  refine am_steps_r ok_M_lookup 3 (q' := (11, [some (.ref 19), some (.int (nI v)), some (.int (nI w)), none, none], [.int (nI w), .ref 19, .ref 19], wd C Y og)) rfl ?_
  refine am_callV_r (As := [.int (nI w)]) (rest := [.ref 19]) ok_M_lookup rfl rfl ok_M_isValue oi_M_isValue lk_6_264 (Or.inl ⟨_, _, _, rfl, rfl, rfl⟩) rfl rfl (Nat.le_of_ble_eq_true rfl) (c_M_isValue _ C Y og nv u (hY.1) (nI w)) ?_
  rintro v_ w_ ⟨rfl, rfl⟩ -
  rw [show (decide (0 ≤ (nI w)) && decide ((nI w) < nI nv)) = true from isV_in (by omega) (by omega)]
  refine am_eq_r (q' := (14, [some (.ref 19), some (.int (nI v)), some (.int (nI w)), none, none], [.int 1, .ref 19], wd C Y og)) rfl ?_
  refine am_steps_r ok_M_lookup 10 (q' := (39, [some (.ref 19), some (.int (nI v)), some (.int (nI w)), none, none], [.int (nI v), .ref 22], wd C (upd Y.1 0 0, Y.2) og)) rfl ?_
  refine am_iald_r ok_M_lookup rfl (w := wd C (upd Y.1 0 0, Y.2) og) (f := Y.2.1 2) rfl rfl (pk_in v 300 (by omega)) ?_
  rw [nI_clamp (show v < 2 ^ 31 by omega)]
  rw [show (Y.2.1 2 v) = V.1 v from (hY.2 v (by omega)).1]
  refine am_steps_r ok_M_lookup 2 (q' := (bif decide ((V.1 v) = 9) then 45 else 54, [some (.ref 19), some (.int (nI v)), some (.int (nI w)), none, none], [], wd C (upd Y.1 0 0, Y.2) og)) rfl ?_
  refine am_br_r (fun h_1 => ?_) (fun h_1 => ?_)
  · skip
    obtain ⟨hh8, dc, hdc, hdc7⟩ := (hg v hv).2.2.2.1 h_1
    have hdcn : dc < nv := (hok.1 v hv).1 dc (by rw [hdc]; simp)
    have hdc1 : Y.2.1 3 v = nI dc := by have := z5; rw [hdc] at this; exact this.1
    have hld : lkD V v = dc := by rw [lkD, if_pos h_1, hdc]; rfl
    refine am_steps_r ok_M_lookup 3 (q' := (50, [some (.ref 19), some (.int (nI v)), some (.int (nI w)), none, none], [.int (nI v), .ref 24], wd C (upd Y.1 0 0, Y.2) og)) rfl ?_
    refine am_iald_r ok_M_lookup rfl (w := wd C (upd Y.1 0 0, Y.2) og) (f := Y.2.1 3) rfl rfl (pk_in v 300 (by omega)) ?_
    rw [nI_clamp (show v < 2 ^ 31 by omega)]
    rw [show (Y.2.1 3 v) = nI dc from hdc1]
    refine am_steps_r ok_M_lookup 5 (q' := (61, [some (.ref 19), some (.int (nI v)), some (.int (nI w)), some (.int (nI dc)), none], [.int (nI dc), .ref 22], wd C (upd Y.1 0 0, Y.2) og)) rfl ?_
    refine am_iald_r ok_M_lookup rfl (w := wd C (upd Y.1 0 0, Y.2) og) (f := Y.2.1 2) rfl rfl (pk_in dc 300 (by omega)) ?_
    rw [nI_clamp (show dc < 2 ^ 31 by omega)]
    rw [show (Y.2.1 2 dc) = V.1 dc from (hY.2 dc (by omega)).1]
    refine am_steps_r ok_M_lookup 2 (q' := (bif decide ((V.1 dc) = 7) then 67 else 77, [some (.ref 19), some (.int (nI v)), some (.int (nI w)), some (.int (nI dc)), none], [], wd C (upd Y.1 0 0, Y.2) og)) rfl ?_
    refine am_br_r (fun h_2 => ?_) (fun h_2 => ?_)
    · skip
      refine am_steps_r ok_M_lookup 3 (q' := (72, [some (.ref 19), some (.int (nI v)), some (.int (nI w)), some (.int (nI dc)), none], [.int (nI w), .ref 22], wd C (upd Y.1 0 0, Y.2) og)) rfl ?_
      refine am_iald_r ok_M_lookup rfl (w := wd C (upd Y.1 0 0, Y.2) og) (f := Y.2.1 2) rfl rfl (pk_in w 300 (by omega)) ?_
      rw [nI_clamp (show w < 2 ^ 31 by omega)]
      rw [show (Y.2.1 2 w) = V.1 w from (hY.2 w (by omega)).1]
      refine am_steps_r ok_M_lookup 2 (q' := (bif decide ((V.1 w) = 4) then 79 else 77, [some (.ref 19), some (.int (nI v)), some (.int (nI w)), some (.int (nI dc)), none], [], wd C (upd Y.1 0 0, Y.2) og)) rfl ?_
      refine am_br_r (fun h_3 => ?_) (fun h_3 => ?_)
      · skip
        refine am_steps_r ok_M_lookup 3 (q' := (84, [some (.ref 19), some (.int (nI v)), some (.int (nI w)), some (.int (nI dc)), none], [.int (nI dc), .ref 24], wd C (upd Y.1 0 0, Y.2) og)) rfl ?_
        refine am_iald_r ok_M_lookup rfl (w := wd C (upd Y.1 0 0, Y.2) og) (f := Y.2.1 3) rfl rfl (pk_in dc 300 (by omega)) ?_
        rw [nI_clamp (show dc < 2 ^ 31 by omega)]
        refine am_steps_r ok_M_lookup 1 (q' := (87, [some (.ref 19), some (.int (nI v)), some (.int (nI w)), some (.int (nI dc)), some (.int (Y.2.1 3 dc))], [], wd C (upd Y.1 0 0, Y.2) og)) rfl ?_
        refine am_eq_r (q' := (87, [some (.ref 19), some (.int (nI v)), some (.int (nI w)), some (.int (nI dc)), some (.int (Y.2.1 3 dc))], [], wd C (upd Y.1 0 0, Y.2) og)) rfl ?_
        obtain ⟨me, hev⟩ := hevn dc (by omega) (by assumption)
        exact lp_M_lookup_87 _ C Y og nv u V hY v w hw dc ((V.2.2.1 dc).length + 1) _ (V.2.2.1 dc) _ me (hok.1 dc (by omega)).1 hev (hY.2 dc (by omega)).2.2.2.2.1 ⟨by rw [lkX, hld, if_pos ⟨by assumption, by assumption⟩], rfl⟩ (by omega)
      · skip
        refine am_steps_r ok_M_lookup 1 (q' := (78, [some (.ref 19), some (.int (nI v)), some (.int (nI w)), some (.int (nI dc)), none], [.int (-1)], wd C (upd Y.1 0 0, Y.2) og)) rfl ?_
        refine am_iret_r ok_M_lookup rfl rfl rfl ?_
        first | exact ⟨by rw [lkX, hld, if_neg (fun z => absurd z.1 (by assumption))], rfl⟩ | exact ⟨by rw [lkX, hld, if_neg (fun z => absurd z.2 (by assumption))], rfl⟩
    · skip
      refine am_steps_r ok_M_lookup 1 (q' := (78, [some (.ref 19), some (.int (nI v)), some (.int (nI w)), some (.int (nI dc)), none], [.int (-1)], wd C (upd Y.1 0 0, Y.2) og)) rfl ?_
      refine am_iret_r ok_M_lookup rfl rfl rfl ?_
      first | exact ⟨by rw [lkX, hld, if_neg (fun z => absurd z.1 (by assumption))], rfl⟩ | exact ⟨by rw [lkX, hld, if_neg (fun z => absurd z.2 (by assumption))], rfl⟩
  · skip
    have hld : lkD V v = v := by rw [lkD, if_neg h_1]
    refine am_steps_r ok_M_lookup 5 (q' := (61, [some (.ref 19), some (.int (nI v)), some (.int (nI w)), some (.int (nI v)), none], [.int (nI v), .ref 22], wd C (upd Y.1 0 0, Y.2) og)) rfl ?_
    refine am_iald_r ok_M_lookup rfl (w := wd C (upd Y.1 0 0, Y.2) og) (f := Y.2.1 2) rfl rfl (pk_in v 300 (by omega)) ?_
    rw [nI_clamp (show v < 2 ^ 31 by omega)]
    rw [show (Y.2.1 2 v) = V.1 v from (hY.2 v (by omega)).1]
    refine am_steps_r ok_M_lookup 2 (q' := (bif decide ((V.1 v) = 7) then 67 else 77, [some (.ref 19), some (.int (nI v)), some (.int (nI w)), some (.int (nI v)), none], [], wd C (upd Y.1 0 0, Y.2) og)) rfl ?_
    refine am_br_r (fun h_4 => ?_) (fun h_4 => ?_)
    · skip
      refine am_steps_r ok_M_lookup 3 (q' := (72, [some (.ref 19), some (.int (nI v)), some (.int (nI w)), some (.int (nI v)), none], [.int (nI w), .ref 22], wd C (upd Y.1 0 0, Y.2) og)) rfl ?_
      refine am_iald_r ok_M_lookup rfl (w := wd C (upd Y.1 0 0, Y.2) og) (f := Y.2.1 2) rfl rfl (pk_in w 300 (by omega)) ?_
      rw [nI_clamp (show w < 2 ^ 31 by omega)]
      rw [show (Y.2.1 2 w) = V.1 w from (hY.2 w (by omega)).1]
      refine am_steps_r ok_M_lookup 2 (q' := (bif decide ((V.1 w) = 4) then 79 else 77, [some (.ref 19), some (.int (nI v)), some (.int (nI w)), some (.int (nI v)), none], [], wd C (upd Y.1 0 0, Y.2) og)) rfl ?_
      refine am_br_r (fun h_5 => ?_) (fun h_5 => ?_)
      · skip
        refine am_steps_r ok_M_lookup 3 (q' := (84, [some (.ref 19), some (.int (nI v)), some (.int (nI w)), some (.int (nI v)), none], [.int (nI v), .ref 24], wd C (upd Y.1 0 0, Y.2) og)) rfl ?_
        refine am_iald_r ok_M_lookup rfl (w := wd C (upd Y.1 0 0, Y.2) og) (f := Y.2.1 3) rfl rfl (pk_in v 300 (by omega)) ?_
        rw [nI_clamp (show v < 2 ^ 31 by omega)]
        refine am_steps_r ok_M_lookup 1 (q' := (87, [some (.ref 19), some (.int (nI v)), some (.int (nI w)), some (.int (nI v)), some (.int (Y.2.1 3 v))], [], wd C (upd Y.1 0 0, Y.2) og)) rfl ?_
        refine am_eq_r (q' := (87, [some (.ref 19), some (.int (nI v)), some (.int (nI w)), some (.int (nI v)), some (.int (Y.2.1 3 v))], [], wd C (upd Y.1 0 0, Y.2) og)) rfl ?_
        obtain ⟨me, hev⟩ := hevn v (by omega) (by assumption)
        exact lp_M_lookup_87 _ C Y og nv u V hY v w hw v ((V.2.2.1 v).length + 1) _ (V.2.2.1 v) _ me (hok.1 v (by omega)).1 hev (hY.2 v (by omega)).2.2.2.2.1 ⟨by rw [lkX, hld, if_pos ⟨by assumption, by assumption⟩], rfl⟩ (by omega)
      · skip
        refine am_steps_r ok_M_lookup 1 (q' := (78, [some (.ref 19), some (.int (nI v)), some (.int (nI w)), some (.int (nI v)), none], [.int (-1)], wd C (upd Y.1 0 0, Y.2) og)) rfl ?_
        refine am_iret_r ok_M_lookup rfl rfl rfl ?_
        first | exact ⟨by rw [lkX, hld, if_neg (fun z => absurd z.1 (by assumption))], rfl⟩ | exact ⟨by rw [lkX, hld, if_neg (fun z => absurd z.2 (by assumption))], rfl⟩
    · skip
      refine am_steps_r ok_M_lookup 1 (q' := (78, [some (.ref 19), some (.int (nI v)), some (.int (nI w)), some (.int (nI v)), none], [.int (-1)], wd C (upd Y.1 0 0, Y.2) og)) rfl ?_
      refine am_iret_r ok_M_lookup rfl rfl rfl ?_
      first | exact ⟨by rw [lkX, hld, if_neg (fun z => absurd z.1 (by assumption))], rfl⟩ | exact ⟨by rw [lkX, hld, if_neg (fun z => absurd z.2 (by assumption))], rfl⟩
set_option maxHeartbeats 4000000 in
set_option maxRecDepth 100000 in
theorem c_M_number_x (d : Nat) (C : wd_C) (Y : wd_Y) (og : Nat → Int64) (nv u : Nat) (V : VT) (hY : vsY Y nv u V) (x : Int32) (hx : isV nv x = false) : am_Mt l D cA ad fm (d + 1) m_M_number [.ref 19, .int x] (wd C Y og) (fun vr w' => vr = some (.long 0) ∧ w' = wd C (upd Y.1 0 1, Y.2) og) := by
  have hnv := hY.1.2.1
  refine am_mt ok_M_number (by simp [am_arg, Value.category, m_M_number, am_ml]) ?_
  refine am_eq_r (q' := (0, [some (.ref 19), some (.int x)], [], wd C Y og)) rfl ?_
  refine am_steps_r ok_M_number 3 (q' := (3, [some (.ref 19), some (.int x)], [.int x, .ref 19, .ref 19], wd C Y og)) rfl ?_
  refine am_callV_r (As := [.int x]) (rest := [.ref 19]) ok_M_number rfl rfl ok_M_isValue oi_M_isValue lk_6_264 (Or.inl ⟨_, _, _, rfl, rfl, rfl⟩) rfl rfl (Nat.le_of_ble_eq_true rfl) (c_M_isValue _ C Y og nv u (hY.1) x) ?_
  rintro v_ w_ ⟨rfl, rfl⟩ -
  rw [show (decide (0 ≤ x) && decide (x < nI nv)) = false from hx]
  refine am_eq_r (q' := (6, [some (.ref 19), some (.int x)], [.int 0, .ref 19], wd C Y og)) rfl ?_
  refine am_steps_r ok_M_number 8 (q' := (34, [some (.ref 19), some (.int x)], [.long 0], wd C (upd Y.1 0 1, Y.2) og)) rfl ?_
  refine am_lret_r ok_M_number rfl rfl rfl ?_
  exact ⟨rfl, rfl⟩
set_option maxHeartbeats 4000000 in
set_option maxRecDepth 100000 in
theorem c_M_byteOf_x (d : Nat) (C : wd_C) (Y : wd_Y) (og : Nat → Int64) (nv u : Nat) (V : VT) (hY : vsY Y nv u V) (x : Int32) (y : Int32) (hx : isV nv x = false) : am_Mt l D cA ad fm (d + 1) m_M_byteOf [.ref 19, .int x, .int y] (wd C Y og) (fun vr w' => vr = some (.int 0) ∧ w' = wd C (upd Y.1 0 1, Y.2) og) := by
  have hnv := hY.1.2.1
  refine am_mt ok_M_byteOf (by simp [am_arg, Value.category, m_M_byteOf, am_ml]) ?_
  refine am_eq_r (q' := (0, [some (.ref 19), some (.int x), some (.int y)], [], wd C Y og)) rfl ?_
  refine am_steps_r ok_M_byteOf 3 (q' := (3, [some (.ref 19), some (.int x), some (.int y)], [.int x, .ref 19, .ref 19], wd C Y og)) rfl ?_
  refine am_callV_r (As := [.int x]) (rest := [.ref 19]) ok_M_byteOf rfl rfl ok_M_isValue oi_M_isValue lk_6_264 (Or.inl ⟨_, _, _, rfl, rfl, rfl⟩) rfl rfl (Nat.le_of_ble_eq_true rfl) (c_M_isValue _ C Y og nv u (hY.1) x) ?_
  rintro v_ w_ ⟨rfl, rfl⟩ -
  rw [show (decide (0 ≤ x) && decide (x < nI nv)) = false from hx]
  refine am_eq_r (q' := (6, [some (.ref 19), some (.int x), some (.int y)], [.int 0, .ref 19], wd C Y og)) rfl ?_
  refine am_steps_r ok_M_byteOf 7 (q' := (25, [some (.ref 19), some (.int x), some (.int y)], [.int 0], wd C (upd Y.1 0 1, Y.2) og)) rfl ?_
  refine am_iret_r ok_M_byteOf rfl rfl rfl ?_
  exact ⟨rfl, rfl⟩
set_option maxHeartbeats 4000000 in
set_option maxRecDepth 100000 in
theorem c_M_child_x (d : Nat) (C : wd_C) (Y : wd_Y) (og : Nat → Int64) (nv u : Nat) (V : VT) (hY : vsY Y nv u V) (x : Int32) (y : Int32) (hx : isV nv x = false) : am_Mt l D cA ad fm (d + 1) m_M_child [.ref 19, .int x, .int y] (wd C Y og) (fun vr w' => vr = some (.int 0) ∧ w' = wd C (upd Y.1 0 1, Y.2) og) := by
  have hnv := hY.1.2.1
  refine am_mt ok_M_child (by simp [am_arg, Value.category, m_M_child, am_ml]) ?_
  refine am_eq_r (q' := (0, [some (.ref 19), some (.int x), some (.int y), none, none], [], wd C Y og)) rfl ?_
  refine am_steps_r ok_M_child 3 (q' := (3, [some (.ref 19), some (.int x), some (.int y), none, none], [.int x, .ref 19, .ref 19], wd C Y og)) rfl ?_
  refine am_callV_r (As := [.int x]) (rest := [.ref 19]) ok_M_child rfl rfl ok_M_isValue oi_M_isValue lk_6_264 (Or.inl ⟨_, _, _, rfl, rfl, rfl⟩) rfl rfl (Nat.le_of_ble_eq_true rfl) (c_M_isValue _ C Y og nv u (hY.1) x) ?_
  rintro v_ w_ ⟨rfl, rfl⟩ -
  rw [show (decide (0 ≤ x) && decide (x < nI nv)) = false from hx]
  refine am_eq_r (q' := (6, [some (.ref 19), some (.int x), some (.int y), none, none], [.int 0, .ref 19], wd C Y og)) rfl ?_
  refine am_steps_r ok_M_child 7 (q' := (25, [some (.ref 19), some (.int x), some (.int y), none, none], [.int 0], wd C (upd Y.1 0 1, Y.2) og)) rfl ?_
  refine am_iret_r ok_M_child rfl rfl rfl ?_
  exact ⟨rfl, rfl⟩
set_option maxHeartbeats 4000000 in
set_option maxRecDepth 100000 in
theorem c_M_value_x (d : Nat) (C : wd_C) (Y : wd_Y) (og : Nat → Int64) (nv u : Nat) (V : VT) (hY : vsY Y nv u V) (x y : Int32) (hx : ¬ (isV nv x = true ∧ 0 ≤ y ∧ y < 3)) : am_Mt l D cA ad fm (d + 1) m_M_value [.ref 19, .int x, .int y] (wd C Y og) (fun vr w' => vr = some (.int 0) ∧ w' = wd C (upd Y.1 0 1, Y.2) og) := by
  have hnv := hY.1.2.1
  refine am_mt ok_M_value (by simp [am_arg, Value.category, m_M_value, am_ml]) ?_
  refine am_eq_r (q' := (0, [some (.ref 19), some (.int x), some (.int y)], [], wd C Y og)) rfl ?_
  refine am_steps_r ok_M_value 3 (q' := (3, [some (.ref 19), some (.int x), some (.int y)], [.int x, .ref 19, .ref 19], wd C Y og)) rfl ?_
  refine am_callV_r (As := [.int x]) (rest := [.ref 19]) ok_M_value rfl rfl ok_M_isValue oi_M_isValue lk_6_264 (Or.inl ⟨_, _, _, rfl, rfl, rfl⟩) rfl rfl (Nat.le_of_ble_eq_true rfl) (c_M_isValue _ C Y og nv u (hY.1) x) ?_
  rintro v_ w_ ⟨rfl, rfl⟩ -
  refine am_eq_r (q' := (6, [some (.ref 19), some (.int x), some (.int y)], [.int (bz (isV nv x)), .ref 19], wd C Y og)) rfl ?_
  refine am_steps_r ok_M_value 1 (q' := (bif decide ((bz (isV nv x)) = 0) then 22 else 9, [some (.ref 19), some (.int x), some (.int y)], [.ref 19], wd C Y og)) rfl ?_
  refine am_bz_r (fun h_1 => ?_) (fun h_1 => ?_)
  · skip
    refine am_steps_r ok_M_value 2 (q' := (bif decide (y < 0) then 22 else 13, [some (.ref 19), some (.int x), some (.int y)], [.ref 19], wd C Y og)) rfl ?_
    refine am_br_r (fun h_2 => ?_) (fun h_2 => ?_)
    · skip
      refine am_steps_r ok_M_value 6 (q' := (34, [some (.ref 19), some (.int x), some (.int y)], [.int 0], wd C (upd Y.1 0 1, Y.2) og)) rfl ?_
      refine am_iret_r ok_M_value rfl rfl rfl ?_
      exact ⟨rfl, rfl⟩
    · skip
      refine am_steps_r ok_M_value 3 (q' := (bif decide (3 ≤ y) then 22 else 18, [some (.ref 19), some (.int x), some (.int y)], [.ref 19], wd C Y og)) rfl ?_
      refine am_br_r (fun h_3 => ?_) (fun h_3 => ?_)
      · skip
        refine am_steps_r ok_M_value 6 (q' := (34, [some (.ref 19), some (.int x), some (.int y)], [.int 0], wd C (upd Y.1 0 1, Y.2) og)) rfl ?_
        refine am_iret_r ok_M_value rfl rfl rfl ?_
        exact ⟨rfl, rfl⟩
      · skip
        exact absurd ⟨by assumption, Int32.not_lt.mp (by assumption), Int32.not_le.mp (by assumption)⟩ hx
  · skip
    refine am_steps_r ok_M_value 6 (q' := (34, [some (.ref 19), some (.int x), some (.int y)], [.int 0], wd C (upd Y.1 0 1, Y.2) og)) rfl ?_
    refine am_iret_r ok_M_value rfl rfl rfl ?_
    exact ⟨rfl, rfl⟩
set_option maxHeartbeats 4000000 in
set_option maxRecDepth 100000 in
theorem c_M_lookup_x (d : Nat) (C : wd_C) (Y : wd_Y) (og : Nat → Int64) (nv u : Nat) (V : VT) (hY : vsY Y nv u V) (x y : Int32) (hx : ¬ (isV nv x = true ∧ isV nv y = true)) : am_Mt l D cA ad fm (d + 1) m_M_lookup [.ref 19, .int x, .int y] (wd C Y og) (fun vr w' => vr = some (.int 0) ∧ w' = wd C (upd Y.1 0 1, Y.2) og) := by
  have hnv := hY.1.2.1
  refine am_mt ok_M_lookup (by simp [am_arg, Value.category, m_M_lookup, am_ml]) ?_
  refine am_eq_r (q' := (0, [some (.ref 19), some (.int x), some (.int y), none, none], [], wd C Y og)) rfl ?_
  refine am_steps_r ok_M_lookup 3 (q' := (3, [some (.ref 19), some (.int x), some (.int y), none, none], [.int x, .ref 19, .ref 19], wd C Y og)) rfl ?_
  refine am_callV_r (As := [.int x]) (rest := [.ref 19]) ok_M_lookup rfl rfl ok_M_isValue oi_M_isValue lk_6_264 (Or.inl ⟨_, _, _, rfl, rfl, rfl⟩) rfl rfl (Nat.le_of_ble_eq_true rfl) (c_M_isValue _ C Y og nv u (hY.1) x) ?_
  rintro v_ w_ ⟨rfl, rfl⟩ -
  refine am_eq_r (q' := (6, [some (.ref 19), some (.int x), some (.int y), none, none], [.int (bz (isV nv x)), .ref 19], wd C Y og)) rfl ?_
  refine am_steps_r ok_M_lookup 1 (q' := (bif decide ((bz (isV nv x)) = 0) then 21 else 9, [some (.ref 19), some (.int x), some (.int y), none, none], [.ref 19], wd C Y og)) rfl ?_
  refine am_bz_r (fun h_1 => ?_) (fun h_1 => ?_)
  · skip
    refine am_steps_r ok_M_lookup 2 (q' := (11, [some (.ref 19), some (.int x), some (.int y), none, none], [.int y, .ref 19, .ref 19], wd C Y og)) rfl ?_
    refine am_callV_r (As := [.int y]) (rest := [.ref 19]) ok_M_lookup rfl rfl ok_M_isValue oi_M_isValue lk_6_264 (Or.inl ⟨_, _, _, rfl, rfl, rfl⟩) rfl rfl (Nat.le_of_ble_eq_true rfl) (c_M_isValue _ C Y og nv u (hY.1) y) ?_
    rintro v_ w_ ⟨rfl, rfl⟩ -
    refine am_eq_r (q' := (14, [some (.ref 19), some (.int x), some (.int y), none, none], [.int (bz (isV nv y)), .ref 19], wd C Y og)) rfl ?_
    refine am_steps_r ok_M_lookup 1 (q' := (bif decide ((bz (isV nv y)) = 0) then 21 else 17, [some (.ref 19), some (.int x), some (.int y), none, none], [.ref 19], wd C Y og)) rfl ?_
    refine am_bz_r (fun h_2 => ?_) (fun h_2 => ?_)
    · skip
      exact absurd ⟨by assumption, by assumption⟩ hx
    · skip
      refine am_steps_r ok_M_lookup 6 (q' := (33, [some (.ref 19), some (.int x), some (.int y), none, none], [.int 0], wd C (upd Y.1 0 1, Y.2) og)) rfl ?_
      refine am_iret_r ok_M_lookup rfl rfl rfl ?_
      exact ⟨rfl, rfl⟩
  · skip
    refine am_steps_r ok_M_lookup 6 (q' := (33, [some (.ref 19), some (.int x), some (.int y), none, none], [.int 0], wd C (upd Y.1 0 1, Y.2) og)) rfl ?_
    refine am_iret_r ok_M_lookup rfl rfl rfl ?_
    exact ⟨rfl, rfl⟩
set_option maxHeartbeats 4000000 in
set_option maxRecDepth 100000 in
theorem c_M_told_x (d : Nat) (C : wd_C) (Y : wd_Y) (og : Nat → Int64) (y : Int32) (hx : ¬ (0 ≤ y ∧ y < 5)) : am_Mt l D cA ad fm (d + 0) m_M_told [.ref 19, .int y] (wd C Y og) (fun vr w' => vr = some (.int 0) ∧ w' = wd C (upd Y.1 0 1, Y.2) og) := by
  refine am_mt ok_M_told (by simp [am_arg, Value.category, m_M_told, am_ml]) ?_
  refine am_eq_r (q' := (0, [some (.ref 19), some (.int y)], [], wd C Y og)) rfl ?_
  refine am_steps_r ok_M_told 3 (q' := (bif decide (y < 0) then 14 else 5, [some (.ref 19), some (.int y)], [.ref 19], wd C Y og)) rfl ?_
  refine am_br_r (fun h_1 => ?_) (fun h_1 => ?_)
  · skip
    refine am_steps_r ok_M_told 6 (q' := (26, [some (.ref 19), some (.int y)], [.int 0], wd C (upd Y.1 0 1, Y.2) og)) rfl ?_
    refine am_iret_r ok_M_told rfl rfl rfl ?_
    exact ⟨rfl, rfl⟩
  · skip
    refine am_steps_r ok_M_told 3 (q' := (bif decide (5 ≤ y) then 14 else 10, [some (.ref 19), some (.int y)], [.ref 19], wd C Y og)) rfl ?_
    refine am_br_r (fun h_2 => ?_) (fun h_2 => ?_)
    · skip
      refine am_steps_r ok_M_told 6 (q' := (26, [some (.ref 19), some (.int y)], [.int 0], wd C (upd Y.1 0 1, Y.2) og)) rfl ?_
      refine am_iret_r ok_M_told rfl rfl rfl ?_
      exact ⟨rfl, rfl⟩
    · skip
      exact absurd ⟨Int32.not_lt.mp (by assumption), Int32.not_le.mp (by assumption)⟩ hx
set_option maxHeartbeats 4000000 in
set_option maxRecDepth 100000 in
theorem c_M_feed_x (d : Nat) (C : wd_C) (Y : wd_Y) (og : Nat → Int64) (x : Int32) (B : Int64) (hx : ¬ (1 ≤ x ∧ x ≤ 8)) : am_Mt l D cA ad fm (d + 0) m_M_feed [.ref 19, .int x, .long B] (wd C Y og) (fun vr w' => vr = some (.int 0) ∧ w' = wd C (upd Y.1 0 1, Y.2) og) := by
  refine am_mt ok_M_feed (by simp [am_arg, Value.category, m_M_feed, am_ml]) ?_
  refine am_eq_r (q' := (0, [some (.ref 19), some (.int x), some (.long B), none, none], [], wd C Y og)) rfl ?_
  refine am_steps_r ok_M_feed 4 (q' := (bif decide (x < 1) then 12 else 6, [some (.ref 19), some (.int x), some (.long B), none, none], [.ref 19], wd C Y og)) rfl ?_
  refine am_br_r (fun h_1 => ?_) (fun h_1 => ?_)
  · skip
    refine am_steps_r ok_M_feed 7 (q' := (28, [some (.ref 19), some (.int x), some (.long B), none, none], [.int 0], wd C (upd Y.1 0 1, Y.2) og)) rfl ?_
    refine am_iret_r ok_M_feed rfl rfl rfl ?_
    exact ⟨rfl, rfl⟩
  · skip
    refine am_steps_r ok_M_feed 3 (q' := (bif decide (x ≤ 8) then 16 else 12, [some (.ref 19), some (.int x), some (.long B), none, none], [.ref 19], wd C Y og)) rfl ?_
    refine am_br_r (fun h_2 => ?_) (fun h_2 => ?_)
    · skip
      exact absurd ⟨Int32.not_lt.mp (by assumption), by assumption⟩ hx
    · skip
      refine am_steps_r ok_M_feed 7 (q' := (28, [some (.ref 19), some (.int x), some (.long B), none, none], [.int 0], wd C (upd Y.1 0 1, Y.2) og)) rfl ?_
      refine am_iret_r ok_M_feed rfl rfl rfl ?_
      exact ⟨rfl, rfl⟩
set_option maxHeartbeats 4000000 in
set_option maxRecDepth 100000 in
theorem c_M_told_0 (d : Nat) (C : wd_C) (Y : wd_Y) (og : Nat → Int64)  : am_Mt l D cA ad fm (d + 0) m_M_told [.ref 19, .int 0] (wd C Y og) (fun vr w' => vr = some (.int (Y.1 1)) ∧ w' = wd C (upd Y.1 0 0, Y.2) og) := by
  refine am_mt ok_M_told (by simp [am_arg, Value.category, m_M_told, am_ml]) ?_
  refine am_eq_r (q' := (0, [some (.ref 19), some (.int 0)], [], wd C Y og)) rfl ?_
  refine am_steps_r ok_M_told 17 (q' := (78, [some (.ref 19), some (.int 0)], [.int (Y.1 1)], wd C (upd Y.1 0 0, Y.2) og)) rfl ?_
  refine am_iret_r ok_M_told rfl rfl rfl ?_
  exact ⟨rfl, rfl⟩
set_option maxHeartbeats 4000000 in
set_option maxRecDepth 100000 in
theorem c_M_told_1 (d : Nat) (C : wd_C) (Y : wd_Y) (og : Nat → Int64)  : am_Mt l D cA ad fm (d + 0) m_M_told [.ref 19, .int 1] (wd C Y og) (fun vr w' => vr = some (.int (Y.1 13)) ∧ w' = wd C (upd Y.1 0 0, Y.2) og) := by
  refine am_mt ok_M_told (by simp [am_arg, Value.category, m_M_told, am_ml]) ?_
  refine am_eq_r (q' := (0, [some (.ref 19), some (.int 1)], [], wd C Y og)) rfl ?_
  refine am_steps_r ok_M_told 20 (q' := (78, [some (.ref 19), some (.int 1)], [.int (Y.1 13)], wd C (upd Y.1 0 0, Y.2) og)) rfl ?_
  refine am_iret_r ok_M_told rfl rfl rfl ?_
  exact ⟨rfl, rfl⟩
set_option maxHeartbeats 4000000 in
set_option maxRecDepth 100000 in
theorem c_M_told_2 (d : Nat) (C : wd_C) (Y : wd_Y) (og : Nat → Int64)  : am_Mt l D cA ad fm (d + 0) m_M_told [.ref 19, .int 2] (wd C Y og) (fun vr w' => vr = some (.int (Y.1 2)) ∧ w' = wd C (upd Y.1 0 0, Y.2) og) := by
  refine am_mt ok_M_told (by simp [am_arg, Value.category, m_M_told, am_ml]) ?_
  refine am_eq_r (q' := (0, [some (.ref 19), some (.int 2)], [], wd C Y og)) rfl ?_
  refine am_steps_r ok_M_told 23 (q' := (78, [some (.ref 19), some (.int 2)], [.int (Y.1 2)], wd C (upd Y.1 0 0, Y.2) og)) rfl ?_
  refine am_iret_r ok_M_told rfl rfl rfl ?_
  exact ⟨rfl, rfl⟩
set_option maxHeartbeats 4000000 in
set_option maxRecDepth 100000 in
theorem c_M_told_3 (d : Nat) (C : wd_C) (Y : wd_Y) (og : Nat → Int64)  : am_Mt l D cA ad fm (d + 0) m_M_told [.ref 19, .int 3] (wd C Y og) (fun vr w' => vr = some (.int (Y.1 4)) ∧ w' = wd C (upd Y.1 0 0, Y.2) og) := by
  refine am_mt ok_M_told (by simp [am_arg, Value.category, m_M_told, am_ml]) ?_
  refine am_eq_r (q' := (0, [some (.ref 19), some (.int 3)], [], wd C Y og)) rfl ?_
  refine am_steps_r ok_M_told 26 (q' := (78, [some (.ref 19), some (.int 3)], [.int (Y.1 4)], wd C (upd Y.1 0 0, Y.2) og)) rfl ?_
  refine am_iret_r ok_M_told rfl rfl rfl ?_
  exact ⟨rfl, rfl⟩
set_option maxHeartbeats 4000000 in
set_option maxRecDepth 100000 in
theorem c_M_told_4 (d : Nat) (C : wd_C) (Y : wd_Y) (og : Nat → Int64)  : am_Mt l D cA ad fm (d + 0) m_M_told [.ref 19, .int 4] (wd C Y og) (fun vr w' => vr = some (.int (Y.1 3)) ∧ w' = wd C (upd Y.1 0 0, Y.2) og) := by
  refine am_mt ok_M_told (by simp [am_arg, Value.category, m_M_told, am_ml]) ?_
  refine am_eq_r (q' := (0, [some (.ref 19), some (.int 4)], [], wd C Y og)) rfl ?_
  refine am_steps_r ok_M_told 25 (q' := (78, [some (.ref 19), some (.int 4)], [.int (Y.1 3)], wd C (upd Y.1 0 0, Y.2) og)) rfl ?_
  refine am_iret_r ok_M_told rfl rfl rfl ?_
  exact ⟨rfl, rfl⟩
set_option maxHeartbeats 4000000 in
set_option maxRecDepth 100000 in
theorem c_M_out_k (d : Nat) (C : wd_C) (Y : wd_Y) (og : Nat → Int64) (O : List Int32) (hU : ouY Y O) (k : Nat) (hk : k < 2 ^ 31) : am_Mt l D cA ad fm (d + 0) m_M_out [.ref 19, .int (nI k)] (wd C Y og) (fun vr w' => vr = some (.int (if k < O.length then O.getD k 0 else -1)) ∧ w' = wd C (upd Y.1 0 0, Y.2) og) := by
  have ho4 := hU.2.1
  refine am_mt ok_M_out (by simp [am_arg, Value.category, m_M_out, am_ml]) ?_
  refine am_eq_r (q' := (0, [some (.ref 19), some (.int (nI k))], [], wd C Y og)) rfl ?_
  refine am_steps_r ok_M_out 5 (q' := (bif decide ((nI k) < 0) then 26 else 9, [some (.ref 19), some (.int (nI k))], [], wd C (upd Y.1 0 0, Y.2) og)) rfl ?_
  refine am_br_r (fun h_1 => ?_) (fun h_1 => ?_)
  · skip
    have h_1 : k < 0 := (nI_ltI (show k < 2 ^ 31 by omega) (show 0 < 2 ^ 31 by omega)).mp h_1
    exact absurd h_1 (Nat.not_lt_zero _)
  · skip
    have h_1 : ¬ k < 0 := fun z => h_1 ((nI_ltI (show k < 2 ^ 31 by omega) (show 0 < 2 ^ 31 by omega)).mpr z)
    refine am_steps_r ok_M_out 4 (q' := (bif decide ((Y.1 13) ≤ (nI k)) then 26 else 17, [some (.ref 19), some (.int (nI k))], [], wd C (upd Y.1 0 0, Y.2) og)) rfl ?_
    rw [show (Y.1 13 : Int32) = nI O.length from hU.1]
    refine am_br_r (fun h_2 => ?_) (fun h_2 => ?_)
    · skip
      have h_2 : O.length ≤ k := (nI_leI (show O.length < 2 ^ 31 by omega) (show k < 2 ^ 31 by omega)).mp h_2
      refine am_steps_r ok_M_out 1 (q' := (27, [some (.ref 19), some (.int (nI k))], [.int (-1)], wd C (upd Y.1 0 0, Y.2) og)) rfl ?_
      refine am_iret_r ok_M_out rfl rfl rfl ?_
      first | (exfalso; omega) | exact ⟨by rw [if_pos (by omega)], rfl⟩ | exact ⟨by rw [if_neg (by omega)], rfl⟩
    · skip
      have h_2 : ¬ O.length ≤ k := fun z => h_2 ((nI_leI (show O.length < 2 ^ 31 by omega) (show k < 2 ^ 31 by omega)).mpr z)
      refine am_steps_r ok_M_out 3 (q' := (22, [some (.ref 19), some (.int (nI k))], [.int (nI k), .ref 34], wd C (upd Y.1 0 0, Y.2) og)) rfl ?_
      refine am_iald_r ok_M_out rfl (w := wd C (upd Y.1 0 0, Y.2) og) (f := Y.2.1 13) rfl rfl (pk_in k 4000 (by omega)) ?_
      rw [nI_clamp (show k < 2 ^ 31 by omega)]
      rw [show (Y.2.1 13 k) = O.getD k 0 from hU.2.2 k (by omega)]
      refine am_steps_r ok_M_out 1 (q' := (27, [some (.ref 19), some (.int (nI k))], [.int (O.getD k 0)], wd C (upd Y.1 0 0, Y.2) og)) rfl ?_
      refine am_iret_r ok_M_out rfl rfl rfl ?_
      first | (exfalso; omega) | exact ⟨by rw [if_pos (by omega)], rfl⟩ | exact ⟨by rw [if_neg (by omega)], rfl⟩
set_option maxHeartbeats 4000000 in
set_option maxRecDepth 100000 in
theorem c_M_out_m (d : Nat) (C : wd_C) (Y : wd_Y) (og : Nat → Int64) (O : List Int32) (hU : ouY Y O) (y : Int32) (hy : y < 0) : am_Mt l D cA ad fm (d + 0) m_M_out [.ref 19, .int y] (wd C Y og) (fun vr w' => vr = some (.int (-1)) ∧ w' = wd C (upd Y.1 0 0, Y.2) og) := by
  have ho4 := hU.2.1
  refine am_mt ok_M_out (by simp [am_arg, Value.category, m_M_out, am_ml]) ?_
  refine am_eq_r (q' := (0, [some (.ref 19), some (.int y)], [], wd C Y og)) rfl ?_
  refine am_steps_r ok_M_out 5 (q' := (bif decide (y < 0) then 26 else 9, [some (.ref 19), some (.int y)], [], wd C (upd Y.1 0 0, Y.2) og)) rfl ?_
  refine am_br_r (fun h_1 => ?_) (fun h_1 => ?_)
  · skip
    refine am_steps_r ok_M_out 1 (q' := (27, [some (.ref 19), some (.int y)], [.int (-1)], wd C (upd Y.1 0 0, Y.2) og)) rfl ?_
    refine am_iret_r ok_M_out rfl rfl rfl ?_
    exact ⟨rfl, rfl⟩
  · skip
    exact absurd hy h_1
set_option maxHeartbeats 4000000 in
set_option maxRecDepth 100000 in
theorem lp_M_take_27 (d : Nat) (C : wd_C) (Y : wd_Y) (og : Nat → Int64) (O : List Int32) (hU : ouY Y O) (ho16 : O.length ≤ 1600)  : ∀ (fu : Nat) (post : Option Value → am_W → Prop) (k : Nat), (k ≤ O.length) → (post (some (.int (nI O.length))) (wd C (upd (upd Y.1 0 0) 1 (nI O.length), wd_u Y.2.1 0 (cpK (Y.2.1 13) (Y.2.1 0) O.length), Y.2.2) og)) → O.length - k < fu → am_Rn l D cA ad fm (d + 0) m_M_take (wd C Y og).length post (27, [some (.ref 19), some (.int (nI k))], [], wd C (upd (upd Y.1 0 0) 1 (nI O.length), wd_u Y.2.1 0 (cpK (Y.2.1 13) (Y.2.1 0) k), Y.2.2) og) := by
  intro fu
  induction fu with
  | zero => intro post k hkl hpo hfu; exact absurd hfu (Nat.not_lt_zero _)
  | succ fu ih =>
    intro post k hkl hpo hfu
    refine am_steps_r ok_M_take 4 (q' := (bif decide ((nI O.length) ≤ (nI k)) then 53 else 35, [some (.ref 19), some (.int (nI k))], [], wd C (upd (upd Y.1 0 0) 1 (nI O.length), wd_u Y.2.1 0 (cpK (Y.2.1 13) (Y.2.1 0) k), Y.2.2) og)) rfl ?_
    refine am_br_r (fun h_1 => ?_) (fun h_1 => ?_)
    · skip
      have h_1 : O.length ≤ k := (nI_leI (show O.length < 2 ^ 31 by omega) (show k < 2 ^ 31 by omega)).mp h_1
      refine am_steps_r ok_M_take 2 (q' := (57, [some (.ref 19), some (.int (nI k))], [.int (nI O.length)], wd C (upd (upd Y.1 0 0) 1 (nI O.length), wd_u Y.2.1 0 (cpK (Y.2.1 13) (Y.2.1 0) k), Y.2.2) og)) rfl ?_
      refine am_iret_r ok_M_take rfl rfl rfl ?_
      rw [show k = O.length by omega]
      exact hpo
    · skip
      have h_1 : ¬ O.length ≤ k := fun z => h_1 ((nI_leI (show O.length < 2 ^ 31 by omega) (show k < 2 ^ 31 by omega)).mpr z)
      refine am_steps_r ok_M_take 6 (q' := (45, [some (.ref 19), some (.int (nI k))], [.int (nI k), .ref 34, .int (nI k), .ref 20], wd C (upd (upd Y.1 0 0) 1 (nI O.length), wd_u Y.2.1 0 (cpK (Y.2.1 13) (Y.2.1 0) k), Y.2.2) og)) rfl ?_
      refine am_iald_r ok_M_take rfl (w := wd C (upd (upd Y.1 0 0) 1 (nI O.length), wd_u Y.2.1 0 (cpK (Y.2.1 13) (Y.2.1 0) k), Y.2.2) og) (f := Y.2.1 13) rfl rfl (pk_in k 4000 (by omega)) ?_
      rw [nI_clamp (show k < 2 ^ 31 by omega)]
      refine am_iast_r ok_M_take rfl (w := wd C (upd (upd Y.1 0 0) 1 (nI O.length), wd_u Y.2.1 0 (cpK (Y.2.1 13) (Y.2.1 0) k), Y.2.2) og) (f := cpK (Y.2.1 13) (Y.2.1 0) k) rfl rfl (pk_in k 1600 (by omega)) ?_
      rw [nI_clamp (show k < 2 ^ 31 by omega)]
      refine am_eq_r (q' := (47, [some (.ref 19), some (.int (nI k))], [], wd C (upd (upd Y.1 0 0) 1 (nI O.length), wd_u Y.2.1 0 (upd (cpK (Y.2.1 13) (Y.2.1 0) k) k (Y.2.1 13 k)), Y.2.2) og)) rfl ?_
      refine am_steps_r ok_M_take 2 (q' := (27, [some (.ref 19), some (.int ((nI k) + 1))], [], wd C (upd (upd Y.1 0 0) 1 (nI O.length), wd_u Y.2.1 0 (upd (cpK (Y.2.1 13) (Y.2.1 0) k) k (Y.2.1 13 k)), Y.2.2) og)) rfl ?_
      rw [show ((nI k) + 1 : Int32) = nI (k + 1) from nI_add k 1]
      rw [show upd (cpK (Y.2.1 13) (Y.2.1 0) k) k (Y.2.1 13 k) = cpK (Y.2.1 13) (Y.2.1 0) (k + 1) from cpK_s _ _ _]
      exact ih post (k + 1) (by omega) hpo (by omega)
set_option maxHeartbeats 4000000 in
set_option maxRecDepth 100000 in
theorem c_M_take (d : Nat) (C : wd_C) (Y : wd_Y) (og : Nat → Int64) (O : List Int32) (hU : ouY Y O)  : am_Mt l D cA ad fm (d + 0) m_M_take [.ref 19] (wd C Y og) (fun vr w' => vr = some (.int (if O.length ≤ 1600 then nI O.length else -1)) ∧ ∃ Y', w' = wd C Y' og ∧ Y'.1 0 = 0 ∧ tyO Y Y' ∧ (O.length ≤ 1600 → Y'.1 1 = nI O.length ∧ O.length ≤ 1600 ∧ ∀ k, k < O.length → Y'.2.1 0 k = O.getD k 0) ∧ (¬ O.length ≤ 1600 → Y'.1 1 = Y.1 1 ∧ Y'.2.1 0 = Y.2.1 0)) := by
  have ho4 := hU.2.1
  refine am_mt ok_M_take (by simp [am_arg, Value.category, m_M_take, am_ml]) ?_
  refine am_eq_r (q' := (0, [some (.ref 19), none], [], wd C Y og)) rfl ?_
  refine am_steps_r ok_M_take 7 (q' := (bif decide ((Y.1 13) ≤ 1600) then 17 else 15, [some (.ref 19), none], [], wd C (upd Y.1 0 0, Y.2) og)) rfl ?_
  rw [show (Y.1 13 : Int32) = nI O.length from hU.1]
  refine am_br_r (fun h_1 => ?_) (fun h_1 => ?_)
  · skip
    have h_1 : O.length ≤ 1600 := (nI_leI (show O.length < 2 ^ 31 by omega) (show 1600 < 2 ^ 31 by omega)).mp h_1
    refine am_steps_r ok_M_take 6 (q' := (27, [some (.ref 19), some (.int 0)], [], wd C (upd (upd Y.1 0 0) 1 (Y.1 13), Y.2) og)) rfl ?_
    rw [show (Y.1 13 : Int32) = nI O.length from hU.1]
    refine am_eq_r (q' := (27, [some (.ref 19), some (.int (nI 0))], [], wd C (upd (upd Y.1 0 0) 1 (nI O.length), wd_u Y.2.1 0 (cpK (Y.2.1 13) (Y.2.1 0) 0), Y.2.2) og)) (by rw [cpK_0, wdu_self]; rfl) ?_
    exact lp_M_take_27 _ C Y og O hU (by omega) (O.length + 1) _ 0 (Nat.zero_le _) ⟨by rw [if_pos (by omega)], _, rfl, rfl, ⟨fun j hj => tyU hj, fun j hj => wduL hj, rfl⟩, fun _ => tkY hU (by omega), fun z => absurd (show O.length ≤ 1600 by omega) z⟩ (by omega)
  · skip
    have h_1 : ¬ O.length ≤ 1600 := fun z => h_1 ((nI_leI (show O.length < 2 ^ 31 by omega) (show 1600 < 2 ^ 31 by omega)).mpr z)
    refine am_steps_r ok_M_take 1 (q' := (16, [some (.ref 19), none], [.int (-1)], wd C (upd Y.1 0 0, Y.2) og)) rfl ?_
    refine am_iret_r ok_M_take rfl rfl rfl ?_
    exact ⟨by rw [if_neg (by omega)], _, rfl, rfl, ⟨fun j hj => by show upd Y.1 0 0 j = _; rw [upd, if_neg (by omega)], fun j hj => rfl, rfl⟩, fun z => absurd z (by omega), fun _ => ⟨rfl, rfl⟩⟩
set_option maxHeartbeats 4000000 in
set_option maxRecDepth 100000 in
theorem lp_M_feed_46 (d : Nat) (C : wd_C) (Y : wd_Y) (og : Nat → Int64) (n : Nat) (b : Nat → Int32) (hT : tpY Y n b) (kk : Nat) (hk8 : kk ≤ 8) (hnk : n + kk ≤ 1600) (B : Int64)  : ∀ (fu : Nat) (post : Option Value → am_W → Prop) (i : Nat) (Y1 : wd_Y), (i ≤ kk) → (tyF Y1 (n + i) (fdB b n i B)) → (tyO Y Y1) → (Y1.1 0 = 0) → (∀ Y2, tyF Y2 (n + kk) (fdB b n kk B) → tyO Y Y2 → Y2.1 0 = 0 → post (some (.int (nI (n + kk)))) (wd C Y2 og)) → kk - i < fu → am_Rn l D cA ad fm (d + 0) m_M_feed (wd C Y og).length post (46, [some (.ref 19), some (.int (nI kk)), some (.long B), none, some (.int (nI i))], [], wd C Y1 og) := by
  intro fu
  induction fu with
  | zero => intro post i Y1 hil hT1 hF h00 hpo hfu; exact absurd hfu (Nat.not_lt_zero _)
  | succ fu ih =>
    intro post i Y1 hil hT1 hF h00 hpo hfu
    have hn16 := hT.2.1
    refine am_steps_r ok_M_feed 3 (q' := (bif decide ((nI kk) ≤ (nI i)) then 89 else 52, [some (.ref 19), some (.int (nI kk)), some (.long B), none, some (.int (nI i))], [], wd C Y1 og)) rfl ?_
    refine am_br_r (fun h_1 => ?_) (fun h_1 => ?_)
    · skip
      have h_1 : kk ≤ i := (nI_leI (show kk < 2 ^ 31 by omega) (show i < 2 ^ 31 by omega)).mp h_1
      refine am_steps_r ok_M_feed 2 (q' := (93, [some (.ref 19), some (.int (nI kk)), some (.long B), none, some (.int (nI i))], [.int (Y1.1 1)], wd C Y1 og)) rfl ?_
      rw [show (Y1.1 1 : Int32) = nI (n + i) from hT1.1]
      refine am_iret_r ok_M_feed rfl rfl rfl ?_
      have hki : kk = i := by omega
      rw [hki] at hpo
      exact hpo _ hT1 hF h00
    · skip
      have h_1 : ¬ kk ≤ i := fun z => h_1 ((nI_leI (show kk < 2 ^ 31 by omega) (show i < 2 ^ 31 by omega)).mpr z)
      refine am_steps_r ok_M_feed 12 (q' := (72, [some (.ref 19), some (.int (nI kk)), some (.long B), none, some (.int (nI i))], [.int (((B >>> ((8 * (nI i)).toInt64 &&& 63)) &&& 255).toInt32), .int (Y1.1 1), .ref 20], wd C Y1 og)) rfl ?_
      rw [show (Y1.1 1 : Int32) = nI (n + i) from hT1.1]
      rw [show (8 * (nI i) : Int32) = nI (8 * i) from pk_mul 8 i]
      refine am_iast_r ok_M_feed rfl (w := wd C Y1 og) (f := Y1.2.1 0) rfl rfl (pk_in (n + i) 1600 (by omega)) ?_
      rw [nI_clamp (show (n + i) < 2 ^ 31 by omega)]
      refine am_eq_r (q' := (73, [some (.ref 19), some (.int (nI kk)), some (.long B), none, some (.int (nI i))], [], wd C (Y1.1, wd_u Y1.2.1 0 (upd (Y1.2.1 0) (n + i) (((B >>> ((nI (8 * i)).toInt64 &&& 63)) &&& 255).toInt32)), Y1.2.2) og)) rfl ?_
      refine am_steps_r ok_M_feed 8 (q' := (46, [some (.ref 19), some (.int (nI kk)), some (.long B), none, some (.int ((nI i) + 1))], [], wd C (upd Y1.1 1 ((Y1.1 1) + 1), wd_u Y1.2.1 0 (upd (Y1.2.1 0) (n + i) (((B >>> ((nI (8 * i)).toInt64 &&& 63)) &&& 255).toInt32)), Y1.2.2) og)) rfl ?_
      rw [show (Y1.1 1 : Int32) = nI (n + i) from hT1.1]
      rw [show ((nI (n + i)) + 1 : Int32) = nI ((n + i) + 1) from nI_add (n + i) 1]
      rw [show ((nI i) + 1 : Int32) = nI (i + 1) from nI_add i 1]
      exact ih post (i + 1) _ (by omega) (tyF_add hT1 (by omega) (by omega) hT) ⟨fun j hj => by show upd Y1.1 1 _ j = _; rw [upd, if_neg (by omega)]; exact hF.1 j hj, fun j hj => by show wd_u Y1.2.1 0 _ j = _; rw [wd_u, if_neg hj]; exact hF.2.1 j hj, hF.2.2⟩ h00 hpo (by omega)
set_option maxHeartbeats 4000000 in
set_option maxRecDepth 100000 in
theorem c_M_feed_in (d : Nat) (C : wd_C) (Y : wd_Y) (og : Nat → Int64) (n : Nat) (b : Nat → Int32) (hT : tpY Y n b) (kk : Nat) (hk1 : 1 ≤ kk) (hk8 : kk ≤ 8) (B : Int64) : am_Mt l D cA ad fm (d + 0) m_M_feed [.ref 19, .int (nI kk), .long B] (wd C Y og) (fun vr w' => vr = some (.int (if n + kk ≤ 1600 then nI (n + kk) else -1)) ∧ ∃ Y', w' = wd C Y' og ∧ Y'.1 0 = 0 ∧ tyO Y Y' ∧ (n + kk ≤ 1600 → tyF Y' (n + kk) (fdB b n kk B)) ∧ (¬ n + kk ≤ 1600 → Y'.1 1 = Y.1 1 ∧ Y'.2.1 0 = Y.2.1 0)) := by
  have hn16 := hT.2.1
  refine am_mt ok_M_feed (by simp [am_arg, Value.category, m_M_feed, am_ml]) ?_
  refine am_eq_r (q' := (0, [some (.ref 19), some (.int (nI kk)), some (.long B), none, none], [], wd C Y og)) rfl ?_
  refine am_steps_r ok_M_feed 4 (q' := (bif decide ((nI kk) < 1) then 12 else 6, [some (.ref 19), some (.int (nI kk)), some (.long B), none, none], [.ref 19], wd C Y og)) rfl ?_
  refine am_br_r (fun h_1 => ?_) (fun h_1 => ?_)
  · skip
    have h_1 : kk < 1 := (nI_ltI (show kk < 2 ^ 31 by omega) (show 1 < 2 ^ 31 by omega)).mp h_1
    exfalso; omega
  · skip
    have h_1 : ¬ kk < 1 := fun z => h_1 ((nI_ltI (show kk < 2 ^ 31 by omega) (show 1 < 2 ^ 31 by omega)).mpr z)
    refine am_steps_r ok_M_feed 3 (q' := (bif decide ((nI kk) ≤ 8) then 16 else 12, [some (.ref 19), some (.int (nI kk)), some (.long B), none, none], [.ref 19], wd C Y og)) rfl ?_
    refine am_br_r (fun h_2 => ?_) (fun h_2 => ?_)
    · skip
      have h_2 : kk ≤ 8 := (nI_leI (show kk < 2 ^ 31 by omega) (show 8 < 2 ^ 31 by omega)).mp h_2
      refine am_steps_r ok_M_feed 11 (q' := (bif decide (((Y.1 1) + (nI kk)) ≤ 1600) then 43 else 41, [some (.ref 19), some (.int (nI kk)), some (.long B), none, none], [], wd C (upd Y.1 0 0, Y.2) og)) rfl ?_
      rw [show (Y.1 1 : Int32) = nI n from hT.1]
      rw [show ((nI n) + (nI kk) : Int32) = nI (n + kk) from nI_add n kk]
      refine am_br_r (fun h_3 => ?_) (fun h_3 => ?_)
      · skip
        have h_3 : (n + kk) ≤ 1600 := (nI_leI (show (n + kk) < 2 ^ 31 by omega) (show 1600 < 2 ^ 31 by omega)).mp h_3
        refine am_steps_r ok_M_feed 2 (q' := (46, [some (.ref 19), some (.int (nI kk)), some (.long B), none, some (.int 0)], [], wd C (upd Y.1 0 0, Y.2) og)) rfl ?_
        refine am_eq_r (q' := (46, [some (.ref 19), some (.int (nI kk)), some (.long B), none, some (.int (nI 0))], [], wd C (upd Y.1 0 0, Y.2) og)) rfl ?_
        refine lp_M_feed_46 _ C Y og n b hT kk hk8 (by omega) B (kk + 1) _ 0 _ (Nat.zero_le _) ⟨hT.1, hT.2.1, fun k hk => by rw [show fdB b n 0 B = b from funext (fun j => by simp only [fdB]; rw [if_neg (by omega)])]; exact hT.2.2.1 k hk⟩ ⟨fun j hj => by show upd Y.1 0 0 j = _; rw [upd, if_neg (by omega)], fun j hj => rfl, rfl⟩ rfl (fun Y2 h2 h3 h4 => ⟨by rw [if_pos (by omega)], Y2, rfl, h4, h3, fun _ => h2, fun z => absurd (show n + kk ≤ 1600 by omega) z⟩) (by omega)
      · skip
        have h_3 : ¬ (n + kk) ≤ 1600 := fun z => h_3 ((nI_leI (show (n + kk) < 2 ^ 31 by omega) (show 1600 < 2 ^ 31 by omega)).mpr z)
        refine am_steps_r ok_M_feed 1 (q' := (42, [some (.ref 19), some (.int (nI kk)), some (.long B), none, none], [.int (-1)], wd C (upd Y.1 0 0, Y.2) og)) rfl ?_
        refine am_iret_r ok_M_feed rfl rfl rfl ?_
        exact ⟨by rw [if_neg (by omega)], _, rfl, rfl, ⟨fun j hj => by show upd Y.1 0 0 j = _; rw [upd, if_neg (by omega)], fun j hj => rfl, rfl⟩, fun z => absurd z (by omega), fun _ => ⟨by first | rfl | exact hT.1, rfl⟩⟩
    · skip
      have h_2 : ¬ kk ≤ 8 := fun z => h_2 ((nI_leI (show kk < 2 ^ 31 by omega) (show 8 < 2 ^ 31 by omega)).mpr z)
      exfalso; omega
end C109
