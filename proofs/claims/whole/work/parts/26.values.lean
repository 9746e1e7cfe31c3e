/-! the component's rows of values: small methods; printed by wip/gen/g26.py -/
/-- how many values and bytes -/
def vsz (C : wd_C) (nv u : Nat) : Prop := C.1 1 = nI nv ∧ nv ≤ 300 ∧ C.1 2 = nI u ∧ u ≤ 2000
/-- a new value -/
def vAdd (C : wd_C) (nv u : Nat) : wd_C := (upd C.1 1 (nI (nv + 1)), fun j => if j = 1 then upd (C.2.1 1) nv 0 else if j = 2 then upd (C.2.1 2) nv (nI u) else if j = 3 then upd (C.2.1 3) nv 0 else if j = 4 then upd (C.2.1 4) nv 0 else if j = 5 then upd (C.2.1 5) nv (-1) else if j = 6 then upd (C.2.1 6) nv (-1) else if j = 7 then upd (C.2.1 7) nv (-1) else if j = 8 then upd (C.2.1 8) nv (-1) else C.2.1 j, vp_updL C.2.2 nv 0)
/-- a value's kind and number -/
def vKind (C : wd_C) (v : Nat) (k : Int32) (x : Int64) : wd_C := (C.1, wd_u C.2.1 1 (upd (C.2.1 1) v k), vp_updL C.2.2 v x)
/-- one byte more -/
def vByte (C : wd_C) (v u : Nat) (x : Int32) : wd_C := (upd C.1 2 (nI (u + 1)), fun j => if j = 9 then upd (C.2.1 9) u (vp_nar .byte x.toInt8.toInt32) else if j = 3 then upd (C.2.1 3) v (C.2.1 3 v + 1) else C.2.1 j, C.2.2)
/-- one more in a chain that ends with last -/
def vChain (C : wd_C) (v p : Nat) (last : Option Nat) : wd_C := match last with
  | none => (C.1, fun j => if j = 5 then upd (C.2.1 5) v (nI p) else if j = 6 then upd (C.2.1 6) v (nI p) else C.2.1 j, C.2.2)
  | some q => (C.1, fun j => if j = 7 then upd (C.2.1 7) q (nI p) else if j = 6 then upd (C.2.1 6) v (nI p) else C.2.1 j, C.2.2)
section C26
variable {l : Launch} {D : va_G} {cA : Nat → ClassId} {ad : Nat → Nat} {fm : Value}
set_option maxHeartbeats 4000000 in
set_option maxRecDepth 100000 in
theorem c_V_size (d : Nat) (C : wd_C) (Y : wd_Y) (og : Nat → Int64) (nv u : Nat) (hV : vsz C nv u)  : am_Mt l D cA ad fm (d + 0) m_V_size [.ref 3] (wd C Y og) (fun vr w' => vr = some (.int (nI nv)) ∧ w' = wd C Y og) := by
  refine am_mt ok_V_size (by simp [am_arg, Value.category, m_V_size, am_ml]) ?_
  refine am_eq_r (q' := (0, [some (.ref 3)], [], wd C Y og)) rfl ?_
  refine am_steps_r ok_V_size 2 (q' := (4, [some (.ref 3)], [.int (C.1 1)], wd C Y og)) rfl ?_
  rw [show (C.1 1 : Int32) = nI nv from hV.1]
  refine am_iret_r ok_V_size rfl rfl rfl ?_
  first | (exfalso; omega) | exact ⟨rfl, rfl⟩
set_option maxHeartbeats 4000000 in
set_option maxRecDepth 100000 in
theorem c_V_byteSize (d : Nat) (C : wd_C) (Y : wd_Y) (og : Nat → Int64) (nv u : Nat) (hV : vsz C nv u)  : am_Mt l D cA ad fm (d + 0) m_V_byteSize [.ref 3] (wd C Y og) (fun vr w' => vr = some (.int (nI u)) ∧ w' = wd C Y og) := by
  refine am_mt ok_V_byteSize (by simp [am_arg, Value.category, m_V_byteSize, am_ml]) ?_
  refine am_eq_r (q' := (0, [some (.ref 3)], [], wd C Y og)) rfl ?_
  refine am_steps_r ok_V_byteSize 2 (q' := (4, [some (.ref 3)], [.int (C.1 2)], wd C Y og)) rfl ?_
  rw [show (C.1 2 : Int32) = nI u from hV.2.2.1]
  refine am_iret_r ok_V_byteSize rfl rfl rfl ?_
  first | (exfalso; omega) | exact ⟨rfl, rfl⟩
set_option maxHeartbeats 4000000 in
set_option maxRecDepth 100000 in
theorem c_V_has_x (d : Nat) (C : wd_C) (Y : wd_Y) (og : Nat → Int64) (nv u : Nat) (hV : vsz C nv u) (x : Int32) : am_Mt l D cA ad fm (d + 0) m_V_has [.ref 3, .int x] (wd C Y og) (fun vr w' => vr = some (.int (bz (decide (0 ≤ x) && decide (x < nI nv)))) ∧ w' = wd C Y og) := by
  refine am_mt ok_V_has (by simp [am_arg, Value.category, m_V_has, am_ml]) ?_
  refine am_eq_r (q' := (0, [some (.ref 3), some (.int x)], [], wd C Y og)) rfl ?_
  refine am_steps_r ok_V_has 2 (q' := (bif decide (x < 0) then 16 else 4, [some (.ref 3), some (.int x)], [], wd C Y og)) rfl ?_
  refine am_br_r (fun h_1 => ?_) (fun h_1 => ?_)
  · skip
    refine am_steps_r ok_V_has 1 (q' := (17, [some (.ref 3), some (.int x)], [.int 0], wd C Y og)) rfl ?_
    refine am_zret_r ok_V_has rfl rfl rfl rfl ?_
    refine ⟨?_, rfl⟩
    simp_all [bz, ← Int32.not_lt]
  · skip
    refine am_steps_r ok_V_has 4 (q' := (bif decide ((C.1 1) ≤ x) then 16 else 12, [some (.ref 3), some (.int x)], [], wd C Y og)) rfl ?_
    rw [show (C.1 1 : Int32) = nI nv from hV.1]
    refine am_br_r (fun h_2 => ?_) (fun h_2 => ?_)
    · skip
      refine am_steps_r ok_V_has 1 (q' := (17, [some (.ref 3), some (.int x)], [.int 0], wd C Y og)) rfl ?_
      refine am_zret_r ok_V_has rfl rfl rfl rfl ?_
      refine ⟨?_, rfl⟩
      simp_all [bz, ← Int32.not_lt]
    · skip
      refine am_steps_r ok_V_has 2 (q' := (17, [some (.ref 3), some (.int x)], [.int 1], wd C Y og)) rfl ?_
      refine am_zret_r ok_V_has rfl rfl rfl rfl ?_
      refine ⟨?_, rfl⟩
      simp_all [bz, ← Int32.not_lt]
set_option maxHeartbeats 4000000 in
set_option maxRecDepth 100000 in
theorem c_V_has_in (d : Nat) (C : wd_C) (Y : wd_Y) (og : Nat → Int64) (nv u : Nat) (hV : vsz C nv u) (v : Nat) (hv : v < nv) : am_Mt l D cA ad fm (d + 0) m_V_has [.ref 3, .int (nI v)] (wd C Y og) (fun vr w' => vr = some (.int 1) ∧ w' = wd C Y og) := by
  have hv1 := hV.2.1
  have hv2 := hV.2.2.2
  refine am_mt ok_V_has (by simp [am_arg, Value.category, m_V_has, am_ml]) ?_
  refine am_eq_r (q' := (0, [some (.ref 3), some (.int (nI v))], [], wd C Y og)) rfl ?_
  refine am_steps_r ok_V_has 2 (q' := (bif decide ((nI v) < 0) then 16 else 4, [some (.ref 3), some (.int (nI v))], [], wd C Y og)) rfl ?_
  refine am_br_r (fun h_1 => ?_) (fun h_1 => ?_)
  · skip
    have h_1 : v < 0 := (nI_ltI (show v < 2 ^ 31 by omega) (show 0 < 2 ^ 31 by omega)).mp h_1
    refine am_steps_r ok_V_has 1 (q' := (17, [some (.ref 3), some (.int (nI v))], [.int 0], wd C Y og)) rfl ?_
    refine am_zret_r ok_V_has rfl rfl rfl rfl ?_
    first | (exfalso; omega) | exact ⟨rfl, rfl⟩
  · skip
    have h_1 : ¬ v < 0 := fun z => h_1 ((nI_ltI (show v < 2 ^ 31 by omega) (show 0 < 2 ^ 31 by omega)).mpr z)
    refine am_steps_r ok_V_has 4 (q' := (bif decide ((C.1 1) ≤ (nI v)) then 16 else 12, [some (.ref 3), some (.int (nI v))], [], wd C Y og)) rfl ?_
    rw [show (C.1 1 : Int32) = nI nv from hV.1]
    refine am_br_r (fun h_2 => ?_) (fun h_2 => ?_)
    · skip
      have h_2 : nv ≤ v := (nI_leI (show nv < 2 ^ 31 by omega) (show v < 2 ^ 31 by omega)).mp h_2
      refine am_steps_r ok_V_has 1 (q' := (17, [some (.ref 3), some (.int (nI v))], [.int 0], wd C Y og)) rfl ?_
      refine am_zret_r ok_V_has rfl rfl rfl rfl ?_
      first | (exfalso; omega) | exact ⟨rfl, rfl⟩
    · skip
      have h_2 : ¬ nv ≤ v := fun z => h_2 ((nI_leI (show nv < 2 ^ 31 by omega) (show v < 2 ^ 31 by omega)).mpr z)
      refine am_steps_r ok_V_has 2 (q' := (17, [some (.ref 3), some (.int (nI v))], [.int 1], wd C Y og)) rfl ?_
      refine am_zret_r ok_V_has rfl rfl rfl rfl ?_
      first | (exfalso; omega) | exact ⟨rfl, rfl⟩
set_option maxHeartbeats 4000000 in
set_option maxRecDepth 100000 in
theorem c_V_has_m (d : Nat) (C : wd_C) (Y : wd_Y) (og : Nat → Int64) (nv u : Nat) (hV : vsz C nv u)  : am_Mt l D cA ad fm (d + 0) m_V_has [.ref 3, .int (-1)] (wd C Y og) (fun vr w' => vr = some (.int 0) ∧ w' = wd C Y og) := by
  refine am_mt ok_V_has (by simp [am_arg, Value.category, m_V_has, am_ml]) ?_
  refine am_eq_r (q' := (0, [some (.ref 3), some (.int (-1))], [], wd C Y og)) rfl ?_
  refine am_steps_r ok_V_has 3 (q' := (17, [some (.ref 3), some (.int (-1))], [.int 0], wd C Y og)) rfl ?_
  refine am_zret_r ok_V_has rfl rfl rfl rfl ?_
  first | (exfalso; omega) | exact ⟨rfl, rfl⟩
set_option maxHeartbeats 4000000 in
set_option maxRecDepth 100000 in
theorem c_V_add_in (d : Nat) (C : wd_C) (Y : wd_Y) (og : Nat → Int64) (nv u : Nat) (hV : vsz C nv u) (h3 : nv < 300) : am_Mt l D cA ad fm (d + 0) m_V_add [.ref 3] (wd C Y og) (fun vr w' => vr = some (.int (nI nv)) ∧ w' = wd (vAdd C nv u) Y og) := by
  have hv1 := hV.2.1
  have hv2 := hV.2.2.2
  refine am_mt ok_V_add (by simp [am_arg, Value.category, m_V_add, am_ml]) ?_
  refine am_eq_r (q' := (0, [some (.ref 3), none], [], wd C Y og)) rfl ?_
  refine am_steps_r ok_V_add 4 (q' := (bif decide ((C.1 1) < 300) then 12 else 10, [some (.ref 3), none], [], wd C Y og)) rfl ?_
  rw [show (C.1 1 : Int32) = nI nv from hV.1]
  refine am_br_r (fun h_1 => ?_) (fun h_1 => ?_)
  · skip
    have h_1 : nv < 300 := (nI_ltI (show nv < 2 ^ 31 by omega) (show 300 < 2 ^ 31 by omega)).mp h_1
    refine am_steps_r ok_V_add 13 (q' := (33, [some (.ref 3), some (.int (C.1 1))], [.int 0, .int (C.1 1), .ref 4], wd (upd C.1 1 ((C.1 1) + 1), C.2) Y og)) rfl ?_
    rw [show (C.1 1 : Int32) = nI nv from hV.1]
    rw [show ((nI nv) + 1 : Int32) = nI (nv + 1) from nI_add nv 1]
    refine am_iast_r ok_V_add rfl (w := wd (upd C.1 1 (nI (nv + 1)), C.2) Y og) (f := C.2.1 1) rfl rfl (pk_in nv 300 (by omega)) ?_
    rw [nI_clamp (show nv < 2 ^ 31 by omega)]
    refine am_eq_r (q' := (34, [some (.ref 3), some (.int (nI nv))], [], wd (upd C.1 1 (nI (nv + 1)), wd_u C.2.1 1 (upd (C.2.1 1) nv 0), C.2.2) Y og)) rfl ?_
    refine am_steps_r ok_V_add 4 (q' := (40, [some (.ref 3), some (.int (nI nv))], [.long 0, .int (nI nv), .ref 5], wd (upd C.1 1 (nI (nv + 1)), wd_u C.2.1 1 (upd (C.2.1 1) nv 0), C.2.2) Y og)) rfl ?_
    refine am_last_r ok_V_add rfl (w := wd (upd C.1 1 (nI (nv + 1)), wd_u C.2.1 1 (upd (C.2.1 1) nv 0), C.2.2) Y og) (f := C.2.2) rfl rfl (pk_in nv 300 (by omega)) ?_
    rw [nI_clamp (show nv < 2 ^ 31 by omega)]
    refine am_eq_r (q' := (41, [some (.ref 3), some (.int (nI nv))], [], wd (upd C.1 1 (nI (nv + 1)), wd_u C.2.1 1 (upd (C.2.1 1) nv 0), (vp_updL C.2.2 nv 0)) Y og)) rfl ?_
    refine am_steps_r ok_V_add 5 (q' := (50, [some (.ref 3), some (.int (nI nv))], [.int (C.1 2), .int (nI nv), .ref 6], wd (upd C.1 1 (nI (nv + 1)), wd_u C.2.1 1 (upd (C.2.1 1) nv 0), (vp_updL C.2.2 nv 0)) Y og)) rfl ?_
    rw [show (C.1 2 : Int32) = nI u from hV.2.2.1]
    refine am_iast_r ok_V_add rfl (w := wd (upd C.1 1 (nI (nv + 1)), wd_u C.2.1 1 (upd (C.2.1 1) nv 0), (vp_updL C.2.2 nv 0)) Y og) (f := C.2.1 2) rfl rfl (pk_in nv 300 (by omega)) ?_
    rw [nI_clamp (show nv < 2 ^ 31 by omega)]
    refine am_eq_r (q' := (51, [some (.ref 3), some (.int (nI nv))], [], wd (upd C.1 1 (nI (nv + 1)), wd_u (wd_u C.2.1 1 (upd (C.2.1 1) nv 0)) 2 (upd (C.2.1 2) nv (nI u)), (vp_updL C.2.2 nv 0)) Y og)) rfl ?_
    refine am_steps_r ok_V_add 4 (q' := (57, [some (.ref 3), some (.int (nI nv))], [.int 0, .int (nI nv), .ref 7], wd (upd C.1 1 (nI (nv + 1)), wd_u (wd_u C.2.1 1 (upd (C.2.1 1) nv 0)) 2 (upd (C.2.1 2) nv (nI u)), (vp_updL C.2.2 nv 0)) Y og)) rfl ?_
    refine am_iast_r ok_V_add rfl (w := wd (upd C.1 1 (nI (nv + 1)), wd_u (wd_u C.2.1 1 (upd (C.2.1 1) nv 0)) 2 (upd (C.2.1 2) nv (nI u)), (vp_updL C.2.2 nv 0)) Y og) (f := C.2.1 3) rfl rfl (pk_in nv 300 (by omega)) ?_
    rw [nI_clamp (show nv < 2 ^ 31 by omega)]
    refine am_eq_r (q' := (58, [some (.ref 3), some (.int (nI nv))], [], wd (upd C.1 1 (nI (nv + 1)), wd_u (wd_u (wd_u C.2.1 1 (upd (C.2.1 1) nv 0)) 2 (upd (C.2.1 2) nv (nI u))) 3 (upd (C.2.1 3) nv 0), (vp_updL C.2.2 nv 0)) Y og)) rfl ?_
    refine am_steps_r ok_V_add 4 (q' := (64, [some (.ref 3), some (.int (nI nv))], [.int 0, .int (nI nv), .ref 8], wd (upd C.1 1 (nI (nv + 1)), wd_u (wd_u (wd_u C.2.1 1 (upd (C.2.1 1) nv 0)) 2 (upd (C.2.1 2) nv (nI u))) 3 (upd (C.2.1 3) nv 0), (vp_updL C.2.2 nv 0)) Y og)) rfl ?_
    refine am_iast_r ok_V_add rfl (w := wd (upd C.1 1 (nI (nv + 1)), wd_u (wd_u (wd_u C.2.1 1 (upd (C.2.1 1) nv 0)) 2 (upd (C.2.1 2) nv (nI u))) 3 (upd (C.2.1 3) nv 0), (vp_updL C.2.2 nv 0)) Y og) (f := C.2.1 4) rfl rfl (pk_in nv 300 (by omega)) ?_
    rw [nI_clamp (show nv < 2 ^ 31 by omega)]
    refine am_eq_r (q' := (65, [some (.ref 3), some (.int (nI nv))], [], wd (upd C.1 1 (nI (nv + 1)), wd_u (wd_u (wd_u (wd_u C.2.1 1 (upd (C.2.1 1) nv 0)) 2 (upd (C.2.1 2) nv (nI u))) 3 (upd (C.2.1 3) nv 0)) 4 (upd (C.2.1 4) nv 0), (vp_updL C.2.2 nv 0)) Y og)) rfl ?_
    refine am_steps_r ok_V_add 4 (q' := (71, [some (.ref 3), some (.int (nI nv))], [.int (-1), .int (nI nv), .ref 9], wd (upd C.1 1 (nI (nv + 1)), wd_u (wd_u (wd_u (wd_u C.2.1 1 (upd (C.2.1 1) nv 0)) 2 (upd (C.2.1 2) nv (nI u))) 3 (upd (C.2.1 3) nv 0)) 4 (upd (C.2.1 4) nv 0), (vp_updL C.2.2 nv 0)) Y og)) rfl ?_
    refine am_iast_r ok_V_add rfl (w := wd (upd C.1 1 (nI (nv + 1)), wd_u (wd_u (wd_u (wd_u C.2.1 1 (upd (C.2.1 1) nv 0)) 2 (upd (C.2.1 2) nv (nI u))) 3 (upd (C.2.1 3) nv 0)) 4 (upd (C.2.1 4) nv 0), (vp_updL C.2.2 nv 0)) Y og) (f := C.2.1 5) rfl rfl (pk_in nv 300 (by omega)) ?_
    rw [nI_clamp (show nv < 2 ^ 31 by omega)]
    refine am_eq_r (q' := (72, [some (.ref 3), some (.int (nI nv))], [], wd (upd C.1 1 (nI (nv + 1)), wd_u (wd_u (wd_u (wd_u (wd_u C.2.1 1 (upd (C.2.1 1) nv 0)) 2 (upd (C.2.1 2) nv (nI u))) 3 (upd (C.2.1 3) nv 0)) 4 (upd (C.2.1 4) nv 0)) 5 (upd (C.2.1 5) nv (-1)), (vp_updL C.2.2 nv 0)) Y og)) rfl ?_
    refine am_steps_r ok_V_add 4 (q' := (78, [some (.ref 3), some (.int (nI nv))], [.int (-1), .int (nI nv), .ref 10], wd (upd C.1 1 (nI (nv + 1)), wd_u (wd_u (wd_u (wd_u (wd_u C.2.1 1 (upd (C.2.1 1) nv 0)) 2 (upd (C.2.1 2) nv (nI u))) 3 (upd (C.2.1 3) nv 0)) 4 (upd (C.2.1 4) nv 0)) 5 (upd (C.2.1 5) nv (-1)), (vp_updL C.2.2 nv 0)) Y og)) rfl ?_
    refine am_iast_r ok_V_add rfl (w := wd (upd C.1 1 (nI (nv + 1)), wd_u (wd_u (wd_u (wd_u (wd_u C.2.1 1 (upd (C.2.1 1) nv 0)) 2 (upd (C.2.1 2) nv (nI u))) 3 (upd (C.2.1 3) nv 0)) 4 (upd (C.2.1 4) nv 0)) 5 (upd (C.2.1 5) nv (-1)), (vp_updL C.2.2 nv 0)) Y og) (f := C.2.1 6) rfl rfl (pk_in nv 300 (by omega)) ?_
    rw [nI_clamp (show nv < 2 ^ 31 by omega)]
    refine am_eq_r (q' := (79, [some (.ref 3), some (.int (nI nv))], [], wd (upd C.1 1 (nI (nv + 1)), wd_u (wd_u (wd_u (wd_u (wd_u (wd_u C.2.1 1 (upd (C.2.1 1) nv 0)) 2 (upd (C.2.1 2) nv (nI u))) 3 (upd (C.2.1 3) nv 0)) 4 (upd (C.2.1 4) nv 0)) 5 (upd (C.2.1 5) nv (-1))) 6 (upd (C.2.1 6) nv (-1)), (vp_updL C.2.2 nv 0)) Y og)) rfl ?_
    refine am_steps_r ok_V_add 4 (q' := (85, [some (.ref 3), some (.int (nI nv))], [.int (-1), .int (nI nv), .ref 11], wd (upd C.1 1 (nI (nv + 1)), wd_u (wd_u (wd_u (wd_u (wd_u (wd_u C.2.1 1 (upd (C.2.1 1) nv 0)) 2 (upd (C.2.1 2) nv (nI u))) 3 (upd (C.2.1 3) nv 0)) 4 (upd (C.2.1 4) nv 0)) 5 (upd (C.2.1 5) nv (-1))) 6 (upd (C.2.1 6) nv (-1)), (vp_updL C.2.2 nv 0)) Y og)) rfl ?_
    refine am_iast_r ok_V_add rfl (w := wd (upd C.1 1 (nI (nv + 1)), wd_u (wd_u (wd_u (wd_u (wd_u (wd_u C.2.1 1 (upd (C.2.1 1) nv 0)) 2 (upd (C.2.1 2) nv (nI u))) 3 (upd (C.2.1 3) nv 0)) 4 (upd (C.2.1 4) nv 0)) 5 (upd (C.2.1 5) nv (-1))) 6 (upd (C.2.1 6) nv (-1)), (vp_updL C.2.2 nv 0)) Y og) (f := C.2.1 7) rfl rfl (pk_in nv 300 (by omega)) ?_
    rw [nI_clamp (show nv < 2 ^ 31 by omega)]
    refine am_eq_r (q' := (86, [some (.ref 3), some (.int (nI nv))], [], wd (upd C.1 1 (nI (nv + 1)), wd_u (wd_u (wd_u (wd_u (wd_u (wd_u (wd_u C.2.1 1 (upd (C.2.1 1) nv 0)) 2 (upd (C.2.1 2) nv (nI u))) 3 (upd (C.2.1 3) nv 0)) 4 (upd (C.2.1 4) nv 0)) 5 (upd (C.2.1 5) nv (-1))) 6 (upd (C.2.1 6) nv (-1))) 7 (upd (C.2.1 7) nv (-1)), (vp_updL C.2.2 nv 0)) Y og)) rfl ?_
    refine am_steps_r ok_V_add 4 (q' := (92, [some (.ref 3), some (.int (nI nv))], [.int (-1), .int (nI nv), .ref 12], wd (upd C.1 1 (nI (nv + 1)), wd_u (wd_u (wd_u (wd_u (wd_u (wd_u (wd_u C.2.1 1 (upd (C.2.1 1) nv 0)) 2 (upd (C.2.1 2) nv (nI u))) 3 (upd (C.2.1 3) nv 0)) 4 (upd (C.2.1 4) nv 0)) 5 (upd (C.2.1 5) nv (-1))) 6 (upd (C.2.1 6) nv (-1))) 7 (upd (C.2.1 7) nv (-1)), (vp_updL C.2.2 nv 0)) Y og)) rfl ?_
    refine am_iast_r ok_V_add rfl (w := wd (upd C.1 1 (nI (nv + 1)), wd_u (wd_u (wd_u (wd_u (wd_u (wd_u (wd_u C.2.1 1 (upd (C.2.1 1) nv 0)) 2 (upd (C.2.1 2) nv (nI u))) 3 (upd (C.2.1 3) nv 0)) 4 (upd (C.2.1 4) nv 0)) 5 (upd (C.2.1 5) nv (-1))) 6 (upd (C.2.1 6) nv (-1))) 7 (upd (C.2.1 7) nv (-1)), (vp_updL C.2.2 nv 0)) Y og) (f := C.2.1 8) rfl rfl (pk_in nv 300 (by omega)) ?_
    rw [nI_clamp (show nv < 2 ^ 31 by omega)]
    refine am_eq_r (q' := (93, [some (.ref 3), some (.int (nI nv))], [], wd (upd C.1 1 (nI (nv + 1)), wd_u (wd_u (wd_u (wd_u (wd_u (wd_u (wd_u (wd_u C.2.1 1 (upd (C.2.1 1) nv 0)) 2 (upd (C.2.1 2) nv (nI u))) 3 (upd (C.2.1 3) nv 0)) 4 (upd (C.2.1 4) nv 0)) 5 (upd (C.2.1 5) nv (-1))) 6 (upd (C.2.1 6) nv (-1))) 7 (upd (C.2.1 7) nv (-1))) 8 (upd (C.2.1 8) nv (-1)), (vp_updL C.2.2 nv 0)) Y og)) rfl ?_
    refine am_steps_r ok_V_add 1 (q' := (94, [some (.ref 3), some (.int (nI nv))], [.int (nI nv)], wd (upd C.1 1 (nI (nv + 1)), wd_u (wd_u (wd_u (wd_u (wd_u (wd_u (wd_u (wd_u C.2.1 1 (upd (C.2.1 1) nv 0)) 2 (upd (C.2.1 2) nv (nI u))) 3 (upd (C.2.1 3) nv 0)) 4 (upd (C.2.1 4) nv 0)) 5 (upd (C.2.1 5) nv (-1))) 6 (upd (C.2.1 6) nv (-1))) 7 (upd (C.2.1 7) nv (-1))) 8 (upd (C.2.1 8) nv (-1)), (vp_updL C.2.2 nv 0)) Y og)) rfl ?_
    refine am_iret_r ok_V_add rfl rfl rfl ?_
    first | (exfalso; omega) | exact ⟨rfl, rfl⟩
  · skip
    have h_1 : ¬ nv < 300 := fun z => h_1 ((nI_ltI (show nv < 2 ^ 31 by omega) (show 300 < 2 ^ 31 by omega)).mpr z)
    refine am_steps_r ok_V_add 1 (q' := (11, [some (.ref 3), none], [.int (-1)], wd C Y og)) rfl ?_
    refine am_iret_r ok_V_add rfl rfl rfl ?_
    first | (exfalso; omega) | exact ⟨rfl, rfl⟩
set_option maxHeartbeats 4000000 in
set_option maxRecDepth 100000 in
theorem c_V_add_full (d : Nat) (C : wd_C) (Y : wd_Y) (og : Nat → Int64) (nv u : Nat) (hV : vsz C nv u) (h3 : nv = 300) : am_Mt l D cA ad fm (d + 0) m_V_add [.ref 3] (wd C Y og) (fun vr w' => vr = some (.int (-1)) ∧ w' = wd C Y og) := by
  have hv1 := hV.2.1
  have hv2 := hV.2.2.2
  refine am_mt ok_V_add (by simp [am_arg, Value.category, m_V_add, am_ml]) ?_
  refine am_eq_r (q' := (0, [some (.ref 3), none], [], wd C Y og)) rfl ?_
  refine am_steps_r ok_V_add 4 (q' := (bif decide ((C.1 1) < 300) then 12 else 10, [some (.ref 3), none], [], wd C Y og)) rfl ?_
  rw [show (C.1 1 : Int32) = nI nv from hV.1]
  refine am_br_r (fun h_1 => ?_) (fun h_1 => ?_)
  · skip
    have h_1 : nv < 300 := (nI_ltI (show nv < 2 ^ 31 by omega) (show 300 < 2 ^ 31 by omega)).mp h_1
    refine am_steps_r ok_V_add 13 (q' := (33, [some (.ref 3), some (.int (C.1 1))], [.int 0, .int (C.1 1), .ref 4], wd (upd C.1 1 ((C.1 1) + 1), C.2) Y og)) rfl ?_
    rw [show (C.1 1 : Int32) = nI nv from hV.1]
    rw [show ((nI nv) + 1 : Int32) = nI (nv + 1) from nI_add nv 1]
    refine am_iast_r ok_V_add rfl (w := wd (upd C.1 1 (nI (nv + 1)), C.2) Y og) (f := C.2.1 1) rfl rfl (pk_in nv 300 (by omega)) ?_
    rw [nI_clamp (show nv < 2 ^ 31 by omega)]
    refine am_eq_r (q' := (34, [some (.ref 3), some (.int (nI nv))], [], wd (upd C.1 1 (nI (nv + 1)), wd_u C.2.1 1 (upd (C.2.1 1) nv 0), C.2.2) Y og)) rfl ?_
    refine am_steps_r ok_V_add 4 (q' := (40, [some (.ref 3), some (.int (nI nv))], [.long 0, .int (nI nv), .ref 5], wd (upd C.1 1 (nI (nv + 1)), wd_u C.2.1 1 (upd (C.2.1 1) nv 0), C.2.2) Y og)) rfl ?_
    refine am_last_r ok_V_add rfl (w := wd (upd C.1 1 (nI (nv + 1)), wd_u C.2.1 1 (upd (C.2.1 1) nv 0), C.2.2) Y og) (f := C.2.2) rfl rfl (pk_in nv 300 (by omega)) ?_
    rw [nI_clamp (show nv < 2 ^ 31 by omega)]
    refine am_eq_r (q' := (41, [some (.ref 3), some (.int (nI nv))], [], wd (upd C.1 1 (nI (nv + 1)), wd_u C.2.1 1 (upd (C.2.1 1) nv 0), (vp_updL C.2.2 nv 0)) Y og)) rfl ?_
    refine am_steps_r ok_V_add 5 (q' := (50, [some (.ref 3), some (.int (nI nv))], [.int (C.1 2), .int (nI nv), .ref 6], wd (upd C.1 1 (nI (nv + 1)), wd_u C.2.1 1 (upd (C.2.1 1) nv 0), (vp_updL C.2.2 nv 0)) Y og)) rfl ?_
    rw [show (C.1 2 : Int32) = nI u from hV.2.2.1]
    refine am_iast_r ok_V_add rfl (w := wd (upd C.1 1 (nI (nv + 1)), wd_u C.2.1 1 (upd (C.2.1 1) nv 0), (vp_updL C.2.2 nv 0)) Y og) (f := C.2.1 2) rfl rfl (pk_in nv 300 (by omega)) ?_
    rw [nI_clamp (show nv < 2 ^ 31 by omega)]
    refine am_eq_r (q' := (51, [some (.ref 3), some (.int (nI nv))], [], wd (upd C.1 1 (nI (nv + 1)), wd_u (wd_u C.2.1 1 (upd (C.2.1 1) nv 0)) 2 (upd (C.2.1 2) nv (nI u)), (vp_updL C.2.2 nv 0)) Y og)) rfl ?_
    refine am_steps_r ok_V_add 4 (q' := (57, [some (.ref 3), some (.int (nI nv))], [.int 0, .int (nI nv), .ref 7], wd (upd C.1 1 (nI (nv + 1)), wd_u (wd_u C.2.1 1 (upd (C.2.1 1) nv 0)) 2 (upd (C.2.1 2) nv (nI u)), (vp_updL C.2.2 nv 0)) Y og)) rfl ?_
    refine am_iast_r ok_V_add rfl (w := wd (upd C.1 1 (nI (nv + 1)), wd_u (wd_u C.2.1 1 (upd (C.2.1 1) nv 0)) 2 (upd (C.2.1 2) nv (nI u)), (vp_updL C.2.2 nv 0)) Y og) (f := C.2.1 3) rfl rfl (pk_in nv 300 (by omega)) ?_
    rw [nI_clamp (show nv < 2 ^ 31 by omega)]
    refine am_eq_r (q' := (58, [some (.ref 3), some (.int (nI nv))], [], wd (upd C.1 1 (nI (nv + 1)), wd_u (wd_u (wd_u C.2.1 1 (upd (C.2.1 1) nv 0)) 2 (upd (C.2.1 2) nv (nI u))) 3 (upd (C.2.1 3) nv 0), (vp_updL C.2.2 nv 0)) Y og)) rfl ?_
    refine am_steps_r ok_V_add 4 (q' := (64, [some (.ref 3), some (.int (nI nv))], [.int 0, .int (nI nv), .ref 8], wd (upd C.1 1 (nI (nv + 1)), wd_u (wd_u (wd_u C.2.1 1 (upd (C.2.1 1) nv 0)) 2 (upd (C.2.1 2) nv (nI u))) 3 (upd (C.2.1 3) nv 0), (vp_updL C.2.2 nv 0)) Y og)) rfl ?_
    refine am_iast_r ok_V_add rfl (w := wd (upd C.1 1 (nI (nv + 1)), wd_u (wd_u (wd_u C.2.1 1 (upd (C.2.1 1) nv 0)) 2 (upd (C.2.1 2) nv (nI u))) 3 (upd (C.2.1 3) nv 0), (vp_updL C.2.2 nv 0)) Y og) (f := C.2.1 4) rfl rfl (pk_in nv 300 (by omega)) ?_
    rw [nI_clamp (show nv < 2 ^ 31 by omega)]
    refine am_eq_r (q' := (65, [some (.ref 3), some (.int (nI nv))], [], wd (upd C.1 1 (nI (nv + 1)), wd_u (wd_u (wd_u (wd_u C.2.1 1 (upd (C.2.1 1) nv 0)) 2 (upd (C.2.1 2) nv (nI u))) 3 (upd (C.2.1 3) nv 0)) 4 (upd (C.2.1 4) nv 0), (vp_updL C.2.2 nv 0)) Y og)) rfl ?_
    refine am_steps_r ok_V_add 4 (q' := (71, [some (.ref 3), some (.int (nI nv))], [.int (-1), .int (nI nv), .ref 9], wd (upd C.1 1 (nI (nv + 1)), wd_u (wd_u (wd_u (wd_u C.2.1 1 (upd (C.2.1 1) nv 0)) 2 (upd (C.2.1 2) nv (nI u))) 3 (upd (C.2.1 3) nv 0)) 4 (upd (C.2.1 4) nv 0), (vp_updL C.2.2 nv 0)) Y og)) rfl ?_
    refine am_iast_r ok_V_add rfl (w := wd (upd C.1 1 (nI (nv + 1)), wd_u (wd_u (wd_u (wd_u C.2.1 1 (upd (C.2.1 1) nv 0)) 2 (upd (C.2.1 2) nv (nI u))) 3 (upd (C.2.1 3) nv 0)) 4 (upd (C.2.1 4) nv 0), (vp_updL C.2.2 nv 0)) Y og) (f := C.2.1 5) rfl rfl (pk_in nv 300 (by omega)) ?_
    rw [nI_clamp (show nv < 2 ^ 31 by omega)]
    refine am_eq_r (q' := (72, [some (.ref 3), some (.int (nI nv))], [], wd (upd C.1 1 (nI (nv + 1)), wd_u (wd_u (wd_u (wd_u (wd_u C.2.1 1 (upd (C.2.1 1) nv 0)) 2 (upd (C.2.1 2) nv (nI u))) 3 (upd (C.2.1 3) nv 0)) 4 (upd (C.2.1 4) nv 0)) 5 (upd (C.2.1 5) nv (-1)), (vp_updL C.2.2 nv 0)) Y og)) rfl ?_
    refine am_steps_r ok_V_add 4 (q' := (78, [some (.ref 3), some (.int (nI nv))], [.int (-1), .int (nI nv), .ref 10], wd (upd C.1 1 (nI (nv + 1)), wd_u (wd_u (wd_u (wd_u (wd_u C.2.1 1 (upd (C.2.1 1) nv 0)) 2 (upd (C.2.1 2) nv (nI u))) 3 (upd (C.2.1 3) nv 0)) 4 (upd (C.2.1 4) nv 0)) 5 (upd (C.2.1 5) nv (-1)), (vp_updL C.2.2 nv 0)) Y og)) rfl ?_
    refine am_iast_r ok_V_add rfl (w := wd (upd C.1 1 (nI (nv + 1)), wd_u (wd_u (wd_u (wd_u (wd_u C.2.1 1 (upd (C.2.1 1) nv 0)) 2 (upd (C.2.1 2) nv (nI u))) 3 (upd (C.2.1 3) nv 0)) 4 (upd (C.2.1 4) nv 0)) 5 (upd (C.2.1 5) nv (-1)), (vp_updL C.2.2 nv 0)) Y og) (f := C.2.1 6) rfl rfl (pk_in nv 300 (by omega)) ?_
    rw [nI_clamp (show nv < 2 ^ 31 by omega)]
    refine am_eq_r (q' := (79, [some (.ref 3), some (.int (nI nv))], [], wd (upd C.1 1 (nI (nv + 1)), wd_u (wd_u (wd_u (wd_u (wd_u (wd_u C.2.1 1 (upd (C.2.1 1) nv 0)) 2 (upd (C.2.1 2) nv (nI u))) 3 (upd (C.2.1 3) nv 0)) 4 (upd (C.2.1 4) nv 0)) 5 (upd (C.2.1 5) nv (-1))) 6 (upd (C.2.1 6) nv (-1)), (vp_updL C.2.2 nv 0)) Y og)) rfl ?_
    refine am_steps_r ok_V_add 4 (q' := (85, [some (.ref 3), some (.int (nI nv))], [.int (-1), .int (nI nv), .ref 11], wd (upd C.1 1 (nI (nv + 1)), wd_u (wd_u (wd_u (wd_u (wd_u (wd_u C.2.1 1 (upd (C.2.1 1) nv 0)) 2 (upd (C.2.1 2) nv (nI u))) 3 (upd (C.2.1 3) nv 0)) 4 (upd (C.2.1 4) nv 0)) 5 (upd (C.2.1 5) nv (-1))) 6 (upd (C.2.1 6) nv (-1)), (vp_updL C.2.2 nv 0)) Y og)) rfl ?_
    refine am_iast_r ok_V_add rfl (w := wd (upd C.1 1 (nI (nv + 1)), wd_u (wd_u (wd_u (wd_u (wd_u (wd_u C.2.1 1 (upd (C.2.1 1) nv 0)) 2 (upd (C.2.1 2) nv (nI u))) 3 (upd (C.2.1 3) nv 0)) 4 (upd (C.2.1 4) nv 0)) 5 (upd (C.2.1 5) nv (-1))) 6 (upd (C.2.1 6) nv (-1)), (vp_updL C.2.2 nv 0)) Y og) (f := C.2.1 7) rfl rfl (pk_in nv 300 (by omega)) ?_
    rw [nI_clamp (show nv < 2 ^ 31 by omega)]
    refine am_eq_r (q' := (86, [some (.ref 3), some (.int (nI nv))], [], wd (upd C.1 1 (nI (nv + 1)), wd_u (wd_u (wd_u (wd_u (wd_u (wd_u (wd_u C.2.1 1 (upd (C.2.1 1) nv 0)) 2 (upd (C.2.1 2) nv (nI u))) 3 (upd (C.2.1 3) nv 0)) 4 (upd (C.2.1 4) nv 0)) 5 (upd (C.2.1 5) nv (-1))) 6 (upd (C.2.1 6) nv (-1))) 7 (upd (C.2.1 7) nv (-1)), (vp_updL C.2.2 nv 0)) Y og)) rfl ?_
    refine am_steps_r ok_V_add 4 (q' := (92, [some (.ref 3), some (.int (nI nv))], [.int (-1), .int (nI nv), .ref 12], wd (upd C.1 1 (nI (nv + 1)), wd_u (wd_u (wd_u (wd_u (wd_u (wd_u (wd_u C.2.1 1 (upd (C.2.1 1) nv 0)) 2 (upd (C.2.1 2) nv (nI u))) 3 (upd (C.2.1 3) nv 0)) 4 (upd (C.2.1 4) nv 0)) 5 (upd (C.2.1 5) nv (-1))) 6 (upd (C.2.1 6) nv (-1))) 7 (upd (C.2.1 7) nv (-1)), (vp_updL C.2.2 nv 0)) Y og)) rfl ?_
    refine am_iast_r ok_V_add rfl (w := wd (upd C.1 1 (nI (nv + 1)), wd_u (wd_u (wd_u (wd_u (wd_u (wd_u (wd_u C.2.1 1 (upd (C.2.1 1) nv 0)) 2 (upd (C.2.1 2) nv (nI u))) 3 (upd (C.2.1 3) nv 0)) 4 (upd (C.2.1 4) nv 0)) 5 (upd (C.2.1 5) nv (-1))) 6 (upd (C.2.1 6) nv (-1))) 7 (upd (C.2.1 7) nv (-1)), (vp_updL C.2.2 nv 0)) Y og) (f := C.2.1 8) rfl rfl (pk_in nv 300 (by omega)) ?_
    rw [nI_clamp (show nv < 2 ^ 31 by omega)]
    refine am_eq_r (q' := (93, [some (.ref 3), some (.int (nI nv))], [], wd (upd C.1 1 (nI (nv + 1)), wd_u (wd_u (wd_u (wd_u (wd_u (wd_u (wd_u (wd_u C.2.1 1 (upd (C.2.1 1) nv 0)) 2 (upd (C.2.1 2) nv (nI u))) 3 (upd (C.2.1 3) nv 0)) 4 (upd (C.2.1 4) nv 0)) 5 (upd (C.2.1 5) nv (-1))) 6 (upd (C.2.1 6) nv (-1))) 7 (upd (C.2.1 7) nv (-1))) 8 (upd (C.2.1 8) nv (-1)), (vp_updL C.2.2 nv 0)) Y og)) rfl ?_
    refine am_steps_r ok_V_add 1 (q' := (94, [some (.ref 3), some (.int (nI nv))], [.int (nI nv)], wd (upd C.1 1 (nI (nv + 1)), wd_u (wd_u (wd_u (wd_u (wd_u (wd_u (wd_u (wd_u C.2.1 1 (upd (C.2.1 1) nv 0)) 2 (upd (C.2.1 2) nv (nI u))) 3 (upd (C.2.1 3) nv 0)) 4 (upd (C.2.1 4) nv 0)) 5 (upd (C.2.1 5) nv (-1))) 6 (upd (C.2.1 6) nv (-1))) 7 (upd (C.2.1 7) nv (-1))) 8 (upd (C.2.1 8) nv (-1)), (vp_updL C.2.2 nv 0)) Y og)) rfl ?_
    refine am_iret_r ok_V_add rfl rfl rfl ?_
    first | (exfalso; omega) | exact ⟨rfl, rfl⟩
  · skip
    have h_1 : ¬ nv < 300 := fun z => h_1 ((nI_ltI (show nv < 2 ^ 31 by omega) (show 300 < 2 ^ 31 by omega)).mpr z)
    refine am_steps_r ok_V_add 1 (q' := (11, [some (.ref 3), none], [.int (-1)], wd C Y og)) rfl ?_
    refine am_iret_r ok_V_add rfl rfl rfl ?_
    first | (exfalso; omega) | exact ⟨rfl, rfl⟩
set_option maxHeartbeats 4000000 in
set_option maxRecDepth 100000 in
theorem c_V_setKind (d : Nat) (C : wd_C) (Y : wd_Y) (og : Nat → Int64) (nv u : Nat) (hV : vsz C nv u) (v : Nat) (hv : v < nv) (k : Int32) (x : Int64) : am_Mt l D cA ad fm (d + 1) m_V_setKind [.ref 3, .int (nI v), .int k, .long x] (wd C Y og) (fun v_ w' => v_ = none ∧ w' = wd (vKind C v k x) Y og) := by
  have hv1 := hV.2.1
  have hv2 := hV.2.2.2
  refine am_mt ok_V_setKind (by simp [am_arg, Value.category, m_V_setKind, am_ml]) ?_
  refine am_eq_r (q' := (0, [some (.ref 3), some (.int (nI v)), some (.int k), some (.long x), none], [], wd C Y og)) rfl ?_
  refine am_steps_r ok_V_setKind 2 (q' := (2, [some (.ref 3), some (.int (nI v)), some (.int k), some (.long x), none], [.int (nI v), .ref 3], wd C Y og)) rfl ?_
  refine am_callV_r (As := [.int (nI v)]) (rest := []) ok_V_setKind rfl rfl ok_V_has oi_V_has lk_3_60 (Or.inl ⟨_, _, _, rfl, rfl, rfl⟩) rfl rfl (Nat.le_of_ble_eq_true rfl) (c_V_has_in _ C Y og nv u hV v (by omega)) ?_
  rintro v_ w_ ⟨rfl, rfl⟩ -
  refine am_eq_r (q' := (5, [some (.ref 3), some (.int (nI v)), some (.int k), some (.long x), none], [.int 1], wd C Y og)) rfl ?_
  refine am_steps_r ok_V_setKind 5 (q' := (14, [some (.ref 3), some (.int (nI v)), some (.int k), some (.long x), none], [.int k, .int (nI v), .ref 4], wd C Y og)) rfl ?_
  refine am_iast_r ok_V_setKind rfl (w := wd C Y og) (f := C.2.1 1) rfl rfl (pk_in v 300 (by omega)) ?_
  rw [nI_clamp (show v < 2 ^ 31 by omega)]
  refine am_eq_r (q' := (15, [some (.ref 3), some (.int (nI v)), some (.int k), some (.long x), none], [], wd (C.1, wd_u C.2.1 1 (upd (C.2.1 1) v k), C.2.2) Y og)) rfl ?_
  refine am_steps_r ok_V_setKind 4 (q' := (21, [some (.ref 3), some (.int (nI v)), some (.int k), some (.long x), none], [.long x, .int (nI v), .ref 5], wd (C.1, wd_u C.2.1 1 (upd (C.2.1 1) v k), C.2.2) Y og)) rfl ?_
  refine am_last_r ok_V_setKind rfl (w := wd (C.1, wd_u C.2.1 1 (upd (C.2.1 1) v k), C.2.2) Y og) (f := C.2.2) rfl rfl (pk_in v 300 (by omega)) ?_
  rw [nI_clamp (show v < 2 ^ 31 by omega)]
  refine am_eq_r (q' := (22, [some (.ref 3), some (.int (nI v)), some (.int k), some (.long x), none], [], wd (C.1, wd_u C.2.1 1 (upd (C.2.1 1) v k), (vp_updL C.2.2 v x)) Y og)) rfl ?_
  refine am_vret_r ok_V_setKind rfl rfl rfl ?_
  first | (exfalso; omega) | exact ⟨rfl, rfl⟩
set_option maxHeartbeats 4000000 in
set_option maxRecDepth 100000 in
theorem c_V_kindOf_in (d : Nat) (C : wd_C) (Y : wd_Y) (og : Nat → Int64) (nv u : Nat) (hV : vsz C nv u) (v : Nat) (hv : v < nv) : am_Mt l D cA ad fm (d + 1) m_V_kindOf [.ref 3, .int (nI v)] (wd C Y og) (fun vr w' => vr = some (.int (C.2.1 1 v)) ∧ w' = wd C Y og) := by
  have hv1 := hV.2.1
  have hv2 := hV.2.2.2
  refine am_mt ok_V_kindOf (by simp [am_arg, Value.category, m_V_kindOf, am_ml]) ?_
  refine am_eq_r (q' := (0, [some (.ref 3), some (.int (nI v))], [], wd C Y og)) rfl ?_
  refine am_steps_r ok_V_kindOf 2 (q' := (2, [some (.ref 3), some (.int (nI v))], [.int (nI v), .ref 3], wd C Y og)) rfl ?_
  refine am_callV_r (As := [.int (nI v)]) (rest := []) ok_V_kindOf rfl rfl ok_V_has oi_V_has lk_3_60 (Or.inl ⟨_, _, _, rfl, rfl, rfl⟩) rfl rfl (Nat.le_of_ble_eq_true rfl) (c_V_has_in _ C Y og nv u hV v (by omega)) ?_
  rintro v_ w_ ⟨rfl, rfl⟩ -
  refine am_eq_r (q' := (5, [some (.ref 3), some (.int (nI v))], [.int 1], wd C Y og)) rfl ?_
  refine am_steps_r ok_V_kindOf 4 (q' := (13, [some (.ref 3), some (.int (nI v))], [.int (nI v), .ref 4], wd C Y og)) rfl ?_
  refine am_iald_r ok_V_kindOf rfl (w := wd C Y og) (f := C.2.1 1) rfl rfl (pk_in v 300 (by omega)) ?_
  rw [nI_clamp (show v < 2 ^ 31 by omega)]
  refine am_steps_r ok_V_kindOf 1 (q' := (18, [some (.ref 3), some (.int (nI v))], [.int (C.2.1 1 v)], wd C Y og)) rfl ?_
  refine am_iret_r ok_V_kindOf rfl rfl rfl ?_
  first | (exfalso; omega) | exact ⟨rfl, rfl⟩
set_option maxHeartbeats 4000000 in
set_option maxRecDepth 100000 in
theorem c_V_kindOf_m (d : Nat) (C : wd_C) (Y : wd_Y) (og : Nat → Int64) (nv u : Nat) (hV : vsz C nv u)  : am_Mt l D cA ad fm (d + 1) m_V_kindOf [.ref 3, .int (-1)] (wd C Y og) (fun vr w' => vr = some (.int (-1)) ∧ w' = wd C Y og) := by
  refine am_mt ok_V_kindOf (by simp [am_arg, Value.category, m_V_kindOf, am_ml]) ?_
  refine am_eq_r (q' := (0, [some (.ref 3), some (.int (-1))], [], wd C Y og)) rfl ?_
  refine am_steps_r ok_V_kindOf 2 (q' := (2, [some (.ref 3), some (.int (-1))], [.int (-1), .ref 3], wd C Y og)) rfl ?_
  refine am_callV_r (As := [.int (-1)]) (rest := []) ok_V_kindOf rfl rfl ok_V_has oi_V_has lk_3_60 (Or.inl ⟨_, _, _, rfl, rfl, rfl⟩) rfl rfl (Nat.le_of_ble_eq_true rfl) (c_V_has_m _ C Y og nv u hV) ?_
  rintro v_ w_ ⟨rfl, rfl⟩ -
  refine am_eq_r (q' := (5, [some (.ref 3), some (.int (-1))], [.int 0], wd C Y og)) rfl ?_
  refine am_steps_r ok_V_kindOf 2 (q' := (18, [some (.ref 3), some (.int (-1))], [.int (-1)], wd C Y og)) rfl ?_
  refine am_iret_r ok_V_kindOf rfl rfl rfl ?_
  first | (exfalso; omega) | exact ⟨rfl, rfl⟩
set_option maxHeartbeats 4000000 in
set_option maxRecDepth 100000 in
theorem c_V_partsOf_in (d : Nat) (C : wd_C) (Y : wd_Y) (og : Nat → Int64) (nv u : Nat) (hV : vsz C nv u) (v : Nat) (hv : v < nv) : am_Mt l D cA ad fm (d + 1) m_V_partsOf [.ref 3, .int (nI v)] (wd C Y og) (fun vr w' => vr = some (.int (C.2.1 4 v)) ∧ w' = wd C Y og) := by
  have hv1 := hV.2.1
  have hv2 := hV.2.2.2
  refine am_mt ok_V_partsOf (by simp [am_arg, Value.category, m_V_partsOf, am_ml]) ?_
  refine am_eq_r (q' := (0, [some (.ref 3), some (.int (nI v))], [], wd C Y og)) rfl ?_
  refine am_steps_r ok_V_partsOf 2 (q' := (2, [some (.ref 3), some (.int (nI v))], [.int (nI v), .ref 3], wd C Y og)) rfl ?_
  refine am_callV_r (As := [.int (nI v)]) (rest := []) ok_V_partsOf rfl rfl ok_V_has oi_V_has lk_3_60 (Or.inl ⟨_, _, _, rfl, rfl, rfl⟩) rfl rfl (Nat.le_of_ble_eq_true rfl) (c_V_has_in _ C Y og nv u hV v (by omega)) ?_
  rintro v_ w_ ⟨rfl, rfl⟩ -
  refine am_eq_r (q' := (5, [some (.ref 3), some (.int (nI v))], [.int 1], wd C Y og)) rfl ?_
  refine am_steps_r ok_V_partsOf 4 (q' := (13, [some (.ref 3), some (.int (nI v))], [.int (nI v), .ref 8], wd C Y og)) rfl ?_
  refine am_iald_r ok_V_partsOf rfl (w := wd C Y og) (f := C.2.1 4) rfl rfl (pk_in v 300 (by omega)) ?_
  rw [nI_clamp (show v < 2 ^ 31 by omega)]
  refine am_steps_r ok_V_partsOf 1 (q' := (18, [some (.ref 3), some (.int (nI v))], [.int (C.2.1 4 v)], wd C Y og)) rfl ?_
  refine am_iret_r ok_V_partsOf rfl rfl rfl ?_
  first | (exfalso; omega) | exact ⟨rfl, rfl⟩
set_option maxHeartbeats 4000000 in
set_option maxRecDepth 100000 in
theorem c_V_partsOf_m (d : Nat) (C : wd_C) (Y : wd_Y) (og : Nat → Int64) (nv u : Nat) (hV : vsz C nv u)  : am_Mt l D cA ad fm (d + 1) m_V_partsOf [.ref 3, .int (-1)] (wd C Y og) (fun vr w' => vr = some (.int (0)) ∧ w' = wd C Y og) := by
  refine am_mt ok_V_partsOf (by simp [am_arg, Value.category, m_V_partsOf, am_ml]) ?_
  refine am_eq_r (q' := (0, [some (.ref 3), some (.int (-1))], [], wd C Y og)) rfl ?_
  refine am_steps_r ok_V_partsOf 2 (q' := (2, [some (.ref 3), some (.int (-1))], [.int (-1), .ref 3], wd C Y og)) rfl ?_
  refine am_callV_r (As := [.int (-1)]) (rest := []) ok_V_partsOf rfl rfl ok_V_has oi_V_has lk_3_60 (Or.inl ⟨_, _, _, rfl, rfl, rfl⟩) rfl rfl (Nat.le_of_ble_eq_true rfl) (c_V_has_m _ C Y og nv u hV) ?_
  rintro v_ w_ ⟨rfl, rfl⟩ -
  refine am_eq_r (q' := (5, [some (.ref 3), some (.int (-1))], [.int 0], wd C Y og)) rfl ?_
  refine am_steps_r ok_V_partsOf 2 (q' := (18, [some (.ref 3), some (.int (-1))], [.int 0], wd C Y og)) rfl ?_
  refine am_iret_r ok_V_partsOf rfl rfl rfl ?_
  first | (exfalso; omega) | exact ⟨rfl, rfl⟩
set_option maxHeartbeats 4000000 in
set_option maxRecDepth 100000 in
theorem c_V_firstOf_in (d : Nat) (C : wd_C) (Y : wd_Y) (og : Nat → Int64) (nv u : Nat) (hV : vsz C nv u) (v : Nat) (hv : v < nv) : am_Mt l D cA ad fm (d + 1) m_V_firstOf [.ref 3, .int (nI v)] (wd C Y og) (fun vr w' => vr = some (.int (C.2.1 5 v)) ∧ w' = wd C Y og) := by
  have hv1 := hV.2.1
  have hv2 := hV.2.2.2
  refine am_mt ok_V_firstOf (by simp [am_arg, Value.category, m_V_firstOf, am_ml]) ?_
  refine am_eq_r (q' := (0, [some (.ref 3), some (.int (nI v))], [], wd C Y og)) rfl ?_
  refine am_steps_r ok_V_firstOf 2 (q' := (2, [some (.ref 3), some (.int (nI v))], [.int (nI v), .ref 3], wd C Y og)) rfl ?_
  refine am_callV_r (As := [.int (nI v)]) (rest := []) ok_V_firstOf rfl rfl ok_V_has oi_V_has lk_3_60 (Or.inl ⟨_, _, _, rfl, rfl, rfl⟩) rfl rfl (Nat.le_of_ble_eq_true rfl) (c_V_has_in _ C Y og nv u hV v (by omega)) ?_
  rintro v_ w_ ⟨rfl, rfl⟩ -
  refine am_eq_r (q' := (5, [some (.ref 3), some (.int (nI v))], [.int 1], wd C Y og)) rfl ?_
  refine am_steps_r ok_V_firstOf 4 (q' := (13, [some (.ref 3), some (.int (nI v))], [.int (nI v), .ref 9], wd C Y og)) rfl ?_
  refine am_iald_r ok_V_firstOf rfl (w := wd C Y og) (f := C.2.1 5) rfl rfl (pk_in v 300 (by omega)) ?_
  rw [nI_clamp (show v < 2 ^ 31 by omega)]
  refine am_steps_r ok_V_firstOf 1 (q' := (18, [some (.ref 3), some (.int (nI v))], [.int (C.2.1 5 v)], wd C Y og)) rfl ?_
  refine am_iret_r ok_V_firstOf rfl rfl rfl ?_
  first | (exfalso; omega) | exact ⟨rfl, rfl⟩
set_option maxHeartbeats 4000000 in
set_option maxRecDepth 100000 in
theorem c_V_firstOf_m (d : Nat) (C : wd_C) (Y : wd_Y) (og : Nat → Int64) (nv u : Nat) (hV : vsz C nv u)  : am_Mt l D cA ad fm (d + 1) m_V_firstOf [.ref 3, .int (-1)] (wd C Y og) (fun vr w' => vr = some (.int (-1)) ∧ w' = wd C Y og) := by
  refine am_mt ok_V_firstOf (by simp [am_arg, Value.category, m_V_firstOf, am_ml]) ?_
  refine am_eq_r (q' := (0, [some (.ref 3), some (.int (-1))], [], wd C Y og)) rfl ?_
  refine am_steps_r ok_V_firstOf 2 (q' := (2, [some (.ref 3), some (.int (-1))], [.int (-1), .ref 3], wd C Y og)) rfl ?_
  refine am_callV_r (As := [.int (-1)]) (rest := []) ok_V_firstOf rfl rfl ok_V_has oi_V_has lk_3_60 (Or.inl ⟨_, _, _, rfl, rfl, rfl⟩) rfl rfl (Nat.le_of_ble_eq_true rfl) (c_V_has_m _ C Y og nv u hV) ?_
  rintro v_ w_ ⟨rfl, rfl⟩ -
  refine am_eq_r (q' := (5, [some (.ref 3), some (.int (-1))], [.int 0], wd C Y og)) rfl ?_
  refine am_steps_r ok_V_firstOf 2 (q' := (18, [some (.ref 3), some (.int (-1))], [.int (-1)], wd C Y og)) rfl ?_
  refine am_iret_r ok_V_firstOf rfl rfl rfl ?_
  first | (exfalso; omega) | exact ⟨rfl, rfl⟩
set_option maxHeartbeats 4000000 in
set_option maxRecDepth 100000 in
theorem c_V_nextOf_in (d : Nat) (C : wd_C) (Y : wd_Y) (og : Nat → Int64) (nv u : Nat) (hV : vsz C nv u) (v : Nat) (hv : v < nv) : am_Mt l D cA ad fm (d + 1) m_V_nextOf [.ref 3, .int (nI v)] (wd C Y og) (fun vr w' => vr = some (.int (C.2.1 7 v)) ∧ w' = wd C Y og) := by
  have hv1 := hV.2.1
  have hv2 := hV.2.2.2
  refine am_mt ok_V_nextOf (by simp [am_arg, Value.category, m_V_nextOf, am_ml]) ?_
  refine am_eq_r (q' := (0, [some (.ref 3), some (.int (nI v))], [], wd C Y og)) rfl ?_
  refine am_steps_r ok_V_nextOf 2 (q' := (2, [some (.ref 3), some (.int (nI v))], [.int (nI v), .ref 3], wd C Y og)) rfl ?_
  refine am_callV_r (As := [.int (nI v)]) (rest := []) ok_V_nextOf rfl rfl ok_V_has oi_V_has lk_3_60 (Or.inl ⟨_, _, _, rfl, rfl, rfl⟩) rfl rfl (Nat.le_of_ble_eq_true rfl) (c_V_has_in _ C Y og nv u hV v (by omega)) ?_
  rintro v_ w_ ⟨rfl, rfl⟩ -
  refine am_eq_r (q' := (5, [some (.ref 3), some (.int (nI v))], [.int 1], wd C Y og)) rfl ?_
  refine am_steps_r ok_V_nextOf 4 (q' := (13, [some (.ref 3), some (.int (nI v))], [.int (nI v), .ref 11], wd C Y og)) rfl ?_
  refine am_iald_r ok_V_nextOf rfl (w := wd C Y og) (f := C.2.1 7) rfl rfl (pk_in v 300 (by omega)) ?_
  rw [nI_clamp (show v < 2 ^ 31 by omega)]
  refine am_steps_r ok_V_nextOf 1 (q' := (18, [some (.ref 3), some (.int (nI v))], [.int (C.2.1 7 v)], wd C Y og)) rfl ?_
  refine am_iret_r ok_V_nextOf rfl rfl rfl ?_
  first | (exfalso; omega) | exact ⟨rfl, rfl⟩
set_option maxHeartbeats 4000000 in
set_option maxRecDepth 100000 in
theorem c_V_nextOf_m (d : Nat) (C : wd_C) (Y : wd_Y) (og : Nat → Int64) (nv u : Nat) (hV : vsz C nv u)  : am_Mt l D cA ad fm (d + 1) m_V_nextOf [.ref 3, .int (-1)] (wd C Y og) (fun vr w' => vr = some (.int (-1)) ∧ w' = wd C Y og) := by
  refine am_mt ok_V_nextOf (by simp [am_arg, Value.category, m_V_nextOf, am_ml]) ?_
  refine am_eq_r (q' := (0, [some (.ref 3), some (.int (-1))], [], wd C Y og)) rfl ?_
  refine am_steps_r ok_V_nextOf 2 (q' := (2, [some (.ref 3), some (.int (-1))], [.int (-1), .ref 3], wd C Y og)) rfl ?_
  refine am_callV_r (As := [.int (-1)]) (rest := []) ok_V_nextOf rfl rfl ok_V_has oi_V_has lk_3_60 (Or.inl ⟨_, _, _, rfl, rfl, rfl⟩) rfl rfl (Nat.le_of_ble_eq_true rfl) (c_V_has_m _ C Y og nv u hV) ?_
  rintro v_ w_ ⟨rfl, rfl⟩ -
  refine am_eq_r (q' := (5, [some (.ref 3), some (.int (-1))], [.int 0], wd C Y og)) rfl ?_
  refine am_steps_r ok_V_nextOf 2 (q' := (18, [some (.ref 3), some (.int (-1))], [.int (-1)], wd C Y og)) rfl ?_
  refine am_iret_r ok_V_nextOf rfl rfl rfl ?_
  first | (exfalso; omega) | exact ⟨rfl, rfl⟩
set_option maxHeartbeats 4000000 in
set_option maxRecDepth 100000 in
theorem c_V_heldBy_in (d : Nat) (C : wd_C) (Y : wd_Y) (og : Nat → Int64) (nv u : Nat) (hV : vsz C nv u) (v : Nat) (hv : v < nv) : am_Mt l D cA ad fm (d + 1) m_V_heldBy [.ref 3, .int (nI v)] (wd C Y og) (fun vr w' => vr = some (.int (C.2.1 8 v)) ∧ w' = wd C Y og) := by
  have hv1 := hV.2.1
  have hv2 := hV.2.2.2
  refine am_mt ok_V_heldBy (by simp [am_arg, Value.category, m_V_heldBy, am_ml]) ?_
  refine am_eq_r (q' := (0, [some (.ref 3), some (.int (nI v))], [], wd C Y og)) rfl ?_
  refine am_steps_r ok_V_heldBy 2 (q' := (2, [some (.ref 3), some (.int (nI v))], [.int (nI v), .ref 3], wd C Y og)) rfl ?_
  refine am_callV_r (As := [.int (nI v)]) (rest := []) ok_V_heldBy rfl rfl ok_V_has oi_V_has lk_3_60 (Or.inl ⟨_, _, _, rfl, rfl, rfl⟩) rfl rfl (Nat.le_of_ble_eq_true rfl) (c_V_has_in _ C Y og nv u hV v (by omega)) ?_
  rintro v_ w_ ⟨rfl, rfl⟩ -
  refine am_eq_r (q' := (5, [some (.ref 3), some (.int (nI v))], [.int 1], wd C Y og)) rfl ?_
  refine am_steps_r ok_V_heldBy 4 (q' := (13, [some (.ref 3), some (.int (nI v))], [.int (nI v), .ref 12], wd C Y og)) rfl ?_
  refine am_iald_r ok_V_heldBy rfl (w := wd C Y og) (f := C.2.1 8) rfl rfl (pk_in v 300 (by omega)) ?_
  rw [nI_clamp (show v < 2 ^ 31 by omega)]
  refine am_steps_r ok_V_heldBy 1 (q' := (18, [some (.ref 3), some (.int (nI v))], [.int (C.2.1 8 v)], wd C Y og)) rfl ?_
  refine am_iret_r ok_V_heldBy rfl rfl rfl ?_
  first | (exfalso; omega) | exact ⟨rfl, rfl⟩
set_option maxHeartbeats 4000000 in
set_option maxRecDepth 100000 in
theorem c_V_heldBy_m (d : Nat) (C : wd_C) (Y : wd_Y) (og : Nat → Int64) (nv u : Nat) (hV : vsz C nv u)  : am_Mt l D cA ad fm (d + 1) m_V_heldBy [.ref 3, .int (-1)] (wd C Y og) (fun vr w' => vr = some (.int (-1)) ∧ w' = wd C Y og) := by
  refine am_mt ok_V_heldBy (by simp [am_arg, Value.category, m_V_heldBy, am_ml]) ?_
  refine am_eq_r (q' := (0, [some (.ref 3), some (.int (-1))], [], wd C Y og)) rfl ?_
  refine am_steps_r ok_V_heldBy 2 (q' := (2, [some (.ref 3), some (.int (-1))], [.int (-1), .ref 3], wd C Y og)) rfl ?_
  refine am_callV_r (As := [.int (-1)]) (rest := []) ok_V_heldBy rfl rfl ok_V_has oi_V_has lk_3_60 (Or.inl ⟨_, _, _, rfl, rfl, rfl⟩) rfl rfl (Nat.le_of_ble_eq_true rfl) (c_V_has_m _ C Y og nv u hV) ?_
  rintro v_ w_ ⟨rfl, rfl⟩ -
  refine am_eq_r (q' := (5, [some (.ref 3), some (.int (-1))], [.int 0], wd C Y og)) rfl ?_
  refine am_steps_r ok_V_heldBy 2 (q' := (18, [some (.ref 3), some (.int (-1))], [.int (-1)], wd C Y og)) rfl ?_
  refine am_iret_r ok_V_heldBy rfl rfl rfl ?_
  first | (exfalso; omega) | exact ⟨rfl, rfl⟩
set_option maxHeartbeats 4000000 in
set_option maxRecDepth 100000 in
theorem c_V_lengthOf_in (d : Nat) (C : wd_C) (Y : wd_Y) (og : Nat → Int64) (nv u : Nat) (hV : vsz C nv u) (v : Nat) (hv : v < nv) : am_Mt l D cA ad fm (d + 0) m_V_lengthOf [.ref 3, .int (nI v)] (wd C Y og) (fun vr w' => vr = some (.int (C.2.1 3 v)) ∧ w' = wd C Y og) := by
  have hv1 := hV.2.1
  have hv2 := hV.2.2.2
  refine am_mt ok_V_lengthOf (by simp [am_arg, Value.category, m_V_lengthOf, am_ml]) ?_
  refine am_eq_r (q' := (0, [some (.ref 3), some (.int (nI v))], [], wd C Y og)) rfl ?_
  refine am_steps_r ok_V_lengthOf 2 (q' := (bif decide ((nI v) < 0) then 12 else 4, [some (.ref 3), some (.int (nI v))], [], wd C Y og)) rfl ?_
  refine am_br_r (fun h_1 => ?_) (fun h_1 => ?_)
  · skip
    have h_1 : v < 0 := (nI_ltI (show v < 2 ^ 31 by omega) (show 0 < 2 ^ 31 by omega)).mp h_1
    refine am_steps_r ok_V_lengthOf 2 (q' := (22, [some (.ref 3), some (.int (nI v))], [.int 0], wd C Y og)) rfl ?_
    refine am_iret_r ok_V_lengthOf rfl rfl rfl ?_
    first | (exfalso; omega) | exact ⟨rfl, rfl⟩
  · skip
    have h_1 : ¬ v < 0 := fun z => h_1 ((nI_ltI (show v < 2 ^ 31 by omega) (show 0 < 2 ^ 31 by omega)).mpr z)
    refine am_steps_r ok_V_lengthOf 4 (q' := (bif decide ((nI v) < (C.1 1)) then 16 else 12, [some (.ref 3), some (.int (nI v))], [], wd C Y og)) rfl ?_
    rw [show (C.1 1 : Int32) = nI nv from hV.1]
    refine am_br_r (fun h_2 => ?_) (fun h_2 => ?_)
    · skip
      have h_2 : v < nv := (nI_ltI (show v < 2 ^ 31 by omega) (show nv < 2 ^ 31 by omega)).mp h_2
      refine am_steps_r ok_V_lengthOf 3 (q' := (21, [some (.ref 3), some (.int (nI v))], [.int (nI v), .ref 7], wd C Y og)) rfl ?_
      refine am_iald_r ok_V_lengthOf rfl (w := wd C Y og) (f := C.2.1 3) rfl rfl (pk_in v 300 (by omega)) ?_
      rw [nI_clamp (show v < 2 ^ 31 by omega)]
      refine am_iret_r ok_V_lengthOf rfl rfl rfl ?_
      first | (exfalso; omega) | exact ⟨rfl, rfl⟩
    · skip
      have h_2 : ¬ v < nv := fun z => h_2 ((nI_ltI (show v < 2 ^ 31 by omega) (show nv < 2 ^ 31 by omega)).mpr z)
      refine am_steps_r ok_V_lengthOf 2 (q' := (22, [some (.ref 3), some (.int (nI v))], [.int 0], wd C Y og)) rfl ?_
      refine am_iret_r ok_V_lengthOf rfl rfl rfl ?_
      first | (exfalso; omega) | exact ⟨rfl, rfl⟩
set_option maxHeartbeats 4000000 in
set_option maxRecDepth 100000 in
theorem c_V_numberOf_in (d : Nat) (C : wd_C) (Y : wd_Y) (og : Nat → Int64) (nv u : Nat) (hV : vsz C nv u) (v : Nat) (hv : v < nv) : am_Mt l D cA ad fm (d + 1) m_V_numberOf [.ref 3, .int (nI v)] (wd C Y og) (fun vr w' => vr = some (.long (C.2.2 v)) ∧ w' = wd C Y og) := by
  have hv1 := hV.2.1
  have hv2 := hV.2.2.2
  refine am_mt ok_V_numberOf (by simp [am_arg, Value.category, m_V_numberOf, am_ml]) ?_
  refine am_eq_r (q' := (0, [some (.ref 3), some (.int (nI v))], [], wd C Y og)) rfl ?_
  refine am_steps_r ok_V_numberOf 2 (q' := (2, [some (.ref 3), some (.int (nI v))], [.int (nI v), .ref 3], wd C Y og)) rfl ?_
  refine am_callV_r (As := [.int (nI v)]) (rest := []) ok_V_numberOf rfl rfl ok_V_has oi_V_has lk_3_60 (Or.inl ⟨_, _, _, rfl, rfl, rfl⟩) rfl rfl (Nat.le_of_ble_eq_true rfl) (c_V_has_in _ C Y og nv u hV v (by omega)) ?_
  rintro v_ w_ ⟨rfl, rfl⟩ -
  refine am_eq_r (q' := (5, [some (.ref 3), some (.int (nI v))], [.int 1], wd C Y og)) rfl ?_
  refine am_steps_r ok_V_numberOf 4 (q' := (13, [some (.ref 3), some (.int (nI v))], [.int (nI v), .ref 5], wd C Y og)) rfl ?_
  refine am_lald_r ok_V_numberOf rfl (w := wd C Y og) (f := C.2.2) rfl rfl (pk_in v 300 (by omega)) ?_
  rw [nI_clamp (show v < 2 ^ 31 by omega)]
  refine am_steps_r ok_V_numberOf 1 (q' := (18, [some (.ref 3), some (.int (nI v))], [.long (C.2.2 v)], wd C Y og)) rfl ?_
  refine am_lret_r ok_V_numberOf rfl rfl rfl ?_
  first | (exfalso; omega) | exact ⟨rfl, rfl⟩
set_option maxHeartbeats 4000000 in
set_option maxRecDepth 100000 in
theorem c_V_addByte_in (d : Nat) (C : wd_C) (Y : wd_Y) (og : Nat → Int64) (nv u : Nat) (hV : vsz C nv u) (v : Nat) (hv : v < nv) (hu : u < 2000) (x : Int32) : am_Mt l D cA ad fm (d + 0) m_V_addByte [.ref 3, .int (nI v), .int x] (wd C Y og) (fun vr w' => vr = some (.int 1) ∧ w' = wd (vByte C v u x) Y og) := by
  have hv1 := hV.2.1
  have hv2 := hV.2.2.2
  refine am_mt ok_V_addByte (by simp [am_arg, Value.category, m_V_addByte, am_ml]) ?_
  refine am_eq_r (q' := (0, [some (.ref 3), some (.int (nI v)), some (.int x)], [], wd C Y og)) rfl ?_
  refine am_steps_r ok_V_addByte 2 (q' := (bif decide ((nI v) < 0) then 22 else 4, [some (.ref 3), some (.int (nI v)), some (.int x)], [], wd C Y og)) rfl ?_
  refine am_br_r (fun h_1 => ?_) (fun h_1 => ?_)
  · skip
    have h_1 : v < 0 := (nI_ltI (show v < 2 ^ 31 by omega) (show 0 < 2 ^ 31 by omega)).mp h_1
    refine am_steps_r ok_V_addByte 1 (q' := (23, [some (.ref 3), some (.int (nI v)), some (.int x)], [.int 0], wd C Y og)) rfl ?_
    refine am_zret_r ok_V_addByte rfl rfl rfl rfl ?_
    first | (exfalso; omega) | exact ⟨rfl, rfl⟩
  · skip
    have h_1 : ¬ v < 0 := fun z => h_1 ((nI_ltI (show v < 2 ^ 31 by omega) (show 0 < 2 ^ 31 by omega)).mpr z)
    refine am_steps_r ok_V_addByte 4 (q' := (bif decide ((C.1 1) ≤ (nI v)) then 22 else 12, [some (.ref 3), some (.int (nI v)), some (.int x)], [], wd C Y og)) rfl ?_
    rw [show (C.1 1 : Int32) = nI nv from hV.1]
    refine am_br_r (fun h_2 => ?_) (fun h_2 => ?_)
    · skip
      have h_2 : nv ≤ v := (nI_leI (show nv < 2 ^ 31 by omega) (show v < 2 ^ 31 by omega)).mp h_2
      refine am_steps_r ok_V_addByte 1 (q' := (23, [some (.ref 3), some (.int (nI v)), some (.int x)], [.int 0], wd C Y og)) rfl ?_
      refine am_zret_r ok_V_addByte rfl rfl rfl rfl ?_
      first | (exfalso; omega) | exact ⟨rfl, rfl⟩
    · skip
      have h_2 : ¬ nv ≤ v := fun z => h_2 ((nI_leI (show nv < 2 ^ 31 by omega) (show v < 2 ^ 31 by omega)).mpr z)
      refine am_steps_r ok_V_addByte 4 (q' := (bif decide ((C.1 2) < 2000) then 24 else 22, [some (.ref 3), some (.int (nI v)), some (.int x)], [], wd C Y og)) rfl ?_
      rw [show (C.1 2 : Int32) = nI u from hV.2.2.1]
      refine am_br_r (fun h_3 => ?_) (fun h_3 => ?_)
      · skip
        have h_3 : u < 2000 := (nI_ltI (show u < 2 ^ 31 by omega) (show 2000 < 2 ^ 31 by omega)).mp h_3
        refine am_steps_r ok_V_addByte 6 (q' := (34, [some (.ref 3), some (.int (nI v)), some (.int x)], [.int x.toInt8.toInt32, .int (C.1 2), .ref 13], wd C Y og)) rfl ?_
        rw [show (C.1 2 : Int32) = nI u from hV.2.2.1]
        refine am_bast_r ok_V_addByte rfl (w := wd C Y og) (f := C.2.1 9) rfl rfl (pk_in u 2000 (by omega)) ?_
        rw [nI_clamp (show u < 2 ^ 31 by omega)]
        refine am_eq_r (q' := (35, [some (.ref 3), some (.int (nI v)), some (.int x)], [], wd (C.1, wd_u C.2.1 9 (upd (C.2.1 9) u (vp_nar .byte x.toInt8.toInt32)), C.2.2) Y og)) rfl ?_
        refine am_steps_r ok_V_addByte 10 (q' := (51, [some (.ref 3), some (.int (nI v)), some (.int x)], [.int (nI v), .ref 7, .int (nI v), .ref 7], wd (upd C.1 2 ((C.1 2) + 1), wd_u C.2.1 9 (upd (C.2.1 9) u (vp_nar .byte x.toInt8.toInt32)), C.2.2) Y og)) rfl ?_
        rw [show (C.1 2 : Int32) = nI u from hV.2.2.1]
        rw [show ((nI u) + 1 : Int32) = nI (u + 1) from nI_add u 1]
        refine am_iald_r ok_V_addByte rfl (w := wd (upd C.1 2 (nI (u + 1)), wd_u C.2.1 9 (upd (C.2.1 9) u (vp_nar .byte x.toInt8.toInt32)), C.2.2) Y og) (f := C.2.1 3) rfl rfl (pk_in v 300 (by omega)) ?_
        rw [nI_clamp (show v < 2 ^ 31 by omega)]
        refine am_steps_r ok_V_addByte 2 (q' := (54, [some (.ref 3), some (.int (nI v)), some (.int x)], [.int ((C.2.1 3 v) + 1), .int (nI v), .ref 7], wd (upd C.1 2 (nI (u + 1)), wd_u C.2.1 9 (upd (C.2.1 9) u (vp_nar .byte x.toInt8.toInt32)), C.2.2) Y og)) rfl ?_
        refine am_iast_r ok_V_addByte rfl (w := wd (upd C.1 2 (nI (u + 1)), wd_u C.2.1 9 (upd (C.2.1 9) u (vp_nar .byte x.toInt8.toInt32)), C.2.2) Y og) (f := C.2.1 3) rfl rfl (pk_in v 300 (by omega)) ?_
        rw [nI_clamp (show v < 2 ^ 31 by omega)]
        refine am_eq_r (q' := (55, [some (.ref 3), some (.int (nI v)), some (.int x)], [], wd (upd C.1 2 (nI (u + 1)), wd_u (wd_u C.2.1 9 (upd (C.2.1 9) u (vp_nar .byte x.toInt8.toInt32))) 3 (upd (C.2.1 3) v ((C.2.1 3 v) + 1)), C.2.2) Y og)) rfl ?_
        refine am_steps_r ok_V_addByte 1 (q' := (56, [some (.ref 3), some (.int (nI v)), some (.int x)], [.int 1], wd (upd C.1 2 (nI (u + 1)), wd_u (wd_u C.2.1 9 (upd (C.2.1 9) u (vp_nar .byte x.toInt8.toInt32))) 3 (upd (C.2.1 3) v ((C.2.1 3 v) + 1)), C.2.2) Y og)) rfl ?_
        refine am_zret_r ok_V_addByte rfl rfl rfl rfl ?_
        first | (exfalso; omega) | exact ⟨rfl, rfl⟩
      · skip
        have h_3 : ¬ u < 2000 := fun z => h_3 ((nI_ltI (show u < 2 ^ 31 by omega) (show 2000 < 2 ^ 31 by omega)).mpr z)
        refine am_steps_r ok_V_addByte 1 (q' := (23, [some (.ref 3), some (.int (nI v)), some (.int x)], [.int 0], wd C Y og)) rfl ?_
        refine am_zret_r ok_V_addByte rfl rfl rfl rfl ?_
        first | (exfalso; omega) | exact ⟨rfl, rfl⟩
set_option maxHeartbeats 4000000 in
set_option maxRecDepth 100000 in
theorem c_V_holdAnew (d : Nat) (C : wd_C) (Y : wd_Y) (og : Nat → Int64) (nv u : Nat) (hV : vsz C nv u) (v : Nat) (hv : v < nv) (x : Int32) : am_Mt l D cA ad fm (d + 1) m_V_holdAnew [.ref 3, .int (nI v), .int x] (wd C Y og) (fun v_ w' => v_ = none ∧ w' = wd (C.1, wd_u C.2.1 8 (upd (C.2.1 8) v x), C.2.2) Y og) := by
  have hv1 := hV.2.1
  have hv2 := hV.2.2.2
  refine am_mt ok_V_holdAnew (by simp [am_arg, Value.category, m_V_holdAnew, am_ml]) ?_
  refine am_eq_r (q' := (0, [some (.ref 3), some (.int (nI v)), some (.int x)], [], wd C Y og)) rfl ?_
  refine am_steps_r ok_V_holdAnew 2 (q' := (2, [some (.ref 3), some (.int (nI v)), some (.int x)], [.int (nI v), .ref 3], wd C Y og)) rfl ?_
  refine am_callV_r (As := [.int (nI v)]) (rest := []) ok_V_holdAnew rfl rfl ok_V_has oi_V_has lk_3_60 (Or.inl ⟨_, _, _, rfl, rfl, rfl⟩) rfl rfl (Nat.le_of_ble_eq_true rfl) (c_V_has_in _ C Y og nv u hV v (by omega)) ?_
  rintro v_ w_ ⟨rfl, rfl⟩ -
  refine am_eq_r (q' := (5, [some (.ref 3), some (.int (nI v)), some (.int x)], [.int 1], wd C Y og)) rfl ?_
  refine am_steps_r ok_V_holdAnew 5 (q' := (14, [some (.ref 3), some (.int (nI v)), some (.int x)], [.int x, .int (nI v), .ref 12], wd C Y og)) rfl ?_
  refine am_iast_r ok_V_holdAnew rfl (w := wd C Y og) (f := C.2.1 8) rfl rfl (pk_in v 300 (by omega)) ?_
  rw [nI_clamp (show v < 2 ^ 31 by omega)]
  refine am_eq_r (q' := (15, [some (.ref 3), some (.int (nI v)), some (.int x)], [], wd (C.1, wd_u C.2.1 8 (upd (C.2.1 8) v x), C.2.2) Y og)) rfl ?_
  refine am_vret_r ok_V_holdAnew rfl rfl rfl ?_
  first | (exfalso; omega) | exact ⟨rfl, rfl⟩
end C26
