/-! the reference's rows of values: small methods; printed by wip/gen/g32.py -/
def vsy (Y : wd_Y) (nv u : Nat) : Prop := Y.1 4 = nI nv ∧ nv ≤ 300 ∧ Y.1 5 = nI u ∧ u ≤ 2000
def yNew (Y : wd_Y) (nv u : Nat) (k : Int32) : wd_Y := (upd Y.1 4 (nI (nv + 1)), fun j => if j = 2 then upd (Y.2.1 2) nv k else if j = 3 then upd (Y.2.1 3) nv (-1) else if j = 4 then upd (Y.2.1 4) nv (-1) else if j = 5 then upd (Y.2.1 5) nv (-1) else if j = 6 then upd (Y.2.1 6) nv 0 else if j = 7 then upd (Y.2.1 7) nv (nI u) else if j = 8 then upd (Y.2.1 8) nv 0 else Y.2.1 j, vp_updL Y.2.2.1 nv 0, Y.2.2.2)
def yApp (Y : wd_Y) (v p : Nat) (last : Option Nat) : wd_Y := match last with
  | none => (Y.1, fun j => if j = 3 then upd (Y.2.1 3) v (nI p) else if j = 4 then upd (Y.2.1 4) v (nI p) else if j = 5 then upd (Y.2.1 5) p (-1) else if j = 6 then upd (Y.2.1 6) v (Y.2.1 6 v + 1) else Y.2.1 j, Y.2.2)
  | some q => (Y.1, fun j => if j = 4 then upd (Y.2.1 4) v (nI p) else if j = 5 then upd (upd (Y.2.1 5) q (nI p)) p (-1) else if j = 6 then upd (Y.2.1 6) v (Y.2.1 6 v + 1) else Y.2.1 j, Y.2.2)
def yKeep (Y : wd_Y) (v u g : Nat) : wd_Y := (upd Y.1 5 (nI (u + g)), fun j => if j = 7 then upd (Y.2.1 7) v (nI u) else if j = 8 then upd (Y.2.1 8) v (nI g) else if j = 9 then va_cpy (Y.2.1 10) (Y.2.1 9) 0 u g else Y.2.1 j, Y.2.2)
theorem cpy_s {f g : Nat → Int32} {u i : Nat} : upd (va_cpy f g 0 u i) (u + i) (f i) = va_cpy f g 0 u (i + 1) := by
  funext x
  unfold upd va_cpy
  by_cases h : x = u + i
  · subst h
    rw [if_pos rfl, if_pos (by omega)]
    congr 1
    omega
  · rw [if_neg h]
    by_cases h2 : u ≤ x ∧ x < u + i
    · rw [if_pos h2, if_pos (by omega)]
    · rw [if_neg h2, if_neg (by omega)]
theorem cpy_0 {f g : Nat → Int32} {u : Nat} : va_cpy f g 0 u 0 = g := by
  funext x
  unfold va_cpy
  rw [if_neg (by omega)]
section C32
variable {l : Launch} {D : va_G} {cA : Nat → ClassId} {ad : Nat → Nat} {fm : Value}
set_option maxHeartbeats 4000000 in
set_option maxRecDepth 100000 in
theorem c_M_fails (d : Nat) (C : wd_C) (Y : wd_Y) (og : Nat → Int64) (x p : Int32) : am_Mt l D cA ad fm (d + 0) m_M_fails [.ref 19, .int x, .int p] (wd C Y og) (fun vr w' => vr = some (.int 0) ∧ w' = wd C (upd (upd Y.1 7 x) 8 p, Y.2) og) := by
  refine am_mt ok_M_fails (by simp [am_arg, Value.category, m_M_fails, am_ml]) ?_
  refine am_eq_r (q' := (0, [some (.ref 19), some (.int x), some (.int p)], [], wd C Y og)) rfl ?_
  refine am_steps_r ok_M_fails 7 (q' := (11, [some (.ref 19), some (.int x), some (.int p)], [.int 0], wd C (upd (upd Y.1 7 x) 8 p, Y.2) og)) rfl ?_
  refine am_zret_r ok_M_fails rfl rfl rfl rfl ?_
  exact ⟨rfl, rfl⟩
set_option maxHeartbeats 4000000 in
set_option maxRecDepth 100000 in
theorem c_M_isValue (d : Nat) (C : wd_C) (Y : wd_Y) (og : Nat → Int64) (nv u : Nat) (hV : vsy Y nv u) (x : Int32) : am_Mt l D cA ad fm (d + 0) m_M_isValue [.ref 19, .int x] (wd C Y og) (fun vr w' => vr = some (.int (bz (decide (0 ≤ x) && decide (x < nI nv)))) ∧ w' = wd C Y og) := by
  refine am_mt ok_M_isValue (by simp [am_arg, Value.category, m_M_isValue, am_ml]) ?_
  refine am_eq_r (q' := (0, [some (.ref 19), some (.int x)], [], wd C Y og)) rfl ?_
  refine am_steps_r ok_M_isValue 2 (q' := (bif decide (x < 0) then 16 else 4, [some (.ref 19), some (.int x)], [], wd C Y og)) rfl ?_
  refine am_br_r (fun h_1 => ?_) (fun h_1 => ?_)
  · skip
    refine am_steps_r ok_M_isValue 1 (q' := (17, [some (.ref 19), some (.int x)], [.int 0], wd C Y og)) rfl ?_
    refine am_zret_r ok_M_isValue rfl rfl rfl rfl ?_
    refine ⟨?_, rfl⟩
    simp_all [bz, ← Int32.not_lt]
  · skip
    refine am_steps_r ok_M_isValue 4 (q' := (bif decide ((Y.1 4) ≤ x) then 16 else 12, [some (.ref 19), some (.int x)], [], wd C Y og)) rfl ?_
    rw [show (Y.1 4 : Int32) = nI nv from hV.1]
    refine am_br_r (fun h_2 => ?_) (fun h_2 => ?_)
    · skip
      refine am_steps_r ok_M_isValue 1 (q' := (17, [some (.ref 19), some (.int x)], [.int 0], wd C Y og)) rfl ?_
      refine am_zret_r ok_M_isValue rfl rfl rfl rfl ?_
      refine ⟨?_, rfl⟩
      simp_all [bz, ← Int32.not_lt]
    · skip
      refine am_steps_r ok_M_isValue 2 (q' := (17, [some (.ref 19), some (.int x)], [.int 1], wd C Y og)) rfl ?_
      refine am_zret_r ok_M_isValue rfl rfl rfl rfl ?_
      refine ⟨?_, rfl⟩
      simp_all [bz, ← Int32.not_lt]
set_option maxHeartbeats 4000000 in
set_option maxRecDepth 100000 in
theorem c_M_begins_in (d : Nat) (C : wd_C) (Y : wd_Y) (og : Nat → Int64) (nv u : Nat) (hV : vsy Y nv u) (h3 : nv < 300) (k p : Int32) : am_Mt l D cA ad fm (d + 1) m_M_begins [.ref 19, .int k, .int p] (wd C Y og) (fun vr w' => vr = some (.int 1) ∧ w' = wd C (yNew Y nv u k) og) := by
  have hv1 := hV.2.1
  have hv2 := hV.2.2.2
  refine am_mt ok_M_begins (by simp [am_arg, Value.category, m_M_begins, am_ml]) ?_
  refine am_eq_r (q' := (0, [some (.ref 19), some (.int k), some (.int p)], [], wd C Y og)) rfl ?_
  refine am_steps_r ok_M_begins 4 (q' := (bif decide ((Y.1 4) = 300) then 10 else 18, [some (.ref 19), some (.int k), some (.int p)], [], wd C Y og)) rfl ?_
  rw [show (Y.1 4 : Int32) = nI nv from hV.1]
  refine am_br_r (fun h_1 => ?_) (fun h_1 => ?_)
  · skip
    have h_1 : nv = 300 := (nI_eq (show nv < 2 ^ 31 by omega) (show 300 < 2 ^ 31 by omega)).mp h_1
    refine am_steps_r ok_M_begins 3 (q' := (14, [some (.ref 19), some (.int k), some (.int p)], [.int p, .int 6, .ref 19], wd C Y og)) rfl ?_
    refine am_callV_r (As := [.int 6, .int p]) (rest := []) ok_M_begins rfl rfl ok_M_fails oi_M_fails lk_6_139 (Or.inl ⟨_, _, _, rfl, rfl, rfl⟩) rfl rfl (Nat.le_of_ble_eq_true rfl) (c_M_fails _ C Y og 6 p) ?_
    rintro v_ w_ ⟨rfl, rfl⟩ -
    refine am_eq_r (q' := (17, [some (.ref 19), some (.int k), some (.int p)], [.int 0], wd C (upd (upd Y.1 7 6) 8 p, Y.2) og)) rfl ?_
    refine am_zret_r ok_M_begins rfl rfl rfl rfl ?_
    first | (exfalso; omega) | exact ⟨rfl, rfl⟩
  · skip
    have h_1 : ¬ nv = 300 := fun z => h_1 ((nI_eq (show nv < 2 ^ 31 by omega) (show 300 < 2 ^ 31 by omega)).mpr z)
    refine am_steps_r ok_M_begins 5 (q' := (27, [some (.ref 19), some (.int k), some (.int p)], [.int k, .int (Y.1 4), .ref 22], wd C Y og)) rfl ?_
    rw [show (Y.1 4 : Int32) = nI nv from hV.1]
    refine am_iast_r ok_M_begins rfl (w := wd C Y og) (f := Y.2.1 2) rfl rfl (pk_in nv 300 (by omega)) ?_
    rw [nI_clamp (show nv < 2 ^ 31 by omega)]
    refine am_eq_r (q' := (28, [some (.ref 19), some (.int k), some (.int p)], [], wd C (Y.1, wd_u Y.2.1 2 (upd (Y.2.1 2) nv k), Y.2.2) og)) rfl ?_
    refine am_steps_r ok_M_begins 5 (q' := (37, [some (.ref 19), some (.int k), some (.int p)], [.long 0, .int (Y.1 4), .ref 23], wd C (Y.1, wd_u Y.2.1 2 (upd (Y.2.1 2) nv k), Y.2.2) og)) rfl ?_
    rw [show (Y.1 4 : Int32) = nI nv from hV.1]
    refine am_last_r ok_M_begins rfl (w := wd C (Y.1, wd_u Y.2.1 2 (upd (Y.2.1 2) nv k), Y.2.2) og) (f := Y.2.2.1) rfl rfl (pk_in nv 300 (by omega)) ?_
    rw [nI_clamp (show nv < 2 ^ 31 by omega)]
    refine am_eq_r (q' := (38, [some (.ref 19), some (.int k), some (.int p)], [], wd C (Y.1, wd_u Y.2.1 2 (upd (Y.2.1 2) nv k), (vp_updL Y.2.2.1 nv 0), Y.2.2.2) og)) rfl ?_
    refine am_steps_r ok_M_begins 5 (q' := (47, [some (.ref 19), some (.int k), some (.int p)], [.int (-1), .int (Y.1 4), .ref 24], wd C (Y.1, wd_u Y.2.1 2 (upd (Y.2.1 2) nv k), (vp_updL Y.2.2.1 nv 0), Y.2.2.2) og)) rfl ?_
    rw [show (Y.1 4 : Int32) = nI nv from hV.1]
    refine am_iast_r ok_M_begins rfl (w := wd C (Y.1, wd_u Y.2.1 2 (upd (Y.2.1 2) nv k), (vp_updL Y.2.2.1 nv 0), Y.2.2.2) og) (f := Y.2.1 3) rfl rfl (pk_in nv 300 (by omega)) ?_
    rw [nI_clamp (show nv < 2 ^ 31 by omega)]
    refine am_eq_r (q' := (48, [some (.ref 19), some (.int k), some (.int p)], [], wd C (Y.1, wd_u (wd_u Y.2.1 2 (upd (Y.2.1 2) nv k)) 3 (upd (Y.2.1 3) nv (-1)), (vp_updL Y.2.2.1 nv 0), Y.2.2.2) og)) rfl ?_
    refine am_steps_r ok_M_begins 5 (q' := (57, [some (.ref 19), some (.int k), some (.int p)], [.int (-1), .int (Y.1 4), .ref 25], wd C (Y.1, wd_u (wd_u Y.2.1 2 (upd (Y.2.1 2) nv k)) 3 (upd (Y.2.1 3) nv (-1)), (vp_updL Y.2.2.1 nv 0), Y.2.2.2) og)) rfl ?_
    rw [show (Y.1 4 : Int32) = nI nv from hV.1]
    refine am_iast_r ok_M_begins rfl (w := wd C (Y.1, wd_u (wd_u Y.2.1 2 (upd (Y.2.1 2) nv k)) 3 (upd (Y.2.1 3) nv (-1)), (vp_updL Y.2.2.1 nv 0), Y.2.2.2) og) (f := Y.2.1 4) rfl rfl (pk_in nv 300 (by omega)) ?_
    rw [nI_clamp (show nv < 2 ^ 31 by omega)]
    refine am_eq_r (q' := (58, [some (.ref 19), some (.int k), some (.int p)], [], wd C (Y.1, wd_u (wd_u (wd_u Y.2.1 2 (upd (Y.2.1 2) nv k)) 3 (upd (Y.2.1 3) nv (-1))) 4 (upd (Y.2.1 4) nv (-1)), (vp_updL Y.2.2.1 nv 0), Y.2.2.2) og)) rfl ?_
    refine am_steps_r ok_M_begins 5 (q' := (67, [some (.ref 19), some (.int k), some (.int p)], [.int (-1), .int (Y.1 4), .ref 26], wd C (Y.1, wd_u (wd_u (wd_u Y.2.1 2 (upd (Y.2.1 2) nv k)) 3 (upd (Y.2.1 3) nv (-1))) 4 (upd (Y.2.1 4) nv (-1)), (vp_updL Y.2.2.1 nv 0), Y.2.2.2) og)) rfl ?_
    rw [show (Y.1 4 : Int32) = nI nv from hV.1]
    refine am_iast_r ok_M_begins rfl (w := wd C (Y.1, wd_u (wd_u (wd_u Y.2.1 2 (upd (Y.2.1 2) nv k)) 3 (upd (Y.2.1 3) nv (-1))) 4 (upd (Y.2.1 4) nv (-1)), (vp_updL Y.2.2.1 nv 0), Y.2.2.2) og) (f := Y.2.1 5) rfl rfl (pk_in nv 300 (by omega)) ?_
    rw [nI_clamp (show nv < 2 ^ 31 by omega)]
    refine am_eq_r (q' := (68, [some (.ref 19), some (.int k), some (.int p)], [], wd C (Y.1, wd_u (wd_u (wd_u (wd_u Y.2.1 2 (upd (Y.2.1 2) nv k)) 3 (upd (Y.2.1 3) nv (-1))) 4 (upd (Y.2.1 4) nv (-1))) 5 (upd (Y.2.1 5) nv (-1)), (vp_updL Y.2.2.1 nv 0), Y.2.2.2) og)) rfl ?_
    refine am_steps_r ok_M_begins 5 (q' := (77, [some (.ref 19), some (.int k), some (.int p)], [.int 0, .int (Y.1 4), .ref 27], wd C (Y.1, wd_u (wd_u (wd_u (wd_u Y.2.1 2 (upd (Y.2.1 2) nv k)) 3 (upd (Y.2.1 3) nv (-1))) 4 (upd (Y.2.1 4) nv (-1))) 5 (upd (Y.2.1 5) nv (-1)), (vp_updL Y.2.2.1 nv 0), Y.2.2.2) og)) rfl ?_
    rw [show (Y.1 4 : Int32) = nI nv from hV.1]
    refine am_iast_r ok_M_begins rfl (w := wd C (Y.1, wd_u (wd_u (wd_u (wd_u Y.2.1 2 (upd (Y.2.1 2) nv k)) 3 (upd (Y.2.1 3) nv (-1))) 4 (upd (Y.2.1 4) nv (-1))) 5 (upd (Y.2.1 5) nv (-1)), (vp_updL Y.2.2.1 nv 0), Y.2.2.2) og) (f := Y.2.1 6) rfl rfl (pk_in nv 300 (by omega)) ?_
    rw [nI_clamp (show nv < 2 ^ 31 by omega)]
    refine am_eq_r (q' := (78, [some (.ref 19), some (.int k), some (.int p)], [], wd C (Y.1, wd_u (wd_u (wd_u (wd_u (wd_u Y.2.1 2 (upd (Y.2.1 2) nv k)) 3 (upd (Y.2.1 3) nv (-1))) 4 (upd (Y.2.1 4) nv (-1))) 5 (upd (Y.2.1 5) nv (-1))) 6 (upd (Y.2.1 6) nv 0), (vp_updL Y.2.2.1 nv 0), Y.2.2.2) og)) rfl ?_
    refine am_steps_r ok_M_begins 6 (q' := (90, [some (.ref 19), some (.int k), some (.int p)], [.int (Y.1 5), .int (Y.1 4), .ref 28], wd C (Y.1, wd_u (wd_u (wd_u (wd_u (wd_u Y.2.1 2 (upd (Y.2.1 2) nv k)) 3 (upd (Y.2.1 3) nv (-1))) 4 (upd (Y.2.1 4) nv (-1))) 5 (upd (Y.2.1 5) nv (-1))) 6 (upd (Y.2.1 6) nv 0), (vp_updL Y.2.2.1 nv 0), Y.2.2.2) og)) rfl ?_
    rw [show (Y.1 4 : Int32) = nI nv from hV.1]
    rw [show (Y.1 5 : Int32) = nI u from hV.2.2.1]
    refine am_iast_r ok_M_begins rfl (w := wd C (Y.1, wd_u (wd_u (wd_u (wd_u (wd_u Y.2.1 2 (upd (Y.2.1 2) nv k)) 3 (upd (Y.2.1 3) nv (-1))) 4 (upd (Y.2.1 4) nv (-1))) 5 (upd (Y.2.1 5) nv (-1))) 6 (upd (Y.2.1 6) nv 0), (vp_updL Y.2.2.1 nv 0), Y.2.2.2) og) (f := Y.2.1 7) rfl rfl (pk_in nv 300 (by omega)) ?_
    rw [nI_clamp (show nv < 2 ^ 31 by omega)]
    refine am_eq_r (q' := (91, [some (.ref 19), some (.int k), some (.int p)], [], wd C (Y.1, wd_u (wd_u (wd_u (wd_u (wd_u (wd_u Y.2.1 2 (upd (Y.2.1 2) nv k)) 3 (upd (Y.2.1 3) nv (-1))) 4 (upd (Y.2.1 4) nv (-1))) 5 (upd (Y.2.1 5) nv (-1))) 6 (upd (Y.2.1 6) nv 0)) 7 (upd (Y.2.1 7) nv (nI u)), (vp_updL Y.2.2.1 nv 0), Y.2.2.2) og)) rfl ?_
    refine am_steps_r ok_M_begins 5 (q' := (100, [some (.ref 19), some (.int k), some (.int p)], [.int 0, .int (Y.1 4), .ref 29], wd C (Y.1, wd_u (wd_u (wd_u (wd_u (wd_u (wd_u Y.2.1 2 (upd (Y.2.1 2) nv k)) 3 (upd (Y.2.1 3) nv (-1))) 4 (upd (Y.2.1 4) nv (-1))) 5 (upd (Y.2.1 5) nv (-1))) 6 (upd (Y.2.1 6) nv 0)) 7 (upd (Y.2.1 7) nv (nI u)), (vp_updL Y.2.2.1 nv 0), Y.2.2.2) og)) rfl ?_
    rw [show (Y.1 4 : Int32) = nI nv from hV.1]
    refine am_iast_r ok_M_begins rfl (w := wd C (Y.1, wd_u (wd_u (wd_u (wd_u (wd_u (wd_u Y.2.1 2 (upd (Y.2.1 2) nv k)) 3 (upd (Y.2.1 3) nv (-1))) 4 (upd (Y.2.1 4) nv (-1))) 5 (upd (Y.2.1 5) nv (-1))) 6 (upd (Y.2.1 6) nv 0)) 7 (upd (Y.2.1 7) nv (nI u)), (vp_updL Y.2.2.1 nv 0), Y.2.2.2) og) (f := Y.2.1 8) rfl rfl (pk_in nv 300 (by omega)) ?_
    rw [nI_clamp (show nv < 2 ^ 31 by omega)]
    refine am_eq_r (q' := (101, [some (.ref 19), some (.int k), some (.int p)], [], wd C (Y.1, wd_u (wd_u (wd_u (wd_u (wd_u (wd_u (wd_u Y.2.1 2 (upd (Y.2.1 2) nv k)) 3 (upd (Y.2.1 3) nv (-1))) 4 (upd (Y.2.1 4) nv (-1))) 5 (upd (Y.2.1 5) nv (-1))) 6 (upd (Y.2.1 6) nv 0)) 7 (upd (Y.2.1 7) nv (nI u))) 8 (upd (Y.2.1 8) nv 0), (vp_updL Y.2.2.1 nv 0), Y.2.2.2) og)) rfl ?_
    refine am_steps_r ok_M_begins 7 (q' := (112, [some (.ref 19), some (.int k), some (.int p)], [.int 1], wd C (upd Y.1 4 ((Y.1 4) + 1), wd_u (wd_u (wd_u (wd_u (wd_u (wd_u (wd_u Y.2.1 2 (upd (Y.2.1 2) nv k)) 3 (upd (Y.2.1 3) nv (-1))) 4 (upd (Y.2.1 4) nv (-1))) 5 (upd (Y.2.1 5) nv (-1))) 6 (upd (Y.2.1 6) nv 0)) 7 (upd (Y.2.1 7) nv (nI u))) 8 (upd (Y.2.1 8) nv 0), (vp_updL Y.2.2.1 nv 0), Y.2.2.2) og)) rfl ?_
    rw [show (Y.1 4 : Int32) = nI nv from hV.1]
    rw [show ((nI nv) + 1 : Int32) = nI (nv + 1) from nI_add nv 1]
    refine am_zret_r ok_M_begins rfl rfl rfl rfl ?_
    first | (exfalso; omega) | exact ⟨rfl, rfl⟩
set_option maxHeartbeats 4000000 in
set_option maxRecDepth 100000 in
theorem c_M_begins_full (d : Nat) (C : wd_C) (Y : wd_Y) (og : Nat → Int64) (nv u : Nat) (hV : vsy Y nv u) (h3 : nv = 300) (k p : Int32) : am_Mt l D cA ad fm (d + 1) m_M_begins [.ref 19, .int k, .int p] (wd C Y og) (fun vr w' => vr = some (.int 0) ∧ w' = wd C (upd (upd Y.1 7 6) 8 p, Y.2) og) := by
  have hv1 := hV.2.1
  have hv2 := hV.2.2.2
  refine am_mt ok_M_begins (by simp [am_arg, Value.category, m_M_begins, am_ml]) ?_
  refine am_eq_r (q' := (0, [some (.ref 19), some (.int k), some (.int p)], [], wd C Y og)) rfl ?_
  refine am_steps_r ok_M_begins 4 (q' := (bif decide ((Y.1 4) = 300) then 10 else 18, [some (.ref 19), some (.int k), some (.int p)], [], wd C Y og)) rfl ?_
  rw [show (Y.1 4 : Int32) = nI nv from hV.1]
  refine am_br_r (fun h_1 => ?_) (fun h_1 => ?_)
  · skip
    have h_1 : nv = 300 := (nI_eq (show nv < 2 ^ 31 by omega) (show 300 < 2 ^ 31 by omega)).mp h_1
    refine am_steps_r ok_M_begins 3 (q' := (14, [some (.ref 19), some (.int k), some (.int p)], [.int p, .int 6, .ref 19], wd C Y og)) rfl ?_
    refine am_callV_r (As := [.int 6, .int p]) (rest := []) ok_M_begins rfl rfl ok_M_fails oi_M_fails lk_6_139 (Or.inl ⟨_, _, _, rfl, rfl, rfl⟩) rfl rfl (Nat.le_of_ble_eq_true rfl) (c_M_fails _ C Y og 6 p) ?_
    rintro v_ w_ ⟨rfl, rfl⟩ -
    refine am_eq_r (q' := (17, [some (.ref 19), some (.int k), some (.int p)], [.int 0], wd C (upd (upd Y.1 7 6) 8 p, Y.2) og)) rfl ?_
    refine am_zret_r ok_M_begins rfl rfl rfl rfl ?_
    first | (exfalso; omega) | exact ⟨rfl, rfl⟩
  · skip
    have h_1 : ¬ nv = 300 := fun z => h_1 ((nI_eq (show nv < 2 ^ 31 by omega) (show 300 < 2 ^ 31 by omega)).mpr z)
    exfalso; omega
set_option maxHeartbeats 4000000 in
set_option maxRecDepth 100000 in
theorem c_M_append_n (d : Nat) (C : wd_C) (Y : wd_Y) (og : Nat → Int64) (v p : Nat) (hv : v < 300) (hp : p < 300) (hq : Y.2.1 3 v = -1) : am_Mt l D cA ad fm (d + 0) m_M_append [.ref 19, .int (nI v), .int (nI p)] (wd C Y og) (fun vr w' => vr = none ∧ w' = wd C (yApp Y v p none) og) := by
  refine am_mt ok_M_append (by simp [am_arg, Value.category, m_M_append, am_ml]) ?_
  refine am_eq_r (q' := (0, [some (.ref 19), some (.int (nI v)), some (.int (nI p))], [], wd C Y og)) rfl ?_
  refine am_steps_r ok_M_append 3 (q' := (5, [some (.ref 19), some (.int (nI v)), some (.int (nI p))], [.int (nI v), .ref 24], wd C Y og)) rfl ?_
  refine am_iald_r ok_M_append rfl (w := wd C Y og) (f := Y.2.1 3) rfl rfl (pk_in v 300 (by omega)) ?_
  rw [nI_clamp (show v < 2 ^ 31 by omega)]
  rw [hq]
  refine am_steps_r ok_M_append 6 (q' := (16, [some (.ref 19), some (.int (nI v)), some (.int (nI p))], [.int (nI p), .int (nI v), .ref 24], wd C Y og)) rfl ?_
  refine am_iast_r ok_M_append rfl (w := wd C Y og) (f := Y.2.1 3) rfl rfl (pk_in v 300 (by omega)) ?_
  rw [nI_clamp (show v < 2 ^ 31 by omega)]
  refine am_eq_r (q' := (17, [some (.ref 19), some (.int (nI v)), some (.int (nI p))], [], wd C (Y.1, wd_u Y.2.1 3 (upd (Y.2.1 3) v (nI p)), Y.2.2) og)) rfl ?_
  refine am_steps_r ok_M_append 5 (q' := (38, [some (.ref 19), some (.int (nI v)), some (.int (nI p))], [.int (nI p), .int (nI v), .ref 25], wd C (Y.1, wd_u Y.2.1 3 (upd (Y.2.1 3) v (nI p)), Y.2.2) og)) rfl ?_
  refine am_iast_r ok_M_append rfl (w := wd C (Y.1, wd_u Y.2.1 3 (upd (Y.2.1 3) v (nI p)), Y.2.2) og) (f := Y.2.1 4) rfl rfl (pk_in v 300 (by omega)) ?_
  rw [nI_clamp (show v < 2 ^ 31 by omega)]
  refine am_eq_r (q' := (39, [some (.ref 19), some (.int (nI v)), some (.int (nI p))], [], wd C (Y.1, wd_u (wd_u Y.2.1 3 (upd (Y.2.1 3) v (nI p))) 4 (upd (Y.2.1 4) v (nI p)), Y.2.2) og)) rfl ?_
  refine am_steps_r ok_M_append 4 (q' := (45, [some (.ref 19), some (.int (nI v)), some (.int (nI p))], [.int (-1), .int (nI p), .ref 26], wd C (Y.1, wd_u (wd_u Y.2.1 3 (upd (Y.2.1 3) v (nI p))) 4 (upd (Y.2.1 4) v (nI p)), Y.2.2) og)) rfl ?_
  refine am_iast_r ok_M_append rfl (w := wd C (Y.1, wd_u (wd_u Y.2.1 3 (upd (Y.2.1 3) v (nI p))) 4 (upd (Y.2.1 4) v (nI p)), Y.2.2) og) (f := Y.2.1 5) rfl rfl (pk_in p 300 (by omega)) ?_
  rw [nI_clamp (show p < 2 ^ 31 by omega)]
  refine am_eq_r (q' := (46, [some (.ref 19), some (.int (nI v)), some (.int (nI p))], [], wd C (Y.1, wd_u (wd_u (wd_u Y.2.1 3 (upd (Y.2.1 3) v (nI p))) 4 (upd (Y.2.1 4) v (nI p))) 5 (upd (Y.2.1 5) p (-1)), Y.2.2) og)) rfl ?_
  refine am_steps_r ok_M_append 4 (q' := (52, [some (.ref 19), some (.int (nI v)), some (.int (nI p))], [.int (nI v), .ref 27, .int (nI v), .ref 27], wd C (Y.1, wd_u (wd_u (wd_u Y.2.1 3 (upd (Y.2.1 3) v (nI p))) 4 (upd (Y.2.1 4) v (nI p))) 5 (upd (Y.2.1 5) p (-1)), Y.2.2) og)) rfl ?_
  refine am_iald_r ok_M_append rfl (w := wd C (Y.1, wd_u (wd_u (wd_u Y.2.1 3 (upd (Y.2.1 3) v (nI p))) 4 (upd (Y.2.1 4) v (nI p))) 5 (upd (Y.2.1 5) p (-1)), Y.2.2) og) (f := Y.2.1 6) rfl rfl (pk_in v 300 (by omega)) ?_
  rw [nI_clamp (show v < 2 ^ 31 by omega)]
  refine am_steps_r ok_M_append 2 (q' := (55, [some (.ref 19), some (.int (nI v)), some (.int (nI p))], [.int ((Y.2.1 6 v) + 1), .int (nI v), .ref 27], wd C (Y.1, wd_u (wd_u (wd_u Y.2.1 3 (upd (Y.2.1 3) v (nI p))) 4 (upd (Y.2.1 4) v (nI p))) 5 (upd (Y.2.1 5) p (-1)), Y.2.2) og)) rfl ?_
  refine am_iast_r ok_M_append rfl (w := wd C (Y.1, wd_u (wd_u (wd_u Y.2.1 3 (upd (Y.2.1 3) v (nI p))) 4 (upd (Y.2.1 4) v (nI p))) 5 (upd (Y.2.1 5) p (-1)), Y.2.2) og) (f := Y.2.1 6) rfl rfl (pk_in v 300 (by omega)) ?_
  rw [nI_clamp (show v < 2 ^ 31 by omega)]
  refine am_eq_r (q' := (56, [some (.ref 19), some (.int (nI v)), some (.int (nI p))], [], wd C (Y.1, wd_u (wd_u (wd_u (wd_u Y.2.1 3 (upd (Y.2.1 3) v (nI p))) 4 (upd (Y.2.1 4) v (nI p))) 5 (upd (Y.2.1 5) p (-1))) 6 (upd (Y.2.1 6) v ((Y.2.1 6 v) + 1)), Y.2.2) og)) rfl ?_
  refine am_vret_r ok_M_append rfl rfl rfl ?_
  first | (exfalso; omega) | exact ⟨rfl, rfl⟩
set_option maxHeartbeats 4000000 in
set_option maxRecDepth 100000 in
theorem c_M_append_s (d : Nat) (C : wd_C) (Y : wd_Y) (og : Nat → Int64) (v p : Nat) (hv : v < 300) (hp : p < 300) (f q : Nat) (hf0 : f < 300) (hq0 : q < 300) (hf : Y.2.1 3 v = nI f) (hq : Y.2.1 4 v = nI q) : am_Mt l D cA ad fm (d + 0) m_M_append [.ref 19, .int (nI v), .int (nI p)] (wd C Y og) (fun vr w' => vr = none ∧ w' = wd C (yApp Y v p (some q)) og) := by
  refine am_mt ok_M_append (by simp [am_arg, Value.category, m_M_append, am_ml]) ?_
  refine am_eq_r (q' := (0, [some (.ref 19), some (.int (nI v)), some (.int (nI p))], [], wd C Y og)) rfl ?_
  refine am_steps_r ok_M_append 3 (q' := (5, [some (.ref 19), some (.int (nI v)), some (.int (nI p))], [.int (nI v), .ref 24], wd C Y og)) rfl ?_
  refine am_iald_r ok_M_append rfl (w := wd C Y og) (f := Y.2.1 3) rfl rfl (pk_in v 300 (by omega)) ?_
  rw [nI_clamp (show v < 2 ^ 31 by omega)]
  rw [hf]
  refine am_steps_r ok_M_append 2 (q' := (bif decide ((nI f) = (-1)) then 10 else 20, [some (.ref 19), some (.int (nI v)), some (.int (nI p))], [], wd C Y og)) rfl ?_
  refine am_br_r (fun h_1 => ?_) (fun h_1 => ?_)
  · skip
    exact absurd h_1 (nI_nm (show f < 2 ^ 31 by omega))
  · skip
    refine am_steps_r ok_M_append 5 (q' := (29, [some (.ref 19), some (.int (nI v)), some (.int (nI p))], [.int (nI v), .ref 25, .ref 26], wd C Y og)) rfl ?_
    refine am_iald_r ok_M_append rfl (w := wd C Y og) (f := Y.2.1 4) rfl rfl (pk_in v 300 (by omega)) ?_
    rw [nI_clamp (show v < 2 ^ 31 by omega)]
    rw [hq]
    refine am_steps_r ok_M_append 1 (q' := (31, [some (.ref 19), some (.int (nI v)), some (.int (nI p))], [.int (nI p), .int (nI q), .ref 26], wd C Y og)) rfl ?_
    refine am_iast_r ok_M_append rfl (w := wd C Y og) (f := Y.2.1 5) rfl rfl (pk_in q 300 (by omega)) ?_
    rw [nI_clamp (show q < 2 ^ 31 by omega)]
    refine am_eq_r (q' := (32, [some (.ref 19), some (.int (nI v)), some (.int (nI p))], [], wd C (Y.1, wd_u Y.2.1 5 (upd (Y.2.1 5) q (nI p)), Y.2.2) og)) rfl ?_
    refine am_steps_r ok_M_append 4 (q' := (38, [some (.ref 19), some (.int (nI v)), some (.int (nI p))], [.int (nI p), .int (nI v), .ref 25], wd C (Y.1, wd_u Y.2.1 5 (upd (Y.2.1 5) q (nI p)), Y.2.2) og)) rfl ?_
    refine am_iast_r ok_M_append rfl (w := wd C (Y.1, wd_u Y.2.1 5 (upd (Y.2.1 5) q (nI p)), Y.2.2) og) (f := Y.2.1 4) rfl rfl (pk_in v 300 (by omega)) ?_
    rw [nI_clamp (show v < 2 ^ 31 by omega)]
    refine am_eq_r (q' := (39, [some (.ref 19), some (.int (nI v)), some (.int (nI p))], [], wd C (Y.1, wd_u (wd_u Y.2.1 5 (upd (Y.2.1 5) q (nI p))) 4 (upd (Y.2.1 4) v (nI p)), Y.2.2) og)) rfl ?_
    refine am_steps_r ok_M_append 4 (q' := (45, [some (.ref 19), some (.int (nI v)), some (.int (nI p))], [.int (-1), .int (nI p), .ref 26], wd C (Y.1, wd_u (wd_u Y.2.1 5 (upd (Y.2.1 5) q (nI p))) 4 (upd (Y.2.1 4) v (nI p)), Y.2.2) og)) rfl ?_
    refine am_iast_r ok_M_append rfl (w := wd C (Y.1, wd_u (wd_u Y.2.1 5 (upd (Y.2.1 5) q (nI p))) 4 (upd (Y.2.1 4) v (nI p)), Y.2.2) og) (f := (upd (Y.2.1 5) q (nI p))) rfl rfl (pk_in p 300 (by omega)) ?_
    rw [nI_clamp (show p < 2 ^ 31 by omega)]
    refine am_eq_r (q' := (46, [some (.ref 19), some (.int (nI v)), some (.int (nI p))], [], wd C (Y.1, wd_u (wd_u Y.2.1 5 (upd (upd (Y.2.1 5) q (nI p)) p (-1))) 4 (upd (Y.2.1 4) v (nI p)), Y.2.2) og)) rfl ?_
    refine am_steps_r ok_M_append 4 (q' := (52, [some (.ref 19), some (.int (nI v)), some (.int (nI p))], [.int (nI v), .ref 27, .int (nI v), .ref 27], wd C (Y.1, wd_u (wd_u Y.2.1 5 (upd (upd (Y.2.1 5) q (nI p)) p (-1))) 4 (upd (Y.2.1 4) v (nI p)), Y.2.2) og)) rfl ?_
    refine am_iald_r ok_M_append rfl (w := wd C (Y.1, wd_u (wd_u Y.2.1 5 (upd (upd (Y.2.1 5) q (nI p)) p (-1))) 4 (upd (Y.2.1 4) v (nI p)), Y.2.2) og) (f := Y.2.1 6) rfl rfl (pk_in v 300 (by omega)) ?_
    rw [nI_clamp (show v < 2 ^ 31 by omega)]
    refine am_steps_r ok_M_append 2 (q' := (55, [some (.ref 19), some (.int (nI v)), some (.int (nI p))], [.int ((Y.2.1 6 v) + 1), .int (nI v), .ref 27], wd C (Y.1, wd_u (wd_u Y.2.1 5 (upd (upd (Y.2.1 5) q (nI p)) p (-1))) 4 (upd (Y.2.1 4) v (nI p)), Y.2.2) og)) rfl ?_
    refine am_iast_r ok_M_append rfl (w := wd C (Y.1, wd_u (wd_u Y.2.1 5 (upd (upd (Y.2.1 5) q (nI p)) p (-1))) 4 (upd (Y.2.1 4) v (nI p)), Y.2.2) og) (f := Y.2.1 6) rfl rfl (pk_in v 300 (by omega)) ?_
    rw [nI_clamp (show v < 2 ^ 31 by omega)]
    refine am_eq_r (q' := (56, [some (.ref 19), some (.int (nI v)), some (.int (nI p))], [], wd C (Y.1, wd_u (wd_u (wd_u Y.2.1 5 (upd (upd (Y.2.1 5) q (nI p)) p (-1))) 4 (upd (Y.2.1 4) v (nI p))) 6 (upd (Y.2.1 6) v ((Y.2.1 6 v) + 1)), Y.2.2) og)) rfl ?_
    refine am_vret_r ok_M_append rfl rfl rfl ?_
    first | (exfalso; omega) | exact ⟨rfl, rfl⟩
set_option maxHeartbeats 4000000 in
set_option maxRecDepth 100000 in
theorem c_M_gets_in (d : Nat) (C : wd_C) (Y : wd_Y) (og : Nat → Int64) (g m : Nat) (hg : Y.1 10 = nI g) (hgm : g < m) (hm : m < 420) (x p : Int32) : am_Mt l D cA ad fm (d + 1) m_M_gets [.ref 19, .int x, .int (nI m), .int p] (wd C Y og) (fun vr w' => vr = some (.int 1) ∧ w' = wd C (upd Y.1 10 (nI (g + 1)), wd_u Y.2.1 10 (upd (Y.2.1 10) g x), Y.2.2) og) := by
  refine am_mt ok_M_gets (by simp [am_arg, Value.category, m_M_gets, am_ml]) ?_
  refine am_eq_r (q' := (0, [some (.ref 19), some (.int x), some (.int (nI m)), some (.int p)], [], wd C Y og)) rfl ?_
  refine am_steps_r ok_M_gets 4 (q' := (bif decide ((Y.1 10) = (nI m)) then 8 else 15, [some (.ref 19), some (.int x), some (.int (nI m)), some (.int p)], [], wd C Y og)) rfl ?_
  rw [show (Y.1 10 : Int32) = nI g from hg]
  refine am_br_r (fun h_1 => ?_) (fun h_1 => ?_)
  · skip
    have h_1 : g = m := (nI_eq (show g < 2 ^ 31 by omega) (show m < 2 ^ 31 by omega)).mp h_1
    refine am_steps_r ok_M_gets 3 (q' := (11, [some (.ref 19), some (.int x), some (.int (nI m)), some (.int p)], [.int p, .int 3, .ref 19], wd C Y og)) rfl ?_
    refine am_callV_r (As := [.int 3, .int p]) (rest := []) ok_M_gets rfl rfl ok_M_fails oi_M_fails lk_6_139 (Or.inl ⟨_, _, _, rfl, rfl, rfl⟩) rfl rfl (Nat.le_of_ble_eq_true rfl) (c_M_fails _ C Y og 3 p) ?_
    rintro v_ w_ ⟨rfl, rfl⟩ -
    refine am_eq_r (q' := (14, [some (.ref 19), some (.int x), some (.int (nI m)), some (.int p)], [.int 0], wd C (upd (upd Y.1 7 3) 8 p, Y.2) og)) rfl ?_
    refine am_zret_r ok_M_gets rfl rfl rfl rfl ?_
    first | (exfalso; omega) | exact ⟨rfl, rfl⟩
  · skip
    have h_1 : ¬ g = m := fun z => h_1 ((nI_eq (show g < 2 ^ 31 by omega) (show m < 2 ^ 31 by omega)).mpr z)
    refine am_steps_r ok_M_gets 5 (q' := (24, [some (.ref 19), some (.int x), some (.int (nI m)), some (.int p)], [.int x, .int (Y.1 10), .ref 31], wd C Y og)) rfl ?_
    rw [show (Y.1 10 : Int32) = nI g from hg]
    refine am_iast_r ok_M_gets rfl (w := wd C Y og) (f := Y.2.1 10) rfl rfl (pk_in g 420 (by omega)) ?_
    rw [nI_clamp (show g < 2 ^ 31 by omega)]
    refine am_eq_r (q' := (25, [some (.ref 19), some (.int x), some (.int (nI m)), some (.int p)], [], wd C (Y.1, wd_u Y.2.1 10 (upd (Y.2.1 10) g x), Y.2.2) og)) rfl ?_
    refine am_steps_r ok_M_gets 7 (q' := (36, [some (.ref 19), some (.int x), some (.int (nI m)), some (.int p)], [.int 1], wd C (upd Y.1 10 ((Y.1 10) + 1), wd_u Y.2.1 10 (upd (Y.2.1 10) g x), Y.2.2) og)) rfl ?_
    rw [show (Y.1 10 : Int32) = nI g from hg]
    rw [show ((nI g) + 1 : Int32) = nI (g + 1) from nI_add g 1]
    refine am_zret_r ok_M_gets rfl rfl rfl rfl ?_
    first | (exfalso; omega) | exact ⟨rfl, rfl⟩
set_option maxHeartbeats 4000000 in
set_option maxRecDepth 100000 in
theorem c_M_gets_full (d : Nat) (C : wd_C) (Y : wd_Y) (og : Nat → Int64) (m : Nat) (hg : Y.1 10 = nI m) (hm : m < 420) (x p : Int32) : am_Mt l D cA ad fm (d + 1) m_M_gets [.ref 19, .int x, .int (nI m), .int p] (wd C Y og) (fun vr w' => vr = some (.int 0) ∧ w' = wd C (upd (upd Y.1 7 3) 8 p, Y.2) og) := by
  refine am_mt ok_M_gets (by simp [am_arg, Value.category, m_M_gets, am_ml]) ?_
  refine am_eq_r (q' := (0, [some (.ref 19), some (.int x), some (.int (nI m)), some (.int p)], [], wd C Y og)) rfl ?_
  refine am_steps_r ok_M_gets 4 (q' := (bif decide ((Y.1 10) = (nI m)) then 8 else 15, [some (.ref 19), some (.int x), some (.int (nI m)), some (.int p)], [], wd C Y og)) rfl ?_
  rw [show (Y.1 10 : Int32) = nI m from hg]
  refine am_br_r (fun h_1 => ?_) (fun h_1 => ?_)
  · skip
    have h_1 : m = m := (nI_eq (show m < 2 ^ 31 by omega) (show m < 2 ^ 31 by omega)).mp h_1
    refine am_steps_r ok_M_gets 3 (q' := (11, [some (.ref 19), some (.int x), some (.int (nI m)), some (.int p)], [.int p, .int 3, .ref 19], wd C Y og)) rfl ?_
    refine am_callV_r (As := [.int 3, .int p]) (rest := []) ok_M_gets rfl rfl ok_M_fails oi_M_fails lk_6_139 (Or.inl ⟨_, _, _, rfl, rfl, rfl⟩) rfl rfl (Nat.le_of_ble_eq_true rfl) (c_M_fails _ C Y og 3 p) ?_
    rintro v_ w_ ⟨rfl, rfl⟩ -
    refine am_eq_r (q' := (14, [some (.ref 19), some (.int x), some (.int (nI m)), some (.int p)], [.int 0], wd C (upd (upd Y.1 7 3) 8 p, Y.2) og)) rfl ?_
    refine am_zret_r ok_M_gets rfl rfl rfl rfl ?_
    first | (exfalso; omega) | exact ⟨rfl, rfl⟩
  · skip
    have h_1 : ¬ m = m := fun z => h_1 ((nI_eq (show m < 2 ^ 31 by omega) (show m < 2 ^ 31 by omega)).mpr z)
    exfalso; omega
set_option maxHeartbeats 4000000 in
set_option maxRecDepth 100000 in
theorem lp_M_keepBytes_45 (d : Nat) (C : wd_C) (Y : wd_Y) (og : Nat → Int64) (nv u : Nat) (hV : vsy Y nv u) (v g : Nat) (hv : v < nv) (hg : Y.1 10 = nI g) (hgm : g ≤ 420) (hug : u + g ≤ 2000) (p : Int32) : ∀ (fu : Nat) (post : Option Value → am_W → Prop) (i : Nat), (i ≤ g) →  post (some (.int 1)) (wd C (yKeep Y v u g) og) → g - i < fu → am_Rn l D cA ad fm (d + 1) m_M_keepBytes (wd C Y og).length post (45, [some (.ref 19), some (.int (nI v)), some (.int p), some (.int (nI i))], [], wd C (Y.1, wd_u (wd_u (wd_u Y.2.1 7 (upd (Y.2.1 7) v (nI u))) 8 (upd (Y.2.1 8) v (nI g))) 9 (va_cpy (Y.2.1 10) (Y.2.1 9) 0 u i), Y.2.2) og) := by
  intro fu
  induction fu with
  | zero => intro post i hi hp hfu; exact absurd hfu (Nat.not_lt_zero _)
  | succ fu ih =>
    intro post i hi hp hfu
    have hv1 := hV.2.1
    have hv2 := hV.2.2.2
    refine am_steps_r ok_M_keepBytes 4 (q' := (bif decide ((Y.1 10) ≤ (nI i)) then 76 else 53, [some (.ref 19), some (.int (nI v)), some (.int p), some (.int (nI i))], [], wd C (Y.1, wd_u (wd_u (wd_u Y.2.1 7 (upd (Y.2.1 7) v (nI u))) 8 (upd (Y.2.1 8) v (nI g))) 9 (va_cpy (Y.2.1 10) (Y.2.1 9) 0 u i), Y.2.2) og)) rfl ?_
    rw [show (Y.1 10 : Int32) = nI g from hg]
    refine am_br_r (fun h_1 => ?_) (fun h_1 => ?_)
    · skip
      have h_1 : g ≤ i := (nI_leI (show g < 2 ^ 31 by omega) (show i < 2 ^ 31 by omega)).mp h_1
      refine am_steps_r ok_M_keepBytes 8 (q' := (90, [some (.ref 19), some (.int (nI v)), some (.int p), some (.int (nI i))], [.int 1], wd C (upd Y.1 5 ((Y.1 5) + (Y.1 10)), wd_u (wd_u (wd_u Y.2.1 7 (upd (Y.2.1 7) v (nI u))) 8 (upd (Y.2.1 8) v (nI g))) 9 (va_cpy (Y.2.1 10) (Y.2.1 9) 0 u i), Y.2.2) og)) rfl ?_
      rw [show (Y.1 5 : Int32) = nI u from hV.2.2.1]
      rw [show (Y.1 10 : Int32) = nI g from hg]
      rw [show ((nI u) + (nI g) : Int32) = nI (u + g) from nI_add u g]
      refine am_zret_r ok_M_keepBytes rfl rfl rfl rfl ?_
      have e : i = g := by omega
      subst e
      exact hp
    · skip
      have h_1 : ¬ g ≤ i := fun z => h_1 ((nI_leI (show g < 2 ^ 31 by omega) (show i < 2 ^ 31 by omega)).mpr z)
      refine am_steps_r ok_M_keepBytes 9 (q' := (68, [some (.ref 19), some (.int (nI v)), some (.int p), some (.int (nI i))], [.int (nI i), .ref 31, .int ((Y.1 5) + (nI i)), .ref 30], wd C (Y.1, wd_u (wd_u (wd_u Y.2.1 7 (upd (Y.2.1 7) v (nI u))) 8 (upd (Y.2.1 8) v (nI g))) 9 (va_cpy (Y.2.1 10) (Y.2.1 9) 0 u i), Y.2.2) og)) rfl ?_
      rw [show (Y.1 5 : Int32) = nI u from hV.2.2.1]
      rw [show ((nI u) + (nI i) : Int32) = nI (u + i) from nI_add u i]
      refine am_iald_r ok_M_keepBytes rfl (w := wd C (Y.1, wd_u (wd_u (wd_u Y.2.1 7 (upd (Y.2.1 7) v (nI u))) 8 (upd (Y.2.1 8) v (nI g))) 9 (va_cpy (Y.2.1 10) (Y.2.1 9) 0 u i), Y.2.2) og) (f := Y.2.1 10) rfl rfl (pk_in i 420 (by omega)) ?_
      rw [nI_clamp (show i < 2 ^ 31 by omega)]
      refine am_iast_r ok_M_keepBytes rfl (w := wd C (Y.1, wd_u (wd_u (wd_u Y.2.1 7 (upd (Y.2.1 7) v (nI u))) 8 (upd (Y.2.1 8) v (nI g))) 9 (va_cpy (Y.2.1 10) (Y.2.1 9) 0 u i), Y.2.2) og) (f := (va_cpy (Y.2.1 10) (Y.2.1 9) 0 u i)) rfl rfl (pk_in (u + i) 2000 (by omega)) ?_
      rw [nI_clamp (show (u + i) < 2 ^ 31 by omega)]
      refine am_eq_r (q' := (70, [some (.ref 19), some (.int (nI v)), some (.int p), some (.int (nI i))], [], wd C (Y.1, wd_u (wd_u (wd_u Y.2.1 7 (upd (Y.2.1 7) v (nI u))) 8 (upd (Y.2.1 8) v (nI g))) 9 (upd (va_cpy (Y.2.1 10) (Y.2.1 9) 0 u i) (u + i) (Y.2.1 10 i)), Y.2.2) og)) rfl ?_
      refine am_steps_r ok_M_keepBytes 2 (q' := (45, [some (.ref 19), some (.int (nI v)), some (.int p), some (.int ((nI i) + 1))], [], wd C (Y.1, wd_u (wd_u (wd_u Y.2.1 7 (upd (Y.2.1 7) v (nI u))) 8 (upd (Y.2.1 8) v (nI g))) 9 (upd (va_cpy (Y.2.1 10) (Y.2.1 9) 0 u i) (u + i) (Y.2.1 10 i)), Y.2.2) og)) rfl ?_
      rw [show ((nI i) + 1 : Int32) = nI (i + 1) from nI_add i 1]
      rw [cpy_s]
      exact ih post (i + 1) (by omega) hp (by omega)
set_option maxHeartbeats 4000000 in
set_option maxRecDepth 100000 in
theorem c_M_keepBytes (d : Nat) (C : wd_C) (Y : wd_Y) (og : Nat → Int64) (nv u : Nat) (hV : vsy Y nv u) (v g : Nat) (hv : v < nv) (hg : Y.1 10 = nI g) (hgm : g ≤ 420) (hug : u + g ≤ 2000) (p : Int32) : am_Mt l D cA ad fm (d + 1) m_M_keepBytes [.ref 19, .int (nI v), .int p] (wd C Y og) (fun vr w' => vr = some (.int 1) ∧ w' = wd C (yKeep Y v u g) og) := by
  have hv1 := hV.2.1
  have hv2 := hV.2.2.2
  refine am_mt ok_M_keepBytes (by simp [am_arg, Value.category, m_M_keepBytes, am_ml]) ?_
  refine am_eq_r (q' := (0, [some (.ref 19), some (.int (nI v)), some (.int p), none], [], wd C Y og)) rfl ?_
  refine am_steps_r ok_M_keepBytes 7 (q' := (bif decide (((Y.1 5) + (Y.1 10)) ≤ 2000) then 23 else 15, [some (.ref 19), some (.int (nI v)), some (.int p), none], [], wd C Y og)) rfl ?_
  rw [show (Y.1 5 : Int32) = nI u from hV.2.2.1]
  rw [show (Y.1 10 : Int32) = nI g from hg]
  rw [show ((nI u) + (nI g) : Int32) = nI (u + g) from nI_add u g]
  refine am_br_r (fun h_1 => ?_) (fun h_1 => ?_)
  · skip
    have h_1 : (u + g) ≤ 2000 := (nI_leI (show (u + g) < 2 ^ 31 by omega) (show 2000 < 2 ^ 31 by omega)).mp h_1
    refine am_steps_r ok_M_keepBytes 5 (q' := (32, [some (.ref 19), some (.int (nI v)), some (.int p), none], [.int (Y.1 5), .int (nI v), .ref 28], wd C Y og)) rfl ?_
    rw [show (Y.1 5 : Int32) = nI u from hV.2.2.1]
    refine am_iast_r ok_M_keepBytes rfl (w := wd C Y og) (f := Y.2.1 7) rfl rfl (pk_in v 300 (by omega)) ?_
    rw [nI_clamp (show v < 2 ^ 31 by omega)]
    refine am_eq_r (q' := (33, [some (.ref 19), some (.int (nI v)), some (.int p), none], [], wd C (Y.1, wd_u Y.2.1 7 (upd (Y.2.1 7) v (nI u)), Y.2.2) og)) rfl ?_
    refine am_steps_r ok_M_keepBytes 5 (q' := (42, [some (.ref 19), some (.int (nI v)), some (.int p), none], [.int (Y.1 10), .int (nI v), .ref 29], wd C (Y.1, wd_u Y.2.1 7 (upd (Y.2.1 7) v (nI u)), Y.2.2) og)) rfl ?_
    rw [show (Y.1 10 : Int32) = nI g from hg]
    refine am_iast_r ok_M_keepBytes rfl (w := wd C (Y.1, wd_u Y.2.1 7 (upd (Y.2.1 7) v (nI u)), Y.2.2) og) (f := Y.2.1 8) rfl rfl (pk_in v 300 (by omega)) ?_
    rw [nI_clamp (show v < 2 ^ 31 by omega)]
    refine am_eq_r (q' := (43, [some (.ref 19), some (.int (nI v)), some (.int p), none], [], wd C (Y.1, wd_u (wd_u Y.2.1 7 (upd (Y.2.1 7) v (nI u))) 8 (upd (Y.2.1 8) v (nI g)), Y.2.2) og)) rfl ?_
    refine am_steps_r ok_M_keepBytes 2 (q' := (45, [some (.ref 19), some (.int (nI v)), some (.int p), some (.int 0)], [], wd C (Y.1, wd_u (wd_u Y.2.1 7 (upd (Y.2.1 7) v (nI u))) 8 (upd (Y.2.1 8) v (nI g)), Y.2.2) og)) rfl ?_
    refine am_eq_r (q' := (45, [some (.ref 19), some (.int (nI v)), some (.int p), some (.int 0)], [], wd C (Y.1, wd_u (wd_u (wd_u Y.2.1 7 (upd (Y.2.1 7) v (nI u))) 8 (upd (Y.2.1 8) v (nI g))) 9 (Y.2.1 9), Y.2.2) og)) rfl ?_
    have e0 : Y.2.1 9 = va_cpy (Y.2.1 10) (Y.2.1 9) 0 u 0 := cpy_0.symm
    refine am_eq_r (q' := (45, [some (.ref 19), some (.int (nI v)), some (.int p), some (.int (nI 0))], [], wd C (Y.1, wd_u (wd_u (wd_u Y.2.1 7 (upd (Y.2.1 7) v (nI u))) 8 (upd (Y.2.1 8) v (nI g))) 9 (va_cpy (Y.2.1 10) (Y.2.1 9) 0 u 0), Y.2.2) og)) (by rw [cpy_0]; rfl) ?_
    exact lp_M_keepBytes_45 d C Y og nv u hV v g hv hg hgm hug p (g + 1) _ 0 (Nat.zero_le _) ⟨rfl, rfl⟩ (by omega)
  · skip
    have h_1 : ¬ (u + g) ≤ 2000 := fun z => h_1 ((nI_leI (show (u + g) < 2 ^ 31 by omega) (show 2000 < 2 ^ 31 by omega)).mpr z)
    exfalso; omega
end C32
