/-! the reference's loop over values: its turns; printed by wip/gen/g66.py -/
section C66
variable {l : Launch} {D : va_G} {cA : Nat → ClassId} {ad : Nat → Nat} {fm : Value}
set_option maxHeartbeats 1000000 in
set_option maxRecDepth 100000 in
theorem rv_step (d : Nat) (C : wd_C) (Y : wd_Y) (og : Nat → Int64) (post : Option Value → am_W → Prop) (v0 : Int32) (h7 : Y.1 7 = 0) (Q : Option Value → am_W → Prop) (hS : am_Mt l D cA ad fm (d + 6) m_M_step [.ref 19] (wd C Y og) Q) (hK : ∀ vr w', Q vr w' → ∃ (x : Int32) (Y1 : wd_Y), vr = some (.int x) ∧ w' = wd C Y1 og ∧ am_Rn l D cA ad fm (d + 7) m_M_readValue 38 post (24, [some (.ref 19), some (.int v0), some (.int 0)], [.int x], wd C Y1 og)) : am_Rn l D cA ad fm (d + 7) m_M_readValue (wd C Y og).length post (9, [some (.ref 19), some (.int v0), some (.int 0)], [], wd C Y og) := by
  skip
  refine am_steps_r ok_M_readValue 5 (q' := (bif decide ((Y.1 7) = 0) then 20 else 47, [some (.ref 19), some (.int v0), some (.int 0)], [], wd C Y og)) rfl ?_
  rw [show (Y.1 7 : Int32) = nI 0 from h7]
  refine am_br_r (fun h_1 => ?_) (fun h_1 => ?_)
  · skip
    have h_1 : 0 = 0 := (nI_eq (show 0 < 2 ^ 31 by omega) (show 0 < 2 ^ 31 by omega)).mp h_1
    refine am_steps_r ok_M_readValue 1 (q' := (21, [some (.ref 19), some (.int v0), some (.int 0)], [.ref 19], wd C Y og)) rfl ?_
    refine am_callV_r (As := []) (rest := []) ok_M_readValue rfl rfl ok_M_step oi_M_step lk_6_227 (Or.inl ⟨_, _, _, rfl, rfl, rfl⟩) rfl rfl (Nat.le_of_ble_eq_true rfl) hS ?_
    rintro v_ w_ hq_ -
    obtain ⟨x, Y1, rfl, rfl, hR⟩ := hK _ _ hq_
    exact hR
  · skip
    have h_1 : ¬ 0 = 0 := fun z => h_1 ((nI_eq (show 0 < 2 ^ 31 by omega) (show 0 < 2 ^ 31 by omega)).mpr z)
    exfalso; omega
set_option maxHeartbeats 1000000 in
set_option maxRecDepth 100000 in
theorem rv_none (d : Nat) (C : wd_C) (Y : wd_Y) (og : Nat → Int64) (post : Option Value → am_W → Prop) (v1 : Int32) (hR : am_Rn l D cA ad fm (d + 7) m_M_readValue 38 post (9, [some (.ref 19), some (.int (-1)), some (.int 0)], [], wd C Y og)) : am_Rn l D cA ad fm (d + 7) m_M_readValue (wd C Y og).length post (24, [some (.ref 19), some (.int v1), some (.int 0)], [.int (-1)], wd C Y og) := by
  skip
  refine am_steps_r ok_M_readValue 7 (q' := (9, [some (.ref 19), some (.int (-1)), some (.int 0)], [], wd C Y og)) rfl ?_
  exact hR
set_option maxHeartbeats 1000000 in
set_option maxRecDepth 100000 in
theorem rv_del (d : Nat) (C : wd_C) (Y : wd_Y) (og : Nat → Int64) (post : Option Value → am_W → Prop) (v1 : Int32) (x : Nat) (hx : x < 300) (Q : Option Value → am_W → Prop) (hS : am_Mt l D cA ad fm (d + 6) m_M_deliver [.ref 19, .int (nI x)] (wd C Y og) Q) (hK : ∀ vr w', Q vr w' → ∃ Y1 : wd_Y, vr = some (.int 0) ∧ w' = wd C Y1 og ∧ am_Rn l D cA ad fm (d + 7) m_M_readValue 38 post (9, [some (.ref 19), some (.int (nI x)), some (.int 0)], [], wd C Y1 og)) : am_Rn l D cA ad fm (d + 7) m_M_readValue (wd C Y og).length post (24, [some (.ref 19), some (.int v1), some (.int 0)], [.int (nI x)], wd C Y og) := by
  skip
  refine am_steps_r ok_M_readValue 4 (q' := (bif decide ((nI x) = (-1)) then 42 else 30, [some (.ref 19), some (.int (nI x)), some (.int 0)], [], wd C Y og)) rfl ?_
  refine am_br_r (fun h_1 => ?_) (fun h_1 => ?_)
  · skip
    exact absurd h_1 (nI_nm (show x < 2 ^ 31 by omega))
  · skip
    refine am_steps_r ok_M_readValue 2 (q' := (32, [some (.ref 19), some (.int (nI x)), some (.int 0)], [.int (nI x), .ref 19], wd C Y og)) rfl ?_
    refine am_callV_r (As := [.int (nI x)]) (rest := []) ok_M_readValue rfl rfl ok_M_deliver oi_M_deliver lk_6_230 (Or.inl ⟨_, _, _, rfl, rfl, rfl⟩) rfl rfl (Nat.le_of_ble_eq_true rfl) hS ?_
    rintro v_ w_ hq_ -
    obtain ⟨Y1, rfl, rfl, hR⟩ := hK _ _ hq_
    refine am_eq_r (q' := (35, [some (.ref 19), some (.int (nI x)), some (.int 0)], [.int 0], wd C Y1 og)) rfl ?_
    refine am_steps_r ok_M_readValue 4 (q' := (9, [some (.ref 19), some (.int (nI x)), some (.int 0)], [], wd C Y1 og)) rfl ?_
    exact hR
set_option maxHeartbeats 1000000 in
set_option maxRecDepth 100000 in
theorem rv_done (d : Nat) (C : wd_C) (Y : wd_Y) (og : Nat → Int64) (post : Option Value → am_W → Prop) (v1 : Int32) (nv u : Nat) (V : VT) (hY : vsY Y nv u V) (x : Nat) (hx : x < nv) (hd : Y.1 12 = nI 0) (h7 : Y.1 7 = 0) (hp : post (some (.int (nI x))) (wd C Y og)) : am_Rn l D cA ad fm (d + 7) m_M_readValue (wd C Y og).length post (24, [some (.ref 19), some (.int v1), some (.int 0)], [.int (nI x)], wd C Y og) := by
  have hnv := hY.1.2.1
  refine am_steps_r ok_M_readValue 4 (q' := (bif decide ((nI x) = (-1)) then 42 else 30, [some (.ref 19), some (.int (nI x)), some (.int 0)], [], wd C Y og)) rfl ?_
  refine am_br_r (fun h_1 => ?_) (fun h_1 => ?_)
  · skip
    exact absurd h_1 (nI_nm (show x < 2 ^ 31 by omega))
  · skip
    refine am_steps_r ok_M_readValue 2 (q' := (32, [some (.ref 19), some (.int (nI x)), some (.int 0)], [.int (nI x), .ref 19], wd C Y og)) rfl ?_
    refine am_callV_r (As := [.int (nI x)]) (rest := []) ok_M_readValue rfl rfl ok_M_deliver oi_M_deliver lk_6_230 (Or.inl ⟨_, _, _, rfl, rfl, rfl⟩) rfl rfl (Nat.le_of_ble_eq_true rfl) (c_M_deliver_0 _ C Y og nv u V hY x hx hd) ?_
    rintro v_ w_ ⟨rfl, rfl⟩ -
    refine am_eq_r (q' := (35, [some (.ref 19), some (.int (nI x)), some (.int 0)], [.int 1], wd C Y og)) rfl ?_
    refine am_steps_r ok_M_readValue 5 (q' := (9, [some (.ref 19), some (.int (nI x)), some (.int 1)], [], wd C Y og)) rfl ?_
    refine am_steps_r ok_M_readValue 5 (q' := (bif decide ((Y.1 7) = 0) then 54 else 58, [some (.ref 19), some (.int (nI x)), some (.int 1)], [], wd C Y og)) rfl ?_
    rw [show (Y.1 7 : Int32) = nI 0 from h7]
    refine am_br_r (fun h_3 => ?_) (fun h_3 => ?_)
    · skip
      have h_3 : 0 = 0 := (nI_eq (show 0 < 2 ^ 31 by omega) (show 0 < 2 ^ 31 by omega)).mp h_3
      refine am_steps_r ok_M_readValue 2 (q' := (59, [some (.ref 19), some (.int (nI x)), some (.int 1)], [.int (nI x)], wd C Y og)) rfl ?_
      refine am_iret_r ok_M_readValue rfl rfl rfl ?_
      exact hp
    · skip
      have h_3 : ¬ 0 = 0 := fun z => h_3 ((nI_eq (show 0 < 2 ^ 31 by omega) (show 0 < 2 ^ 31 by omega)).mpr z)
      exfalso; omega
set_option maxHeartbeats 1000000 in
set_option maxRecDepth 100000 in
theorem rv_fault (d : Nat) (C : wd_C) (Y : wd_Y) (og : Nat → Int64) (post : Option Value → am_W → Prop) (hc : ¬ Y.1 7 = 0) (hp : post (some (.int (-1))) (wd C Y og)) : am_Rn l D cA ad fm (d + 7) m_M_readValue (wd C Y og).length post (9, [some (.ref 19), some (.int (-1)), some (.int 0)], [], wd C Y og) := by
  skip
  refine am_steps_r ok_M_readValue 5 (q' := (bif decide ((Y.1 7) = 0) then 20 else 47, [some (.ref 19), some (.int (-1)), some (.int 0)], [], wd C Y og)) rfl ?_
  refine am_br_r (fun h_1 => ?_) (fun h_1 => ?_)
  · skip
    exact absurd h_1 hc
  · skip
    refine am_steps_r ok_M_readValue 3 (q' := (bif decide ((Y.1 7) = 0) then 54 else 58, [some (.ref 19), some (.int (-1)), some (.int 0)], [], wd C Y og)) rfl ?_
    refine am_br_r (fun h_2 => ?_) (fun h_2 => ?_)
    · skip
      first | contradiction | (exfalso; simp_all; done)
    · skip
      refine am_steps_r ok_M_readValue 1 (q' := (59, [some (.ref 19), some (.int (-1)), some (.int 0)], [.int (-1)], wd C Y og)) rfl ?_
      refine am_iret_r ok_M_readValue rfl rfl rfl ?_
      exact hp
end C66
