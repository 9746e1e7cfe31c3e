/-! a key leaves its dictionary: the component; printed by wip/gen/g35.py -/
def vDel (C : wd_C) (d t : Nat) (bf : Option Nat) (la : Bool) : wd_C := (C.1, fun j => if j = 5 then (match bf with
    | none => upd (C.2.1 5) d (C.2.1 7 t)
    | some _ => C.2.1 5) else if j = 7 then (match bf with
    | none => C.2.1 7
    | some q => upd (C.2.1 7) q (C.2.1 7 t)) else if j = 6 then (match la with
    | true => upd (C.2.1 6) d (oN bf)
    | false => C.2.1 6) else if j = 4 then upd (C.2.1 4) d (C.2.1 4 d - 2) else C.2.1 j, C.2.2)
theorem gl_or {a : Nat} {r : List Nat} {bf : Option Nat} : (r.getLast?.or (some a)) = ((a :: r).getLast?.or bf) := by
  cases r with
  | nil => simp
  | cons b r =>
    rw [List.getLast?_cons_cons]
    cases h : (b :: r).getLast? with
    | none => simp at h
    | some z => rfl
section C35
variable {l : Launch} {D : va_G} {cA : Nat → ClassId} {ad : Nat → Nat} {fm : Value}
set_option maxHeartbeats 4000000 in
set_option maxRecDepth 100000 in
theorem tl_V_removeKey_ny (d : Nat) (C : wd_C) (Y : wd_Y) (og : Nat → Int64) (nv u : Nat) (hV : vsz C nv u) (dc t : Nat) (hd : dc < nv) (ht : t < nv) (hla : C.2.1 6 dc = nI t) (post : Option Value → am_W → Prop) (hp : post none (wd (vDel C dc t none true) Y og)) : am_Rn l D cA ad fm (d + 1) m_V_removeKey (wd C Y og).length post (71, [some (.ref 3), some (.int (nI dc)), some (.int (nI t)), some (.int (-1)), some (.int (nI t)), none], [], wd C Y og) := by
  have hv1 := hV.2.1
  have hv2 := hV.2.2.2
  refine am_steps_r ok_V_removeKey 3 (q' := (bif decide ((nI t) = (nI t)) then 78 else 77, [some (.ref 3), some (.int (nI dc)), some (.int (nI t)), some (.int (-1)), some (.int (nI t)), none], [], wd C Y og)) rfl ?_
  refine am_br_r (fun h_1 => ?_) (fun h_1 => ?_)
  · skip
    have h_1 : t = t := (nI_eq (show t < 2 ^ 31 by omega) (show t < 2 ^ 31 by omega)).mp h_1
    refine am_steps_r ok_V_removeKey 2 (q' := (80, [some (.ref 3), some (.int (nI dc)), some (.int (nI t)), some (.int (-1)), some (.int (nI t)), none], [.int (-1), .ref 3], wd C Y og)) rfl ?_
    refine am_callV_r (As := [.int (-1)]) (rest := []) ok_V_removeKey rfl rfl ok_V_has oi_V_has lk_3_60 (Or.inl ⟨_, _, _, rfl, rfl, rfl⟩) rfl rfl (Nat.le_of_ble_eq_true rfl) (c_V_has_m _ C Y og nv u hV) ?_
    rintro v_ w_ ⟨rfl, rfl⟩ -
    refine am_eq_r (q' := (83, [some (.ref 3), some (.int (nI dc)), some (.int (nI t)), some (.int (-1)), some (.int (nI t)), none], [.int 0], wd C Y og)) rfl ?_
    refine am_steps_r ok_V_removeKey 7 (q' := (111, [some (.ref 3), some (.int (nI dc)), some (.int (nI t)), some (.int (-1)), some (.int (nI t)), none], [.int (nI t), .ref 11, .int (nI dc), .ref 9], wd C Y og)) rfl ?_
    refine am_iald_r ok_V_removeKey rfl (w := wd C Y og) (f := C.2.1 7) rfl rfl (pk_in t 300 (by omega)) ?_
    rw [nI_clamp (show t < 2 ^ 31 by omega)]
    refine am_iast_r ok_V_removeKey rfl (w := wd C Y og) (f := C.2.1 5) rfl rfl (pk_in dc 300 (by omega)) ?_
    rw [nI_clamp (show dc < 2 ^ 31 by omega)]
    refine am_eq_r (q' := (113, [some (.ref 3), some (.int (nI dc)), some (.int (nI t)), some (.int (-1)), some (.int (nI t)), none], [], wd (C.1, wd_u C.2.1 5 (upd (C.2.1 5) dc (C.2.1 7 t)), C.2.2) Y og)) rfl ?_
    refine am_steps_r ok_V_removeKey 3 (q' := (118, [some (.ref 3), some (.int (nI dc)), some (.int (nI t)), some (.int (-1)), some (.int (nI t)), none], [.int (nI dc), .ref 10], wd (C.1, wd_u C.2.1 5 (upd (C.2.1 5) dc (C.2.1 7 t)), C.2.2) Y og)) rfl ?_
    refine am_iald_r ok_V_removeKey rfl (w := wd (C.1, wd_u C.2.1 5 (upd (C.2.1 5) dc (C.2.1 7 t)), C.2.2) Y og) (f := C.2.1 6) rfl rfl (pk_in dc 300 (by omega)) ?_
    rw [nI_clamp (show dc < 2 ^ 31 by omega)]
    rw [hla]
    refine am_steps_r ok_V_removeKey 2 (q' := (bif decide ((nI t) = (nI t)) then 123 else 130, [some (.ref 3), some (.int (nI dc)), some (.int (nI t)), some (.int (-1)), some (.int (nI t)), none], [], wd (C.1, wd_u C.2.1 5 (upd (C.2.1 5) dc (C.2.1 7 t)), C.2.2) Y og)) rfl ?_
    refine am_br_r (fun h_3 => ?_) (fun h_3 => ?_)
    · skip
      have h_3 : t = t := (nI_eq (show t < 2 ^ 31 by omega) (show t < 2 ^ 31 by omega)).mp h_3
      refine am_steps_r ok_V_removeKey 4 (q' := (129, [some (.ref 3), some (.int (nI dc)), some (.int (nI t)), some (.int (-1)), some (.int (nI t)), none], [.int (-1), .int (nI dc), .ref 10], wd (C.1, wd_u C.2.1 5 (upd (C.2.1 5) dc (C.2.1 7 t)), C.2.2) Y og)) rfl ?_
      refine am_iast_r ok_V_removeKey rfl (w := wd (C.1, wd_u C.2.1 5 (upd (C.2.1 5) dc (C.2.1 7 t)), C.2.2) Y og) (f := C.2.1 6) rfl rfl (pk_in dc 300 (by omega)) ?_
      rw [nI_clamp (show dc < 2 ^ 31 by omega)]
      refine am_eq_r (q' := (130, [some (.ref 3), some (.int (nI dc)), some (.int (nI t)), some (.int (-1)), some (.int (nI t)), none], [], wd (C.1, wd_u (wd_u C.2.1 5 (upd (C.2.1 5) dc (C.2.1 7 t))) 6 (upd (C.2.1 6) dc (-1)), C.2.2) Y og)) rfl ?_
      refine am_steps_r ok_V_removeKey 4 (q' := (136, [some (.ref 3), some (.int (nI dc)), some (.int (nI t)), some (.int (-1)), some (.int (nI t)), none], [.int (nI dc), .ref 8, .int (nI dc), .ref 8], wd (C.1, wd_u (wd_u C.2.1 5 (upd (C.2.1 5) dc (C.2.1 7 t))) 6 (upd (C.2.1 6) dc (-1)), C.2.2) Y og)) rfl ?_
      refine am_iald_r ok_V_removeKey rfl (w := wd (C.1, wd_u (wd_u C.2.1 5 (upd (C.2.1 5) dc (C.2.1 7 t))) 6 (upd (C.2.1 6) dc (-1)), C.2.2) Y og) (f := C.2.1 4) rfl rfl (pk_in dc 300 (by omega)) ?_
      rw [nI_clamp (show dc < 2 ^ 31 by omega)]
      refine am_steps_r ok_V_removeKey 2 (q' := (139, [some (.ref 3), some (.int (nI dc)), some (.int (nI t)), some (.int (-1)), some (.int (nI t)), none], [.int ((C.2.1 4 dc) - 2), .int (nI dc), .ref 8], wd (C.1, wd_u (wd_u C.2.1 5 (upd (C.2.1 5) dc (C.2.1 7 t))) 6 (upd (C.2.1 6) dc (-1)), C.2.2) Y og)) rfl ?_
      refine am_iast_r ok_V_removeKey rfl (w := wd (C.1, wd_u (wd_u C.2.1 5 (upd (C.2.1 5) dc (C.2.1 7 t))) 6 (upd (C.2.1 6) dc (-1)), C.2.2) Y og) (f := C.2.1 4) rfl rfl (pk_in dc 300 (by omega)) ?_
      rw [nI_clamp (show dc < 2 ^ 31 by omega)]
      refine am_eq_r (q' := (140, [some (.ref 3), some (.int (nI dc)), some (.int (nI t)), some (.int (-1)), some (.int (nI t)), none], [], wd (C.1, wd_u (wd_u (wd_u C.2.1 5 (upd (C.2.1 5) dc (C.2.1 7 t))) 6 (upd (C.2.1 6) dc (-1))) 4 (upd (C.2.1 4) dc ((C.2.1 4 dc) - 2)), C.2.2) Y og)) rfl ?_
      refine am_vret_r ok_V_removeKey rfl rfl rfl ?_
      first | exact hp | (exfalso; omega)
    · skip
      have h_3 : ¬ t = t := fun z => h_3 ((nI_eq (show t < 2 ^ 31 by omega) (show t < 2 ^ 31 by omega)).mpr z)
      refine am_steps_r ok_V_removeKey 4 (q' := (136, [some (.ref 3), some (.int (nI dc)), some (.int (nI t)), some (.int (-1)), some (.int (nI t)), none], [.int (nI dc), .ref 8, .int (nI dc), .ref 8], wd (C.1, wd_u C.2.1 5 (upd (C.2.1 5) dc (C.2.1 7 t)), C.2.2) Y og)) rfl ?_
      refine am_iald_r ok_V_removeKey rfl (w := wd (C.1, wd_u C.2.1 5 (upd (C.2.1 5) dc (C.2.1 7 t)), C.2.2) Y og) (f := C.2.1 4) rfl rfl (pk_in dc 300 (by omega)) ?_
      rw [nI_clamp (show dc < 2 ^ 31 by omega)]
      refine am_steps_r ok_V_removeKey 2 (q' := (139, [some (.ref 3), some (.int (nI dc)), some (.int (nI t)), some (.int (-1)), some (.int (nI t)), none], [.int ((C.2.1 4 dc) - 2), .int (nI dc), .ref 8], wd (C.1, wd_u C.2.1 5 (upd (C.2.1 5) dc (C.2.1 7 t)), C.2.2) Y og)) rfl ?_
      refine am_iast_r ok_V_removeKey rfl (w := wd (C.1, wd_u C.2.1 5 (upd (C.2.1 5) dc (C.2.1 7 t)), C.2.2) Y og) (f := C.2.1 4) rfl rfl (pk_in dc 300 (by omega)) ?_
      rw [nI_clamp (show dc < 2 ^ 31 by omega)]
      refine am_eq_r (q' := (140, [some (.ref 3), some (.int (nI dc)), some (.int (nI t)), some (.int (-1)), some (.int (nI t)), none], [], wd (C.1, wd_u (wd_u C.2.1 5 (upd (C.2.1 5) dc (C.2.1 7 t))) 4 (upd (C.2.1 4) dc ((C.2.1 4 dc) - 2)), C.2.2) Y og)) rfl ?_
      refine am_vret_r ok_V_removeKey rfl rfl rfl ?_
      first | exact hp | (exfalso; omega)
  · skip
    have h_1 : ¬ t = t := fun z => h_1 ((nI_eq (show t < 2 ^ 31 by omega) (show t < 2 ^ 31 by omega)).mpr z)
    exfalso; omega
set_option maxHeartbeats 4000000 in
set_option maxRecDepth 100000 in
theorem tl_V_removeKey_nn (d : Nat) (C : wd_C) (Y : wd_Y) (og : Nat → Int64) (nv u : Nat) (hV : vsz C nv u) (dc t : Nat) (hd : dc < nv) (ht : t < nv) (y : Nat) (hz0 : y < 300) (hz : y ≠ t) (hla : C.2.1 6 dc = nI y) (post : Option Value → am_W → Prop) (hp : post none (wd (vDel C dc t none false) Y og)) : am_Rn l D cA ad fm (d + 1) m_V_removeKey (wd C Y og).length post (71, [some (.ref 3), some (.int (nI dc)), some (.int (nI t)), some (.int (-1)), some (.int (nI t)), none], [], wd C Y og) := by
  have hv1 := hV.2.1
  have hv2 := hV.2.2.2
  refine am_steps_r ok_V_removeKey 3 (q' := (bif decide ((nI t) = (nI t)) then 78 else 77, [some (.ref 3), some (.int (nI dc)), some (.int (nI t)), some (.int (-1)), some (.int (nI t)), none], [], wd C Y og)) rfl ?_
  refine am_br_r (fun h_1 => ?_) (fun h_1 => ?_)
  · skip
    have h_1 : t = t := (nI_eq (show t < 2 ^ 31 by omega) (show t < 2 ^ 31 by omega)).mp h_1
    refine am_steps_r ok_V_removeKey 2 (q' := (80, [some (.ref 3), some (.int (nI dc)), some (.int (nI t)), some (.int (-1)), some (.int (nI t)), none], [.int (-1), .ref 3], wd C Y og)) rfl ?_
    refine am_callV_r (As := [.int (-1)]) (rest := []) ok_V_removeKey rfl rfl ok_V_has oi_V_has lk_3_60 (Or.inl ⟨_, _, _, rfl, rfl, rfl⟩) rfl rfl (Nat.le_of_ble_eq_true rfl) (c_V_has_m _ C Y og nv u hV) ?_
    rintro v_ w_ ⟨rfl, rfl⟩ -
    refine am_eq_r (q' := (83, [some (.ref 3), some (.int (nI dc)), some (.int (nI t)), some (.int (-1)), some (.int (nI t)), none], [.int 0], wd C Y og)) rfl ?_
    refine am_steps_r ok_V_removeKey 7 (q' := (111, [some (.ref 3), some (.int (nI dc)), some (.int (nI t)), some (.int (-1)), some (.int (nI t)), none], [.int (nI t), .ref 11, .int (nI dc), .ref 9], wd C Y og)) rfl ?_
    refine am_iald_r ok_V_removeKey rfl (w := wd C Y og) (f := C.2.1 7) rfl rfl (pk_in t 300 (by omega)) ?_
    rw [nI_clamp (show t < 2 ^ 31 by omega)]
    refine am_iast_r ok_V_removeKey rfl (w := wd C Y og) (f := C.2.1 5) rfl rfl (pk_in dc 300 (by omega)) ?_
    rw [nI_clamp (show dc < 2 ^ 31 by omega)]
    refine am_eq_r (q' := (113, [some (.ref 3), some (.int (nI dc)), some (.int (nI t)), some (.int (-1)), some (.int (nI t)), none], [], wd (C.1, wd_u C.2.1 5 (upd (C.2.1 5) dc (C.2.1 7 t)), C.2.2) Y og)) rfl ?_
    refine am_steps_r ok_V_removeKey 3 (q' := (118, [some (.ref 3), some (.int (nI dc)), some (.int (nI t)), some (.int (-1)), some (.int (nI t)), none], [.int (nI dc), .ref 10], wd (C.1, wd_u C.2.1 5 (upd (C.2.1 5) dc (C.2.1 7 t)), C.2.2) Y og)) rfl ?_
    refine am_iald_r ok_V_removeKey rfl (w := wd (C.1, wd_u C.2.1 5 (upd (C.2.1 5) dc (C.2.1 7 t)), C.2.2) Y og) (f := C.2.1 6) rfl rfl (pk_in dc 300 (by omega)) ?_
    rw [nI_clamp (show dc < 2 ^ 31 by omega)]
    rw [hla]
    refine am_steps_r ok_V_removeKey 2 (q' := (bif decide ((nI y) = (nI t)) then 123 else 130, [some (.ref 3), some (.int (nI dc)), some (.int (nI t)), some (.int (-1)), some (.int (nI t)), none], [], wd (C.1, wd_u C.2.1 5 (upd (C.2.1 5) dc (C.2.1 7 t)), C.2.2) Y og)) rfl ?_
    refine am_br_r (fun h_3 => ?_) (fun h_3 => ?_)
    · skip
      have h_3 : y = t := (nI_eq (show y < 2 ^ 31 by omega) (show t < 2 ^ 31 by omega)).mp h_3
      refine am_steps_r ok_V_removeKey 4 (q' := (129, [some (.ref 3), some (.int (nI dc)), some (.int (nI t)), some (.int (-1)), some (.int (nI t)), none], [.int (-1), .int (nI dc), .ref 10], wd (C.1, wd_u C.2.1 5 (upd (C.2.1 5) dc (C.2.1 7 t)), C.2.2) Y og)) rfl ?_
      refine am_iast_r ok_V_removeKey rfl (w := wd (C.1, wd_u C.2.1 5 (upd (C.2.1 5) dc (C.2.1 7 t)), C.2.2) Y og) (f := C.2.1 6) rfl rfl (pk_in dc 300 (by omega)) ?_
      rw [nI_clamp (show dc < 2 ^ 31 by omega)]
      refine am_eq_r (q' := (130, [some (.ref 3), some (.int (nI dc)), some (.int (nI t)), some (.int (-1)), some (.int (nI t)), none], [], wd (C.1, wd_u (wd_u C.2.1 5 (upd (C.2.1 5) dc (C.2.1 7 t))) 6 (upd (C.2.1 6) dc (-1)), C.2.2) Y og)) rfl ?_
      refine am_steps_r ok_V_removeKey 4 (q' := (136, [some (.ref 3), some (.int (nI dc)), some (.int (nI t)), some (.int (-1)), some (.int (nI t)), none], [.int (nI dc), .ref 8, .int (nI dc), .ref 8], wd (C.1, wd_u (wd_u C.2.1 5 (upd (C.2.1 5) dc (C.2.1 7 t))) 6 (upd (C.2.1 6) dc (-1)), C.2.2) Y og)) rfl ?_
      refine am_iald_r ok_V_removeKey rfl (w := wd (C.1, wd_u (wd_u C.2.1 5 (upd (C.2.1 5) dc (C.2.1 7 t))) 6 (upd (C.2.1 6) dc (-1)), C.2.2) Y og) (f := C.2.1 4) rfl rfl (pk_in dc 300 (by omega)) ?_
      rw [nI_clamp (show dc < 2 ^ 31 by omega)]
      refine am_steps_r ok_V_removeKey 2 (q' := (139, [some (.ref 3), some (.int (nI dc)), some (.int (nI t)), some (.int (-1)), some (.int (nI t)), none], [.int ((C.2.1 4 dc) - 2), .int (nI dc), .ref 8], wd (C.1, wd_u (wd_u C.2.1 5 (upd (C.2.1 5) dc (C.2.1 7 t))) 6 (upd (C.2.1 6) dc (-1)), C.2.2) Y og)) rfl ?_
      refine am_iast_r ok_V_removeKey rfl (w := wd (C.1, wd_u (wd_u C.2.1 5 (upd (C.2.1 5) dc (C.2.1 7 t))) 6 (upd (C.2.1 6) dc (-1)), C.2.2) Y og) (f := C.2.1 4) rfl rfl (pk_in dc 300 (by omega)) ?_
      rw [nI_clamp (show dc < 2 ^ 31 by omega)]
      refine am_eq_r (q' := (140, [some (.ref 3), some (.int (nI dc)), some (.int (nI t)), some (.int (-1)), some (.int (nI t)), none], [], wd (C.1, wd_u (wd_u (wd_u C.2.1 5 (upd (C.2.1 5) dc (C.2.1 7 t))) 6 (upd (C.2.1 6) dc (-1))) 4 (upd (C.2.1 4) dc ((C.2.1 4 dc) - 2)), C.2.2) Y og)) rfl ?_
      refine am_vret_r ok_V_removeKey rfl rfl rfl ?_
      first | exact hp | (exfalso; omega)
    · skip
      have h_3 : ¬ y = t := fun z => h_3 ((nI_eq (show y < 2 ^ 31 by omega) (show t < 2 ^ 31 by omega)).mpr z)
      refine am_steps_r ok_V_removeKey 4 (q' := (136, [some (.ref 3), some (.int (nI dc)), some (.int (nI t)), some (.int (-1)), some (.int (nI t)), none], [.int (nI dc), .ref 8, .int (nI dc), .ref 8], wd (C.1, wd_u C.2.1 5 (upd (C.2.1 5) dc (C.2.1 7 t)), C.2.2) Y og)) rfl ?_
      refine am_iald_r ok_V_removeKey rfl (w := wd (C.1, wd_u C.2.1 5 (upd (C.2.1 5) dc (C.2.1 7 t)), C.2.2) Y og) (f := C.2.1 4) rfl rfl (pk_in dc 300 (by omega)) ?_
      rw [nI_clamp (show dc < 2 ^ 31 by omega)]
      refine am_steps_r ok_V_removeKey 2 (q' := (139, [some (.ref 3), some (.int (nI dc)), some (.int (nI t)), some (.int (-1)), some (.int (nI t)), none], [.int ((C.2.1 4 dc) - 2), .int (nI dc), .ref 8], wd (C.1, wd_u C.2.1 5 (upd (C.2.1 5) dc (C.2.1 7 t)), C.2.2) Y og)) rfl ?_
      refine am_iast_r ok_V_removeKey rfl (w := wd (C.1, wd_u C.2.1 5 (upd (C.2.1 5) dc (C.2.1 7 t)), C.2.2) Y og) (f := C.2.1 4) rfl rfl (pk_in dc 300 (by omega)) ?_
      rw [nI_clamp (show dc < 2 ^ 31 by omega)]
      refine am_eq_r (q' := (140, [some (.ref 3), some (.int (nI dc)), some (.int (nI t)), some (.int (-1)), some (.int (nI t)), none], [], wd (C.1, wd_u (wd_u C.2.1 5 (upd (C.2.1 5) dc (C.2.1 7 t))) 4 (upd (C.2.1 4) dc ((C.2.1 4 dc) - 2)), C.2.2) Y og)) rfl ?_
      refine am_vret_r ok_V_removeKey rfl rfl rfl ?_
      first | exact hp | (exfalso; omega)
  · skip
    have h_1 : ¬ t = t := fun z => h_1 ((nI_eq (show t < 2 ^ 31 by omega) (show t < 2 ^ 31 by omega)).mpr z)
    exfalso; omega
set_option maxHeartbeats 4000000 in
set_option maxRecDepth 100000 in
theorem tl_V_removeKey_sy (d : Nat) (C : wd_C) (Y : wd_Y) (og : Nat → Int64) (nv u : Nat) (hV : vsz C nv u) (dc t : Nat) (hd : dc < nv) (ht : t < nv) (q : Nat) (hq : q < nv) (hla : C.2.1 6 dc = nI t) (post : Option Value → am_W → Prop) (hp : post none (wd (vDel C dc t (some q) true) Y og)) : am_Rn l D cA ad fm (d + 1) m_V_removeKey (wd C Y og).length post (71, [some (.ref 3), some (.int (nI dc)), some (.int (nI t)), some (.int (nI q)), some (.int (nI t)), none], [], wd C Y og) := by
  have hv1 := hV.2.1
  have hv2 := hV.2.2.2
  refine am_steps_r ok_V_removeKey 3 (q' := (bif decide ((nI t) = (nI t)) then 78 else 77, [some (.ref 3), some (.int (nI dc)), some (.int (nI t)), some (.int (nI q)), some (.int (nI t)), none], [], wd C Y og)) rfl ?_
  refine am_br_r (fun h_1 => ?_) (fun h_1 => ?_)
  · skip
    have h_1 : t = t := (nI_eq (show t < 2 ^ 31 by omega) (show t < 2 ^ 31 by omega)).mp h_1
    refine am_steps_r ok_V_removeKey 2 (q' := (80, [some (.ref 3), some (.int (nI dc)), some (.int (nI t)), some (.int (nI q)), some (.int (nI t)), none], [.int (nI q), .ref 3], wd C Y og)) rfl ?_
    refine am_callV_r (As := [.int (nI q)]) (rest := []) ok_V_removeKey rfl rfl ok_V_has oi_V_has lk_3_60 (Or.inl ⟨_, _, _, rfl, rfl, rfl⟩) rfl rfl (Nat.le_of_ble_eq_true rfl) (c_V_has_in _ C Y og nv u hV q (by omega)) ?_
    rintro v_ w_ ⟨rfl, rfl⟩ -
    refine am_eq_r (q' := (83, [some (.ref 3), some (.int (nI dc)), some (.int (nI t)), some (.int (nI q)), some (.int (nI t)), none], [.int 1], wd C Y og)) rfl ?_
    refine am_steps_r ok_V_removeKey 7 (q' := (96, [some (.ref 3), some (.int (nI dc)), some (.int (nI t)), some (.int (nI q)), some (.int (nI t)), none], [.int (nI t), .ref 11, .int (nI q), .ref 11], wd C Y og)) rfl ?_
    refine am_iald_r ok_V_removeKey rfl (w := wd C Y og) (f := C.2.1 7) rfl rfl (pk_in t 300 (by omega)) ?_
    rw [nI_clamp (show t < 2 ^ 31 by omega)]
    refine am_iast_r ok_V_removeKey rfl (w := wd C Y og) (f := C.2.1 7) rfl rfl (pk_in q 300 (by omega)) ?_
    rw [nI_clamp (show q < 2 ^ 31 by omega)]
    refine am_eq_r (q' := (98, [some (.ref 3), some (.int (nI dc)), some (.int (nI t)), some (.int (nI q)), some (.int (nI t)), none], [], wd (C.1, wd_u C.2.1 7 (upd (C.2.1 7) q (C.2.1 7 t)), C.2.2) Y og)) rfl ?_
    refine am_steps_r ok_V_removeKey 4 (q' := (118, [some (.ref 3), some (.int (nI dc)), some (.int (nI t)), some (.int (nI q)), some (.int (nI t)), none], [.int (nI dc), .ref 10], wd (C.1, wd_u C.2.1 7 (upd (C.2.1 7) q (C.2.1 7 t)), C.2.2) Y og)) rfl ?_
    refine am_iald_r ok_V_removeKey rfl (w := wd (C.1, wd_u C.2.1 7 (upd (C.2.1 7) q (C.2.1 7 t)), C.2.2) Y og) (f := C.2.1 6) rfl rfl (pk_in dc 300 (by omega)) ?_
    rw [nI_clamp (show dc < 2 ^ 31 by omega)]
    rw [hla]
    refine am_steps_r ok_V_removeKey 2 (q' := (bif decide ((nI t) = (nI t)) then 123 else 130, [some (.ref 3), some (.int (nI dc)), some (.int (nI t)), some (.int (nI q)), some (.int (nI t)), none], [], wd (C.1, wd_u C.2.1 7 (upd (C.2.1 7) q (C.2.1 7 t)), C.2.2) Y og)) rfl ?_
    refine am_br_r (fun h_3 => ?_) (fun h_3 => ?_)
    · skip
      have h_3 : t = t := (nI_eq (show t < 2 ^ 31 by omega) (show t < 2 ^ 31 by omega)).mp h_3
      refine am_steps_r ok_V_removeKey 4 (q' := (129, [some (.ref 3), some (.int (nI dc)), some (.int (nI t)), some (.int (nI q)), some (.int (nI t)), none], [.int (nI q), .int (nI dc), .ref 10], wd (C.1, wd_u C.2.1 7 (upd (C.2.1 7) q (C.2.1 7 t)), C.2.2) Y og)) rfl ?_
      refine am_iast_r ok_V_removeKey rfl (w := wd (C.1, wd_u C.2.1 7 (upd (C.2.1 7) q (C.2.1 7 t)), C.2.2) Y og) (f := C.2.1 6) rfl rfl (pk_in dc 300 (by omega)) ?_
      rw [nI_clamp (show dc < 2 ^ 31 by omega)]
      refine am_eq_r (q' := (130, [some (.ref 3), some (.int (nI dc)), some (.int (nI t)), some (.int (nI q)), some (.int (nI t)), none], [], wd (C.1, wd_u (wd_u C.2.1 7 (upd (C.2.1 7) q (C.2.1 7 t))) 6 (upd (C.2.1 6) dc (nI q)), C.2.2) Y og)) rfl ?_
      refine am_steps_r ok_V_removeKey 4 (q' := (136, [some (.ref 3), some (.int (nI dc)), some (.int (nI t)), some (.int (nI q)), some (.int (nI t)), none], [.int (nI dc), .ref 8, .int (nI dc), .ref 8], wd (C.1, wd_u (wd_u C.2.1 7 (upd (C.2.1 7) q (C.2.1 7 t))) 6 (upd (C.2.1 6) dc (nI q)), C.2.2) Y og)) rfl ?_
      refine am_iald_r ok_V_removeKey rfl (w := wd (C.1, wd_u (wd_u C.2.1 7 (upd (C.2.1 7) q (C.2.1 7 t))) 6 (upd (C.2.1 6) dc (nI q)), C.2.2) Y og) (f := C.2.1 4) rfl rfl (pk_in dc 300 (by omega)) ?_
      rw [nI_clamp (show dc < 2 ^ 31 by omega)]
      refine am_steps_r ok_V_removeKey 2 (q' := (139, [some (.ref 3), some (.int (nI dc)), some (.int (nI t)), some (.int (nI q)), some (.int (nI t)), none], [.int ((C.2.1 4 dc) - 2), .int (nI dc), .ref 8], wd (C.1, wd_u (wd_u C.2.1 7 (upd (C.2.1 7) q (C.2.1 7 t))) 6 (upd (C.2.1 6) dc (nI q)), C.2.2) Y og)) rfl ?_
      refine am_iast_r ok_V_removeKey rfl (w := wd (C.1, wd_u (wd_u C.2.1 7 (upd (C.2.1 7) q (C.2.1 7 t))) 6 (upd (C.2.1 6) dc (nI q)), C.2.2) Y og) (f := C.2.1 4) rfl rfl (pk_in dc 300 (by omega)) ?_
      rw [nI_clamp (show dc < 2 ^ 31 by omega)]
      refine am_eq_r (q' := (140, [some (.ref 3), some (.int (nI dc)), some (.int (nI t)), some (.int (nI q)), some (.int (nI t)), none], [], wd (C.1, wd_u (wd_u (wd_u C.2.1 7 (upd (C.2.1 7) q (C.2.1 7 t))) 6 (upd (C.2.1 6) dc (nI q))) 4 (upd (C.2.1 4) dc ((C.2.1 4 dc) - 2)), C.2.2) Y og)) rfl ?_
      refine am_vret_r ok_V_removeKey rfl rfl rfl ?_
      first | exact hp | (exfalso; omega)
    · skip
      have h_3 : ¬ t = t := fun z => h_3 ((nI_eq (show t < 2 ^ 31 by omega) (show t < 2 ^ 31 by omega)).mpr z)
      refine am_steps_r ok_V_removeKey 4 (q' := (136, [some (.ref 3), some (.int (nI dc)), some (.int (nI t)), some (.int (nI q)), some (.int (nI t)), none], [.int (nI dc), .ref 8, .int (nI dc), .ref 8], wd (C.1, wd_u C.2.1 7 (upd (C.2.1 7) q (C.2.1 7 t)), C.2.2) Y og)) rfl ?_
      refine am_iald_r ok_V_removeKey rfl (w := wd (C.1, wd_u C.2.1 7 (upd (C.2.1 7) q (C.2.1 7 t)), C.2.2) Y og) (f := C.2.1 4) rfl rfl (pk_in dc 300 (by omega)) ?_
      rw [nI_clamp (show dc < 2 ^ 31 by omega)]
      refine am_steps_r ok_V_removeKey 2 (q' := (139, [some (.ref 3), some (.int (nI dc)), some (.int (nI t)), some (.int (nI q)), some (.int (nI t)), none], [.int ((C.2.1 4 dc) - 2), .int (nI dc), .ref 8], wd (C.1, wd_u C.2.1 7 (upd (C.2.1 7) q (C.2.1 7 t)), C.2.2) Y og)) rfl ?_
      refine am_iast_r ok_V_removeKey rfl (w := wd (C.1, wd_u C.2.1 7 (upd (C.2.1 7) q (C.2.1 7 t)), C.2.2) Y og) (f := C.2.1 4) rfl rfl (pk_in dc 300 (by omega)) ?_
      rw [nI_clamp (show dc < 2 ^ 31 by omega)]
      refine am_eq_r (q' := (140, [some (.ref 3), some (.int (nI dc)), some (.int (nI t)), some (.int (nI q)), some (.int (nI t)), none], [], wd (C.1, wd_u (wd_u C.2.1 7 (upd (C.2.1 7) q (C.2.1 7 t))) 4 (upd (C.2.1 4) dc ((C.2.1 4 dc) - 2)), C.2.2) Y og)) rfl ?_
      refine am_vret_r ok_V_removeKey rfl rfl rfl ?_
      first | exact hp | (exfalso; omega)
  · skip
    have h_1 : ¬ t = t := fun z => h_1 ((nI_eq (show t < 2 ^ 31 by omega) (show t < 2 ^ 31 by omega)).mpr z)
    exfalso; omega
set_option maxHeartbeats 4000000 in
set_option maxRecDepth 100000 in
theorem tl_V_removeKey_sn (d : Nat) (C : wd_C) (Y : wd_Y) (og : Nat → Int64) (nv u : Nat) (hV : vsz C nv u) (dc t : Nat) (hd : dc < nv) (ht : t < nv) (q : Nat) (hq : q < nv) (y : Nat) (hz0 : y < 300) (hz : y ≠ t) (hla : C.2.1 6 dc = nI y) (post : Option Value → am_W → Prop) (hp : post none (wd (vDel C dc t (some q) false) Y og)) : am_Rn l D cA ad fm (d + 1) m_V_removeKey (wd C Y og).length post (71, [some (.ref 3), some (.int (nI dc)), some (.int (nI t)), some (.int (nI q)), some (.int (nI t)), none], [], wd C Y og) := by
  have hv1 := hV.2.1
  have hv2 := hV.2.2.2
  refine am_steps_r ok_V_removeKey 3 (q' := (bif decide ((nI t) = (nI t)) then 78 else 77, [some (.ref 3), some (.int (nI dc)), some (.int (nI t)), some (.int (nI q)), some (.int (nI t)), none], [], wd C Y og)) rfl ?_
  refine am_br_r (fun h_1 => ?_) (fun h_1 => ?_)
  · skip
    have h_1 : t = t := (nI_eq (show t < 2 ^ 31 by omega) (show t < 2 ^ 31 by omega)).mp h_1
    refine am_steps_r ok_V_removeKey 2 (q' := (80, [some (.ref 3), some (.int (nI dc)), some (.int (nI t)), some (.int (nI q)), some (.int (nI t)), none], [.int (nI q), .ref 3], wd C Y og)) rfl ?_
    refine am_callV_r (As := [.int (nI q)]) (rest := []) ok_V_removeKey rfl rfl ok_V_has oi_V_has lk_3_60 (Or.inl ⟨_, _, _, rfl, rfl, rfl⟩) rfl rfl (Nat.le_of_ble_eq_true rfl) (c_V_has_in _ C Y og nv u hV q (by omega)) ?_
    rintro v_ w_ ⟨rfl, rfl⟩ -
    refine am_eq_r (q' := (83, [some (.ref 3), some (.int (nI dc)), some (.int (nI t)), some (.int (nI q)), some (.int (nI t)), none], [.int 1], wd C Y og)) rfl ?_
    refine am_steps_r ok_V_removeKey 7 (q' := (96, [some (.ref 3), some (.int (nI dc)), some (.int (nI t)), some (.int (nI q)), some (.int (nI t)), none], [.int (nI t), .ref 11, .int (nI q), .ref 11], wd C Y og)) rfl ?_
    refine am_iald_r ok_V_removeKey rfl (w := wd C Y og) (f := C.2.1 7) rfl rfl (pk_in t 300 (by omega)) ?_
    rw [nI_clamp (show t < 2 ^ 31 by omega)]
    refine am_iast_r ok_V_removeKey rfl (w := wd C Y og) (f := C.2.1 7) rfl rfl (pk_in q 300 (by omega)) ?_
    rw [nI_clamp (show q < 2 ^ 31 by omega)]
    refine am_eq_r (q' := (98, [some (.ref 3), some (.int (nI dc)), some (.int (nI t)), some (.int (nI q)), some (.int (nI t)), none], [], wd (C.1, wd_u C.2.1 7 (upd (C.2.1 7) q (C.2.1 7 t)), C.2.2) Y og)) rfl ?_
    refine am_steps_r ok_V_removeKey 4 (q' := (118, [some (.ref 3), some (.int (nI dc)), some (.int (nI t)), some (.int (nI q)), some (.int (nI t)), none], [.int (nI dc), .ref 10], wd (C.1, wd_u C.2.1 7 (upd (C.2.1 7) q (C.2.1 7 t)), C.2.2) Y og)) rfl ?_
    refine am_iald_r ok_V_removeKey rfl (w := wd (C.1, wd_u C.2.1 7 (upd (C.2.1 7) q (C.2.1 7 t)), C.2.2) Y og) (f := C.2.1 6) rfl rfl (pk_in dc 300 (by omega)) ?_
    rw [nI_clamp (show dc < 2 ^ 31 by omega)]
    rw [hla]
    refine am_steps_r ok_V_removeKey 2 (q' := (bif decide ((nI y) = (nI t)) then 123 else 130, [some (.ref 3), some (.int (nI dc)), some (.int (nI t)), some (.int (nI q)), some (.int (nI t)), none], [], wd (C.1, wd_u C.2.1 7 (upd (C.2.1 7) q (C.2.1 7 t)), C.2.2) Y og)) rfl ?_
    refine am_br_r (fun h_3 => ?_) (fun h_3 => ?_)
    · skip
      have h_3 : y = t := (nI_eq (show y < 2 ^ 31 by omega) (show t < 2 ^ 31 by omega)).mp h_3
      refine am_steps_r ok_V_removeKey 4 (q' := (129, [some (.ref 3), some (.int (nI dc)), some (.int (nI t)), some (.int (nI q)), some (.int (nI t)), none], [.int (nI q), .int (nI dc), .ref 10], wd (C.1, wd_u C.2.1 7 (upd (C.2.1 7) q (C.2.1 7 t)), C.2.2) Y og)) rfl ?_
      refine am_iast_r ok_V_removeKey rfl (w := wd (C.1, wd_u C.2.1 7 (upd (C.2.1 7) q (C.2.1 7 t)), C.2.2) Y og) (f := C.2.1 6) rfl rfl (pk_in dc 300 (by omega)) ?_
      rw [nI_clamp (show dc < 2 ^ 31 by omega)]
      refine am_eq_r (q' := (130, [some (.ref 3), some (.int (nI dc)), some (.int (nI t)), some (.int (nI q)), some (.int (nI t)), none], [], wd (C.1, wd_u (wd_u C.2.1 7 (upd (C.2.1 7) q (C.2.1 7 t))) 6 (upd (C.2.1 6) dc (nI q)), C.2.2) Y og)) rfl ?_
      refine am_steps_r ok_V_removeKey 4 (q' := (136, [some (.ref 3), some (.int (nI dc)), some (.int (nI t)), some (.int (nI q)), some (.int (nI t)), none], [.int (nI dc), .ref 8, .int (nI dc), .ref 8], wd (C.1, wd_u (wd_u C.2.1 7 (upd (C.2.1 7) q (C.2.1 7 t))) 6 (upd (C.2.1 6) dc (nI q)), C.2.2) Y og)) rfl ?_
      refine am_iald_r ok_V_removeKey rfl (w := wd (C.1, wd_u (wd_u C.2.1 7 (upd (C.2.1 7) q (C.2.1 7 t))) 6 (upd (C.2.1 6) dc (nI q)), C.2.2) Y og) (f := C.2.1 4) rfl rfl (pk_in dc 300 (by omega)) ?_
      rw [nI_clamp (show dc < 2 ^ 31 by omega)]
      refine am_steps_r ok_V_removeKey 2 (q' := (139, [some (.ref 3), some (.int (nI dc)), some (.int (nI t)), some (.int (nI q)), some (.int (nI t)), none], [.int ((C.2.1 4 dc) - 2), .int (nI dc), .ref 8], wd (C.1, wd_u (wd_u C.2.1 7 (upd (C.2.1 7) q (C.2.1 7 t))) 6 (upd (C.2.1 6) dc (nI q)), C.2.2) Y og)) rfl ?_
      refine am_iast_r ok_V_removeKey rfl (w := wd (C.1, wd_u (wd_u C.2.1 7 (upd (C.2.1 7) q (C.2.1 7 t))) 6 (upd (C.2.1 6) dc (nI q)), C.2.2) Y og) (f := C.2.1 4) rfl rfl (pk_in dc 300 (by omega)) ?_
      rw [nI_clamp (show dc < 2 ^ 31 by omega)]
      refine am_eq_r (q' := (140, [some (.ref 3), some (.int (nI dc)), some (.int (nI t)), some (.int (nI q)), some (.int (nI t)), none], [], wd (C.1, wd_u (wd_u (wd_u C.2.1 7 (upd (C.2.1 7) q (C.2.1 7 t))) 6 (upd (C.2.1 6) dc (nI q))) 4 (upd (C.2.1 4) dc ((C.2.1 4 dc) - 2)), C.2.2) Y og)) rfl ?_
      refine am_vret_r ok_V_removeKey rfl rfl rfl ?_
      first | exact hp | (exfalso; omega)
    · skip
      have h_3 : ¬ y = t := fun z => h_3 ((nI_eq (show y < 2 ^ 31 by omega) (show t < 2 ^ 31 by omega)).mpr z)
      refine am_steps_r ok_V_removeKey 4 (q' := (136, [some (.ref 3), some (.int (nI dc)), some (.int (nI t)), some (.int (nI q)), some (.int (nI t)), none], [.int (nI dc), .ref 8, .int (nI dc), .ref 8], wd (C.1, wd_u C.2.1 7 (upd (C.2.1 7) q (C.2.1 7 t)), C.2.2) Y og)) rfl ?_
      refine am_iald_r ok_V_removeKey rfl (w := wd (C.1, wd_u C.2.1 7 (upd (C.2.1 7) q (C.2.1 7 t)), C.2.2) Y og) (f := C.2.1 4) rfl rfl (pk_in dc 300 (by omega)) ?_
      rw [nI_clamp (show dc < 2 ^ 31 by omega)]
      refine am_steps_r ok_V_removeKey 2 (q' := (139, [some (.ref 3), some (.int (nI dc)), some (.int (nI t)), some (.int (nI q)), some (.int (nI t)), none], [.int ((C.2.1 4 dc) - 2), .int (nI dc), .ref 8], wd (C.1, wd_u C.2.1 7 (upd (C.2.1 7) q (C.2.1 7 t)), C.2.2) Y og)) rfl ?_
      refine am_iast_r ok_V_removeKey rfl (w := wd (C.1, wd_u C.2.1 7 (upd (C.2.1 7) q (C.2.1 7 t)), C.2.2) Y og) (f := C.2.1 4) rfl rfl (pk_in dc 300 (by omega)) ?_
      rw [nI_clamp (show dc < 2 ^ 31 by omega)]
      refine am_eq_r (q' := (140, [some (.ref 3), some (.int (nI dc)), some (.int (nI t)), some (.int (nI q)), some (.int (nI t)), none], [], wd (C.1, wd_u (wd_u C.2.1 7 (upd (C.2.1 7) q (C.2.1 7 t))) 4 (upd (C.2.1 4) dc ((C.2.1 4 dc) - 2)), C.2.2) Y og)) rfl ?_
      refine am_vret_r ok_V_removeKey rfl rfl rfl ?_
      first | exact hp | (exfalso; omega)
  · skip
    have h_1 : ¬ t = t := fun z => h_1 ((nI_eq (show t < 2 ^ 31 by omega) (show t < 2 ^ 31 by omega)).mpr z)
    exfalso; omega
set_option maxHeartbeats 4000000 in
set_option maxRecDepth 100000 in
theorem lp_V_removeKey_30 (d : Nat) (C : wd_C) (Y : wd_Y) (og : Nat → Int64) (nv u : Nat) (hV : vsz C nv u) (dc t : Nat) (hd : dc < nv) (ht : t < nv) (l2 : List Nat) : ∀ (r1 : List Nat) (post : Option Value → am_W → Prop) (bf : Option Nat) (i0 : Nat) (x : Int32), (∀ a ∈ r1, a < nv ∧ a ≠ t) → r1.length + i0 + 1 ≤ 300 → lkd (C.2.1 7) x (r1 ++ t :: l2) → am_Rn l D cA ad fm (d + 1) m_V_removeKey (wd C Y og).length post (71, [some (.ref 3), some (.int (nI dc)), some (.int (nI t)), some (.int (oN (r1.getLast?.or bf))), some (.int (nI t)), none], [], wd C Y og) → am_Rn l D cA ad fm (d + 1) m_V_removeKey (wd C Y og).length post (30, [some (.ref 3), some (.int (nI dc)), some (.int (nI t)), some (.int (oN bf)), some (.int x), some (.int (nI i0))], [], wd C Y og) := by
  have hv1 := hV.2.1
  have hv2 := hV.2.2.2
  intro r1
  induction r1 with
  | nil =>
    intro post bf i0 x hr hlen hx hp
    obtain ⟨rfl, hx2⟩ := hx
    simp only [List.length_nil] at hlen
    refine am_steps_r ok_V_removeKey 3 (q' := (bif decide (300 ≤ (nI i0)) then 71 else 38, [some (.ref 3), some (.int (nI dc)), some (.int (nI t)), some (.int (oN bf)), some (.int (nI t)), some (.int (nI i0))], [], wd C Y og)) rfl ?_
    refine am_br_r (fun h_1 => ?_) (fun h_1 => ?_)
    · skip
      have h_1 : 300 ≤ i0 := (nI_leI (show 300 < 2 ^ 31 by omega) (show i0 < 2 ^ 31 by omega)).mp h_1
      exfalso; omega
    · skip
      have h_1 : ¬ 300 ≤ i0 := fun z => h_1 ((nI_leI (show 300 < 2 ^ 31 by omega) (show i0 < 2 ^ 31 by omega)).mpr z)
      refine am_steps_r ok_V_removeKey 2 (q' := (41, [some (.ref 3), some (.int (nI dc)), some (.int (nI t)), some (.int (oN bf)), some (.int (nI t)), some (.int (nI i0))], [.int (nI t), .ref 3], wd C Y og)) rfl ?_
      refine am_callV_r (As := [.int (nI t)]) (rest := []) ok_V_removeKey rfl rfl ok_V_has oi_V_has lk_3_60 (Or.inl ⟨_, _, _, rfl, rfl, rfl⟩) rfl rfl (Nat.le_of_ble_eq_true rfl) (c_V_has_in _ C Y og nv u hV t (by omega)) ?_
      rintro v_ w_ ⟨rfl, rfl⟩ -
      refine am_eq_r (q' := (44, [some (.ref 3), some (.int (nI dc)), some (.int (nI t)), some (.int (oN bf)), some (.int (nI t)), some (.int (nI i0))], [.int 1], wd C Y og)) rfl ?_
      refine am_steps_r ok_V_removeKey 4 (q' := (bif decide ((nI t) = (nI t)) then 71 else 53, [some (.ref 3), some (.int (nI dc)), some (.int (nI t)), some (.int (oN bf)), some (.int (nI t)), some (.int (nI i0))], [], wd C Y og)) rfl ?_
      refine am_br_r (fun h_3 => ?_) (fun h_3 => ?_)
      · skip
        have h_3 : t = t := (nI_eq (show t < 2 ^ 31 by omega) (show t < 2 ^ 31 by omega)).mp h_3
        refine am_drop_r [5] (L' := [some (.ref 3), some (.int (nI dc)), some (.int (nI t)), some (.int (oN bf)), some (.int (nI t)), none]) rfl ?_
        exact hp
      · skip
        have h_3 : ¬ t = t := fun z => h_3 ((nI_eq (show t < 2 ^ 31 by omega) (show t < 2 ^ 31 by omega)).mpr z)
        exact absurd rfl h_3
  | cons a r ih =>
    intro post bf i0 x hr hlen hx hp
    obtain ⟨rfl, hx2⟩ := hx
    obtain ⟨ha1, ha2⟩ := hr a List.mem_cons_self
    simp only [List.length_cons] at hlen
    refine am_steps_r ok_V_removeKey 3 (q' := (bif decide (300 ≤ (nI i0)) then 71 else 38, [some (.ref 3), some (.int (nI dc)), some (.int (nI t)), some (.int (oN bf)), some (.int (nI a)), some (.int (nI i0))], [], wd C Y og)) rfl ?_
    refine am_br_r (fun h_4 => ?_) (fun h_4 => ?_)
    · skip
      have h_4 : 300 ≤ i0 := (nI_leI (show 300 < 2 ^ 31 by omega) (show i0 < 2 ^ 31 by omega)).mp h_4
      exfalso; first | omega | exact ha2 h_4
    · skip
      have h_4 : ¬ 300 ≤ i0 := fun z => h_4 ((nI_leI (show 300 < 2 ^ 31 by omega) (show i0 < 2 ^ 31 by omega)).mpr z)
      refine am_steps_r ok_V_removeKey 2 (q' := (41, [some (.ref 3), some (.int (nI dc)), some (.int (nI t)), some (.int (oN bf)), some (.int (nI a)), some (.int (nI i0))], [.int (nI a), .ref 3], wd C Y og)) rfl ?_
      refine am_callV_r (As := [.int (nI a)]) (rest := []) ok_V_removeKey rfl rfl ok_V_has oi_V_has lk_3_60 (Or.inl ⟨_, _, _, rfl, rfl, rfl⟩) rfl rfl (Nat.le_of_ble_eq_true rfl) (c_V_has_in _ C Y og nv u hV a (by omega)) ?_
      rintro v_ w_ ⟨rfl, rfl⟩ -
      refine am_eq_r (q' := (44, [some (.ref 3), some (.int (nI dc)), some (.int (nI t)), some (.int (oN bf)), some (.int (nI a)), some (.int (nI i0))], [.int 1], wd C Y og)) rfl ?_
      refine am_steps_r ok_V_removeKey 4 (q' := (bif decide ((nI a) = (nI t)) then 71 else 53, [some (.ref 3), some (.int (nI dc)), some (.int (nI t)), some (.int (oN bf)), some (.int (nI a)), some (.int (nI i0))], [], wd C Y og)) rfl ?_
      refine am_br_r (fun h_6 => ?_) (fun h_6 => ?_)
      · skip
        have h_6 : a = t := (nI_eq (show a < 2 ^ 31 by omega) (show t < 2 ^ 31 by omega)).mp h_6
        exfalso; first | omega | exact ha2 h_6
      · skip
        have h_6 : ¬ a = t := fun z => h_6 ((nI_eq (show a < 2 ^ 31 by omega) (show t < 2 ^ 31 by omega)).mpr z)
        refine am_steps_r ok_V_removeKey 5 (q' := (62, [some (.ref 3), some (.int (nI dc)), some (.int (nI t)), some (.int (nI a)), some (.int (nI a)), some (.int (nI i0))], [.int (nI a), .ref 11], wd C Y og)) rfl ?_
        refine am_iald_r ok_V_removeKey rfl (w := wd C Y og) (f := C.2.1 7) rfl rfl (pk_in a 300 (by omega)) ?_
        rw [nI_clamp (show a < 2 ^ 31 by omega)]
        refine am_steps_r ok_V_removeKey 3 (q' := (30, [some (.ref 3), some (.int (nI dc)), some (.int (nI t)), some (.int (nI a)), some (.int (C.2.1 7 a)), some (.int ((nI i0) + 1))], [], wd C Y og)) rfl ?_
        rw [show ((nI i0) + 1 : Int32) = nI (i0 + 1) from nI_add i0 1]
        refine ih post (some a) (i0 + 1) _ (fun z hz => hr z (List.mem_cons_of_mem _ hz)) (by omega) hx2 ?_
        rw [gl_or (bf := bf)]
        exact hp
set_option maxHeartbeats 4000000 in
set_option maxRecDepth 100000 in
theorem c_V_removeKey (d : Nat) (C : wd_C) (Y : wd_Y) (og : Nat → Int64) (nv u : Nat) (hV : vsz C nv u) (dc t : Nat) (hd : dc < nv) (ht : t < nv) (l1 l2 : List Nat) (hk : lkd (C.2.1 7) (C.2.1 5 dc) (l1 ++ t :: l2)) (hin : ∀ a ∈ l1, a < nv ∧ a ≠ t) (hin2 : ∀ a ∈ l2, a < nv ∧ a ≠ t) (hlen : l1.length + 1 ≤ 300) (hlast : C.2.1 6 dc = oN (l1 ++ t :: l2).getLast?)  : am_Mt l D cA ad fm (d + 1) m_V_removeKey [.ref 3, .int (nI dc), .int (nI t)] (wd C Y og) (fun vr w' => vr = none ∧ w' = wd (vDel C dc t l1.getLast? l2.isEmpty) Y og) := by
  have hv1 := hV.2.1
  have hv2 := hV.2.2.2
  refine am_mt ok_V_removeKey (by simp [am_arg, Value.category, m_V_removeKey, am_ml]) ?_
  refine am_eq_r (q' := (0, [some (.ref 3), some (.int (nI dc)), some (.int (nI t)), none, none, none], [], wd C Y og)) rfl ?_
  refine am_steps_r ok_V_removeKey 2 (q' := (2, [some (.ref 3), some (.int (nI dc)), some (.int (nI t)), none, none, none], [.int (nI dc), .ref 3], wd C Y og)) rfl ?_
  refine am_callV_r (As := [.int (nI dc)]) (rest := []) ok_V_removeKey rfl rfl ok_V_has oi_V_has lk_3_60 (Or.inl ⟨_, _, _, rfl, rfl, rfl⟩) rfl rfl (Nat.le_of_ble_eq_true rfl) (c_V_has_in _ C Y og nv u hV dc (by omega)) ?_
  rintro v_ w_ ⟨rfl, rfl⟩ -
  refine am_eq_r (q' := (5, [some (.ref 3), some (.int (nI dc)), some (.int (nI t)), none, none, none], [.int 1], wd C Y og)) rfl ?_
  refine am_steps_r ok_V_removeKey 3 (q' := (10, [some (.ref 3), some (.int (nI dc)), some (.int (nI t)), none, none, none], [.int (nI t), .ref 3], wd C Y og)) rfl ?_
  refine am_callV_r (As := [.int (nI t)]) (rest := []) ok_V_removeKey rfl rfl ok_V_has oi_V_has lk_3_60 (Or.inl ⟨_, _, _, rfl, rfl, rfl⟩) rfl rfl (Nat.le_of_ble_eq_true rfl) (c_V_has_in _ C Y og nv u hV t (by omega)) ?_
  rintro v_ w_ ⟨rfl, rfl⟩ -
  refine am_eq_r (q' := (13, [some (.ref 3), some (.int (nI dc)), some (.int (nI t)), none, none, none], [.int 1], wd C Y og)) rfl ?_
  refine am_steps_r ok_V_removeKey 6 (q' := (24, [some (.ref 3), some (.int (nI dc)), some (.int (nI t)), some (.int (-1)), none, none], [.int (nI dc), .ref 9], wd C Y og)) rfl ?_
  refine am_iald_r ok_V_removeKey rfl (w := wd C Y og) (f := C.2.1 5) rfl rfl (pk_in dc 300 (by omega)) ?_
  rw [nI_clamp (show dc < 2 ^ 31 by omega)]
  refine am_steps_r ok_V_removeKey 3 (q' := (30, [some (.ref 3), some (.int (nI dc)), some (.int (nI t)), some (.int (-1)), some (.int (C.2.1 5 dc)), some (.int 0)], [], wd C Y og)) rfl ?_
  refine am_eq_r (q' := (30, [some (.ref 3), some (.int (nI dc)), some (.int (nI t)), some (.int (oN none)), some (.int (C.2.1 5 dc)), some (.int (nI 0))], [], wd C Y og)) rfl ?_
  refine lp_V_removeKey_30 d C Y og nv u hV dc t hd ht l2 l1 _ none 0 _ hin (by omega) hk ?_
  have hlast2 : l2 = [] ∧ C.2.1 6 dc = nI t ∨ ∃ z, z ∈ l2 ∧ C.2.1 6 dc = nI z := by
    cases l2 with
    | nil => left; refine ⟨rfl, ?_⟩; rw [hlast]; simp [oN]
    | cons b r =>
      right
      cases hz : (b :: r).getLast? with
      | none => simp at hz
      | some z =>
        refine ⟨z, List.mem_of_getLast? hz, ?_⟩
        rw [hlast, show l1 ++ t :: b :: r = (l1 ++ [t]) ++ (b :: r) by simp, List.getLast?_append, hz]; rfl
  cases hb : l1.getLast? with
  | none =>
    rcases hlast2 with ⟨e2, h6⟩ | ⟨z, hz, h6⟩
    · exact tl_V_removeKey_ny d C Y og nv u hV dc t hd ht h6 _ ⟨rfl, by rw [e2]; rfl⟩
    · exact tl_V_removeKey_nn d C Y og nv u hV dc t hd ht z (by have := (hin2 z hz).1; omega) (hin2 z hz).2 h6 _ ⟨rfl, by cases l2 with | nil => cases hz | cons b r => rfl⟩
  | some q =>
    have hq := (hin q (List.mem_of_getLast? hb)).1
    rcases hlast2 with ⟨e2, h6⟩ | ⟨z, hz, h6⟩
    · exact tl_V_removeKey_sy d C Y og nv u hV dc t hd ht q hq h6 _ ⟨rfl, by rw [e2]; rfl⟩
    · exact tl_V_removeKey_sn d C Y og nv u hV dc t hd ht q hq z (by have := (hin2 z hz).1; omega) (hin2 z hz).2 h6 _ ⟨rfl, by cases l2 with | nil => cases hz | cons b r => rfl⟩
end C35
