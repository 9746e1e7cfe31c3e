/-! the reference enters a key: printed by wip/gen/g38.py -/
def yDelE (Y : wd_Y) (v : Nat) (bf rs : Option Nat) : wd_Y := (upd Y.1 9 (Y.1 9 ||| 2), fun j => if j = 3 then (match bf with
    | none => upd (Y.2.1 3) v (oN rs)
    | some _ => Y.2.1 3) else if j = 5 then (match bf with
    | none => Y.2.1 5
    | some q => upd (Y.2.1 5) q (oN rs)) else if j = 4 then upd (Y.2.1 4) v (match rs with
    | none => oN bf
    | some _ => Y.2.1 4 v) else if j = 6 then upd (Y.2.1 6) v (Y.2.1 6 v - 2) else Y.2.1 j, Y.2.2)
def ySetE (Y : wd_Y) (v t x : Nat) (rs : Option Nat) : wd_Y := (upd Y.1 9 (Y.1 9 ||| 2), fun j => if j = 5 then upd (upd (Y.2.1 5) t (nI x)) x (oN rs) else if j = 4 then upd (Y.2.1 4) v (match rs with
    | none => nI x
    | some _ => Y.2.1 4 v) else Y.2.1 j, Y.2.2)
section C38
variable {l : Launch} {D : va_G} {cA : Nat → ClassId} {ad : Nat → Nat} {fm : Value}
set_option maxHeartbeats 4000000 in
set_option maxRecDepth 100000 in
theorem tl_M_enter_1 (d : Nat) (C : wd_C) (Y : wd_Y) (og : Nat → Int64) (nv u : Nat) (hV : vsy Y nv u) (v k x : Nat) (hv : v < nv) (hk : k < nv) (hx : x < nv) (bv : Int32) (hkx : Y.2.1 2 x = 0) (post : Option Value → am_W → Prop) (hp : post none (wd C Y og)) : am_Rn l D cA ad fm (d + 1) m_M_enter (wd C Y og).length post (48, [some (.ref 19), some (.int (nI v)), some (.int (nI k)), some (.int (nI x)), some (.int bv), some (.int (-1)), none, none], [], wd C Y og) := by
  have hv1 := hV.2.1
  have hv2 := hV.2.2.2
  refine am_steps_r ok_M_enter 6 (q' := (59, [some (.ref 19), some (.int (nI v)), some (.int (nI k)), some (.int (nI x)), some (.int bv), some (.int (-1)), none, none], [.int (nI x), .ref 22], wd C Y og)) rfl ?_
  refine am_iald_r ok_M_enter rfl (w := wd C Y og) (f := Y.2.1 2) rfl rfl (pk_in x 300 (by omega)) ?_
  rw [nI_clamp (show x < 2 ^ 31 by omega)]
  refine am_steps_r ok_M_enter 1 (q' := (bif decide ((Y.2.1 2 x) = 0) then 75 else 63, [some (.ref 19), some (.int (nI v)), some (.int (nI k)), some (.int (nI x)), some (.int bv), some (.int (-1)), none, none], [], wd C Y og)) rfl ?_
  refine am_br_r (fun h_1 => ?_) (fun h_1 => ?_)
  · skip
    refine am_vret_r ok_M_enter rfl rfl rfl ?_
    exact hp
  · skip
    exact absurd hkx h_1
set_option maxHeartbeats 4000000 in
set_option maxRecDepth 100000 in
theorem tl_M_enter_2n (d : Nat) (C : wd_C) (Y : wd_Y) (og : Nat → Int64) (nv u : Nat) (hV : vsy Y nv u) (v k x : Nat) (hv : v < nv) (hk : k < nv) (hx : x < nv) (bv : Int32) (hkx : ¬ Y.2.1 2 x = 0) (h3 : Y.2.1 3 v = -1) (post : Option Value → am_W → Prop) (hp : post none (wd C (yApp (yApp Y v k none) v x (some k)) og)) : am_Rn l D cA ad fm (d + 1) m_M_enter (wd C Y og).length post (48, [some (.ref 19), some (.int (nI v)), some (.int (nI k)), some (.int (nI x)), some (.int bv), some (.int (-1)), none, none], [], wd C Y og) := by
  have hv1 := hV.2.1
  have hv2 := hV.2.2.2
  refine am_steps_r ok_M_enter 6 (q' := (59, [some (.ref 19), some (.int (nI v)), some (.int (nI k)), some (.int (nI x)), some (.int bv), some (.int (-1)), none, none], [.int (nI x), .ref 22], wd C Y og)) rfl ?_
  refine am_iald_r ok_M_enter rfl (w := wd C Y og) (f := Y.2.1 2) rfl rfl (pk_in x 300 (by omega)) ?_
  rw [nI_clamp (show x < 2 ^ 31 by omega)]
  refine am_steps_r ok_M_enter 1 (q' := (bif decide ((Y.2.1 2 x) = 0) then 75 else 63, [some (.ref 19), some (.int (nI v)), some (.int (nI k)), some (.int (nI x)), some (.int bv), some (.int (-1)), none, none], [], wd C Y og)) rfl ?_
  refine am_br_r (fun h_1 => ?_) (fun h_1 => ?_)
  · skip
    exact absurd h_1 hkx
  · skip
    refine am_steps_r ok_M_enter 3 (q' := (66, [some (.ref 19), some (.int (nI v)), some (.int (nI k)), some (.int (nI x)), some (.int bv), some (.int (-1)), none, none], [.int (nI k), .int (nI v), .ref 19], wd C Y og)) rfl ?_
    refine am_callV_r (As := [.int (nI v), .int (nI k)]) (rest := []) ok_M_enter rfl rfl ok_M_append oi_M_append lk_6_200 (Or.inl ⟨_, _, _, rfl, rfl, rfl⟩) rfl rfl (Nat.le_of_ble_eq_true rfl) (c_M_append_n _ C Y og v k (by omega) (by omega) h3) ?_
    rintro v_ w_ ⟨rfl, rfl⟩ -
    refine am_eq_r (q' := (69, [some (.ref 19), some (.int (nI v)), some (.int (nI k)), some (.int (nI x)), some (.int bv), some (.int (-1)), none, none], [], wd C (yApp Y v k none) og)) rfl ?_
    refine am_steps_r ok_M_enter 3 (q' := (72, [some (.ref 19), some (.int (nI v)), some (.int (nI k)), some (.int (nI x)), some (.int bv), some (.int (-1)), none, none], [.int (nI x), .int (nI v), .ref 19], wd C (yApp Y v k none) og)) rfl ?_
    refine am_callV_r (As := [.int (nI v), .int (nI x)]) (rest := []) ok_M_enter rfl rfl ok_M_append oi_M_append lk_6_200 (Or.inl ⟨_, _, _, rfl, rfl, rfl⟩) rfl rfl (Nat.le_of_ble_eq_true rfl) (c_M_append_s _ C (yApp Y v k none) og v x (by omega) (by omega) k k (by omega) (by omega) ((yApp_k Y v k none).2.2.2.2.2.2.2.2.2.2.2.2.2.1 rfl) (yApp_k Y v k none).2.2.2.2.2.2.2.2.2.2.2.1) ?_
    rintro v_ w_ ⟨rfl, rfl⟩ -
    refine am_eq_r (q' := (75, [some (.ref 19), some (.int (nI v)), some (.int (nI k)), some (.int (nI x)), some (.int bv), some (.int (-1)), none, none], [], wd C (yApp (yApp Y v k none) v x (some k)) og)) rfl ?_
    refine am_vret_r ok_M_enter rfl rfl rfl ?_
    exact hp
set_option maxHeartbeats 4000000 in
set_option maxRecDepth 100000 in
theorem tl_M_enter_2s (d : Nat) (C : wd_C) (Y : wd_Y) (og : Nat → Int64) (nv u : Nat) (hV : vsy Y nv u) (v k x : Nat) (hv : v < nv) (hk : k < nv) (hx : x < nv) (bv : Int32) (hkx : ¬ Y.2.1 2 x = 0) (f q : Nat) (hf0 : f < 300) (hq0 : q < 300) (h3 : Y.2.1 3 v = nI f) (h4 : Y.2.1 4 v = nI q) (post : Option Value → am_W → Prop) (hp : post none (wd C (yApp (yApp Y v k (some q)) v x (some k)) og)) : am_Rn l D cA ad fm (d + 1) m_M_enter (wd C Y og).length post (48, [some (.ref 19), some (.int (nI v)), some (.int (nI k)), some (.int (nI x)), some (.int bv), some (.int (-1)), none, none], [], wd C Y og) := by
  have hv1 := hV.2.1
  have hv2 := hV.2.2.2
  refine am_steps_r ok_M_enter 6 (q' := (59, [some (.ref 19), some (.int (nI v)), some (.int (nI k)), some (.int (nI x)), some (.int bv), some (.int (-1)), none, none], [.int (nI x), .ref 22], wd C Y og)) rfl ?_
  refine am_iald_r ok_M_enter rfl (w := wd C Y og) (f := Y.2.1 2) rfl rfl (pk_in x 300 (by omega)) ?_
  rw [nI_clamp (show x < 2 ^ 31 by omega)]
  refine am_steps_r ok_M_enter 1 (q' := (bif decide ((Y.2.1 2 x) = 0) then 75 else 63, [some (.ref 19), some (.int (nI v)), some (.int (nI k)), some (.int (nI x)), some (.int bv), some (.int (-1)), none, none], [], wd C Y og)) rfl ?_
  refine am_br_r (fun h_1 => ?_) (fun h_1 => ?_)
  · skip
    exact absurd h_1 hkx
  · skip
    refine am_steps_r ok_M_enter 3 (q' := (66, [some (.ref 19), some (.int (nI v)), some (.int (nI k)), some (.int (nI x)), some (.int bv), some (.int (-1)), none, none], [.int (nI k), .int (nI v), .ref 19], wd C Y og)) rfl ?_
    refine am_callV_r (As := [.int (nI v), .int (nI k)]) (rest := []) ok_M_enter rfl rfl ok_M_append oi_M_append lk_6_200 (Or.inl ⟨_, _, _, rfl, rfl, rfl⟩) rfl rfl (Nat.le_of_ble_eq_true rfl) (c_M_append_s _ C Y og v k (by omega) (by omega) f q hf0 hq0 h3 h4) ?_
    rintro v_ w_ ⟨rfl, rfl⟩ -
    refine am_eq_r (q' := (69, [some (.ref 19), some (.int (nI v)), some (.int (nI k)), some (.int (nI x)), some (.int bv), some (.int (-1)), none, none], [], wd C (yApp Y v k (some q)) og)) rfl ?_
    refine am_steps_r ok_M_enter 3 (q' := (72, [some (.ref 19), some (.int (nI v)), some (.int (nI k)), some (.int (nI x)), some (.int bv), some (.int (-1)), none, none], [.int (nI x), .int (nI v), .ref 19], wd C (yApp Y v k (some q)) og)) rfl ?_
    refine am_callV_r (As := [.int (nI v), .int (nI x)]) (rest := []) ok_M_enter rfl rfl ok_M_append oi_M_append lk_6_200 (Or.inl ⟨_, _, _, rfl, rfl, rfl⟩) rfl rfl (Nat.le_of_ble_eq_true rfl) (c_M_append_s _ C (yApp Y v k (some q)) og v x (by omega) (by omega) f k (by omega) (by omega) (((yApp_k Y v k (some q)).2.2.2.2.2.2.2.2.2.2.2.2.2.2.1 (by simp)).trans h3) (yApp_k Y v k (some q)).2.2.2.2.2.2.2.2.2.2.2.1) ?_
    rintro v_ w_ ⟨rfl, rfl⟩ -
    refine am_eq_r (q' := (75, [some (.ref 19), some (.int (nI v)), some (.int (nI k)), some (.int (nI x)), some (.int bv), some (.int (-1)), none, none], [], wd C (yApp (yApp Y v k (some q)) v x (some k)) og)) rfl ?_
    refine am_vret_r ok_M_enter rfl rfl rfl ?_
    exact hp
set_option maxHeartbeats 4000000 in
set_option maxRecDepth 100000 in
theorem tl_M_enter_3nn (d : Nat) (C : wd_C) (Y : wd_Y) (og : Nat → Int64) (nv u : Nat) (hV : vsy Y nv u) (v k x : Nat) (hv : v < nv) (hk : k < nv) (hx : x < nv) (t oo : Nat) (ht : t < nv) (ho : oo < nv) (hto : Y.2.1 5 t = nI oo) (hor : Y.2.1 5 oo = -1) (hkx : Y.2.1 2 x = 0) (post : Option Value → am_W → Prop) (hp : post none (wd C (yDelE Y v none none) og)) : am_Rn l D cA ad fm (d + 1) m_M_enter (wd C Y og).length post (48, [some (.ref 19), some (.int (nI v)), some (.int (nI k)), some (.int (nI x)), some (.int (-1)), some (.int (nI t)), none, none], [], wd C Y og) := by
  have hv1 := hV.2.1
  have hv2 := hV.2.2.2
  refine am_steps_r ok_M_enter 3 (q' := (bif decide ((nI t) = (-1)) then 54 else 76, [some (.ref 19), some (.int (nI v)), some (.int (nI k)), some (.int (nI x)), some (.int (-1)), some (.int (nI t)), none, none], [], wd C Y og)) rfl ?_
  refine am_br_r (fun h_1 => ?_) (fun h_1 => ?_)
  · skip
    exact absurd h_1 (nI_nm (show t < 2 ^ 31 by omega))
  · skip
    refine am_steps_r ok_M_enter 9 (q' := (92, [some (.ref 19), some (.int (nI v)), some (.int (nI k)), some (.int (nI x)), some (.int (-1)), some (.int (nI t)), none, none], [.int (nI t), .ref 26], wd C (upd Y.1 9 ((Y.1 9) ||| 2), Y.2) og)) rfl ?_
    refine am_iald_r ok_M_enter rfl (w := wd C (upd Y.1 9 ((Y.1 9) ||| 2), Y.2) og) (f := Y.2.1 5) rfl rfl (pk_in t 300 (by omega)) ?_
    rw [nI_clamp (show t < 2 ^ 31 by omega)]
    rw [hto]
    refine am_steps_r ok_M_enter 4 (q' := (101, [some (.ref 19), some (.int (nI v)), some (.int (nI k)), some (.int (nI x)), some (.int (-1)), some (.int (nI t)), some (.int (nI oo)), none], [.int (nI oo), .ref 26], wd C (upd Y.1 9 ((Y.1 9) ||| 2), Y.2) og)) rfl ?_
    refine am_iald_r ok_M_enter rfl (w := wd C (upd Y.1 9 ((Y.1 9) ||| 2), Y.2) og) (f := Y.2.1 5) rfl rfl (pk_in oo 300 (by omega)) ?_
    rw [nI_clamp (show oo < 2 ^ 31 by omega)]
    rw [hor]
    refine am_steps_r ok_M_enter 4 (q' := (109, [some (.ref 19), some (.int (nI v)), some (.int (nI k)), some (.int (nI x)), some (.int (-1)), some (.int (nI t)), some (.int (nI oo)), some (.int (-1))], [.int (nI x), .ref 22], wd C (upd Y.1 9 ((Y.1 9) ||| 2), Y.2) og)) rfl ?_
    refine am_iald_r ok_M_enter rfl (w := wd C (upd Y.1 9 ((Y.1 9) ||| 2), Y.2) og) (f := Y.2.1 2) rfl rfl (pk_in x 300 (by omega)) ?_
    rw [nI_clamp (show x < 2 ^ 31 by omega)]
    refine am_steps_r ok_M_enter 1 (q' := (bif decide ((Y.2.1 2 x) = 0) then 113 else 179, [some (.ref 19), some (.int (nI v)), some (.int (nI k)), some (.int (nI x)), some (.int (-1)), some (.int (nI t)), some (.int (nI oo)), some (.int (-1))], [], wd C (upd Y.1 9 ((Y.1 9) ||| 2), Y.2) og)) rfl ?_
    refine am_br_r (fun h_2 => ?_) (fun h_2 => ?_)
    · skip
      refine am_steps_r ok_M_enter 7 (q' := (126, [some (.ref 19), some (.int (nI v)), some (.int (nI k)), some (.int (nI x)), some (.int (-1)), some (.int (nI t)), some (.int (nI oo)), some (.int (-1))], [.int (-1), .int (nI v), .ref 24], wd C (upd Y.1 9 ((Y.1 9) ||| 2), Y.2) og)) rfl ?_
      refine am_iast_r ok_M_enter rfl (w := wd C (upd Y.1 9 ((Y.1 9) ||| 2), Y.2) og) (f := Y.2.1 3) rfl rfl (pk_in v 300 (by omega)) ?_
      rw [nI_clamp (show v < 2 ^ 31 by omega)]
      refine am_eq_r (q' := (127, [some (.ref 19), some (.int (nI v)), some (.int (nI k)), some (.int (nI x)), some (.int (-1)), some (.int (nI t)), some (.int (nI oo)), some (.int (-1))], [], wd C (upd Y.1 9 ((Y.1 9) ||| 2), wd_u Y.2.1 3 (upd (Y.2.1 3) v (-1)), Y.2.2) og)) rfl ?_
      refine am_steps_r ok_M_enter 9 (q' := (161, [some (.ref 19), some (.int (nI v)), some (.int (nI k)), some (.int (nI x)), some (.int (-1)), some (.int (nI t)), some (.int (nI oo)), some (.int (-1))], [.int (-1), .int (nI v), .ref 25], wd C (upd Y.1 9 ((Y.1 9) ||| 2), wd_u Y.2.1 3 (upd (Y.2.1 3) v (-1)), Y.2.2) og)) rfl ?_
      refine am_iast_r ok_M_enter rfl (w := wd C (upd Y.1 9 ((Y.1 9) ||| 2), wd_u Y.2.1 3 (upd (Y.2.1 3) v (-1)), Y.2.2) og) (f := Y.2.1 4) rfl rfl (pk_in v 300 (by omega)) ?_
      rw [nI_clamp (show v < 2 ^ 31 by omega)]
      refine am_eq_r (q' := (162, [some (.ref 19), some (.int (nI v)), some (.int (nI k)), some (.int (nI x)), some (.int (-1)), some (.int (nI t)), some (.int (nI oo)), some (.int (-1))], [], wd C (upd Y.1 9 ((Y.1 9) ||| 2), wd_u (wd_u Y.2.1 3 (upd (Y.2.1 3) v (-1))) 4 (upd (Y.2.1 4) v (-1)), Y.2.2) og)) rfl ?_
      refine am_steps_r ok_M_enter 6 (q' := (172, [some (.ref 19), some (.int (nI v)), some (.int (nI k)), some (.int (nI x)), some (.int (-1)), some (.int (nI t)), some (.int (nI oo)), some (.int (-1))], [.int (nI v), .ref 27, .int (nI v), .ref 27], wd C (upd Y.1 9 ((Y.1 9) ||| 2), wd_u (wd_u Y.2.1 3 (upd (Y.2.1 3) v (-1))) 4 (upd (Y.2.1 4) v (-1)), Y.2.2) og)) rfl ?_
      refine am_iald_r ok_M_enter rfl (w := wd C (upd Y.1 9 ((Y.1 9) ||| 2), wd_u (wd_u Y.2.1 3 (upd (Y.2.1 3) v (-1))) 4 (upd (Y.2.1 4) v (-1)), Y.2.2) og) (f := Y.2.1 6) rfl rfl (pk_in v 300 (by omega)) ?_
      rw [nI_clamp (show v < 2 ^ 31 by omega)]
      refine am_steps_r ok_M_enter 2 (q' := (175, [some (.ref 19), some (.int (nI v)), some (.int (nI k)), some (.int (nI x)), some (.int (-1)), some (.int (nI t)), some (.int (nI oo)), some (.int (-1))], [.int ((Y.2.1 6 v) - 2), .int (nI v), .ref 27], wd C (upd Y.1 9 ((Y.1 9) ||| 2), wd_u (wd_u Y.2.1 3 (upd (Y.2.1 3) v (-1))) 4 (upd (Y.2.1 4) v (-1)), Y.2.2) og)) rfl ?_
      refine am_iast_r ok_M_enter rfl (w := wd C (upd Y.1 9 ((Y.1 9) ||| 2), wd_u (wd_u Y.2.1 3 (upd (Y.2.1 3) v (-1))) 4 (upd (Y.2.1 4) v (-1)), Y.2.2) og) (f := Y.2.1 6) rfl rfl (pk_in v 300 (by omega)) ?_
      rw [nI_clamp (show v < 2 ^ 31 by omega)]
      refine am_eq_r (q' := (176, [some (.ref 19), some (.int (nI v)), some (.int (nI k)), some (.int (nI x)), some (.int (-1)), some (.int (nI t)), some (.int (nI oo)), some (.int (-1))], [], wd C (upd Y.1 9 ((Y.1 9) ||| 2), wd_u (wd_u (wd_u Y.2.1 3 (upd (Y.2.1 3) v (-1))) 4 (upd (Y.2.1 4) v (-1))) 6 (upd (Y.2.1 6) v ((Y.2.1 6 v) - 2)), Y.2.2) og)) rfl ?_
      refine am_steps_r ok_M_enter 1 (q' := (217, [some (.ref 19), some (.int (nI v)), some (.int (nI k)), some (.int (nI x)), some (.int (-1)), some (.int (nI t)), some (.int (nI oo)), some (.int (-1))], [], wd C (upd Y.1 9 ((Y.1 9) ||| 2), wd_u (wd_u (wd_u Y.2.1 3 (upd (Y.2.1 3) v (-1))) 4 (upd (Y.2.1 4) v (-1))) 6 (upd (Y.2.1 6) v ((Y.2.1 6 v) - 2)), Y.2.2) og)) rfl ?_
      refine am_vret_r ok_M_enter rfl rfl rfl ?_
      exact hp
    · skip
      exact absurd hkx h_2
set_option maxHeartbeats 4000000 in
set_option maxRecDepth 100000 in
theorem tl_M_enter_3ns (d : Nat) (C : wd_C) (Y : wd_Y) (og : Nat → Int64) (nv u : Nat) (hV : vsy Y nv u) (v k x : Nat) (hv : v < nv) (hk : k < nv) (hx : x < nv) (t oo : Nat) (ht : t < nv) (ho : oo < nv) (hto : Y.2.1 5 t = nI oo) (r0 : Nat) (hr0 : r0 < nv) (hor : Y.2.1 5 oo = nI r0) (hkx : Y.2.1 2 x = 0) (post : Option Value → am_W → Prop) (hp : post none (wd C (yDelE Y v none (some r0)) og)) : am_Rn l D cA ad fm (d + 1) m_M_enter (wd C Y og).length post (48, [some (.ref 19), some (.int (nI v)), some (.int (nI k)), some (.int (nI x)), some (.int (-1)), some (.int (nI t)), none, none], [], wd C Y og) := by
  have hv1 := hV.2.1
  have hv2 := hV.2.2.2
  refine am_steps_r ok_M_enter 3 (q' := (bif decide ((nI t) = (-1)) then 54 else 76, [some (.ref 19), some (.int (nI v)), some (.int (nI k)), some (.int (nI x)), some (.int (-1)), some (.int (nI t)), none, none], [], wd C Y og)) rfl ?_
  refine am_br_r (fun h_1 => ?_) (fun h_1 => ?_)
  · skip
    exact absurd h_1 (nI_nm (show t < 2 ^ 31 by omega))
  · skip
    refine am_steps_r ok_M_enter 9 (q' := (92, [some (.ref 19), some (.int (nI v)), some (.int (nI k)), some (.int (nI x)), some (.int (-1)), some (.int (nI t)), none, none], [.int (nI t), .ref 26], wd C (upd Y.1 9 ((Y.1 9) ||| 2), Y.2) og)) rfl ?_
    refine am_iald_r ok_M_enter rfl (w := wd C (upd Y.1 9 ((Y.1 9) ||| 2), Y.2) og) (f := Y.2.1 5) rfl rfl (pk_in t 300 (by omega)) ?_
    rw [nI_clamp (show t < 2 ^ 31 by omega)]
    rw [hto]
    refine am_steps_r ok_M_enter 4 (q' := (101, [some (.ref 19), some (.int (nI v)), some (.int (nI k)), some (.int (nI x)), some (.int (-1)), some (.int (nI t)), some (.int (nI oo)), none], [.int (nI oo), .ref 26], wd C (upd Y.1 9 ((Y.1 9) ||| 2), Y.2) og)) rfl ?_
    refine am_iald_r ok_M_enter rfl (w := wd C (upd Y.1 9 ((Y.1 9) ||| 2), Y.2) og) (f := Y.2.1 5) rfl rfl (pk_in oo 300 (by omega)) ?_
    rw [nI_clamp (show oo < 2 ^ 31 by omega)]
    rw [hor]
    refine am_steps_r ok_M_enter 4 (q' := (109, [some (.ref 19), some (.int (nI v)), some (.int (nI k)), some (.int (nI x)), some (.int (-1)), some (.int (nI t)), some (.int (nI oo)), some (.int (nI r0))], [.int (nI x), .ref 22], wd C (upd Y.1 9 ((Y.1 9) ||| 2), Y.2) og)) rfl ?_
    refine am_iald_r ok_M_enter rfl (w := wd C (upd Y.1 9 ((Y.1 9) ||| 2), Y.2) og) (f := Y.2.1 2) rfl rfl (pk_in x 300 (by omega)) ?_
    rw [nI_clamp (show x < 2 ^ 31 by omega)]
    refine am_steps_r ok_M_enter 1 (q' := (bif decide ((Y.2.1 2 x) = 0) then 113 else 179, [some (.ref 19), some (.int (nI v)), some (.int (nI k)), some (.int (nI x)), some (.int (-1)), some (.int (nI t)), some (.int (nI oo)), some (.int (nI r0))], [], wd C (upd Y.1 9 ((Y.1 9) ||| 2), Y.2) og)) rfl ?_
    refine am_br_r (fun h_2 => ?_) (fun h_2 => ?_)
    · skip
      refine am_steps_r ok_M_enter 7 (q' := (126, [some (.ref 19), some (.int (nI v)), some (.int (nI k)), some (.int (nI x)), some (.int (-1)), some (.int (nI t)), some (.int (nI oo)), some (.int (nI r0))], [.int (nI r0), .int (nI v), .ref 24], wd C (upd Y.1 9 ((Y.1 9) ||| 2), Y.2) og)) rfl ?_
      refine am_iast_r ok_M_enter rfl (w := wd C (upd Y.1 9 ((Y.1 9) ||| 2), Y.2) og) (f := Y.2.1 3) rfl rfl (pk_in v 300 (by omega)) ?_
      rw [nI_clamp (show v < 2 ^ 31 by omega)]
      refine am_eq_r (q' := (127, [some (.ref 19), some (.int (nI v)), some (.int (nI k)), some (.int (nI x)), some (.int (-1)), some (.int (nI t)), some (.int (nI oo)), some (.int (nI r0))], [], wd C (upd Y.1 9 ((Y.1 9) ||| 2), wd_u Y.2.1 3 (upd (Y.2.1 3) v (nI r0)), Y.2.2) og)) rfl ?_
      refine am_steps_r ok_M_enter 7 (q' := (bif decide ((nI r0) = (-1)) then 150 else 155, [some (.ref 19), some (.int (nI v)), some (.int (nI k)), some (.int (nI x)), some (.int (-1)), some (.int (nI t)), some (.int (nI oo)), some (.int (nI r0))], [.int (nI v), .ref 25], wd C (upd Y.1 9 ((Y.1 9) ||| 2), wd_u Y.2.1 3 (upd (Y.2.1 3) v (nI r0)), Y.2.2) og)) rfl ?_
      refine am_br_r (fun h_3 => ?_) (fun h_3 => ?_)
      · skip
        exact absurd h_3 (nI_nm (show r0 < 2 ^ 31 by omega))
      · skip
        refine am_steps_r ok_M_enter 3 (q' := (160, [some (.ref 19), some (.int (nI v)), some (.int (nI k)), some (.int (nI x)), some (.int (-1)), some (.int (nI t)), some (.int (nI oo)), some (.int (nI r0))], [.int (nI v), .ref 25, .int (nI v), .ref 25], wd C (upd Y.1 9 ((Y.1 9) ||| 2), wd_u Y.2.1 3 (upd (Y.2.1 3) v (nI r0)), Y.2.2) og)) rfl ?_
        refine am_iald_r ok_M_enter rfl (w := wd C (upd Y.1 9 ((Y.1 9) ||| 2), wd_u Y.2.1 3 (upd (Y.2.1 3) v (nI r0)), Y.2.2) og) (f := Y.2.1 4) rfl rfl (pk_in v 300 (by omega)) ?_
        rw [nI_clamp (show v < 2 ^ 31 by omega)]
        refine am_iast_r ok_M_enter rfl (w := wd C (upd Y.1 9 ((Y.1 9) ||| 2), wd_u Y.2.1 3 (upd (Y.2.1 3) v (nI r0)), Y.2.2) og) (f := Y.2.1 4) rfl rfl (pk_in v 300 (by omega)) ?_
        rw [nI_clamp (show v < 2 ^ 31 by omega)]
        refine am_eq_r (q' := (162, [some (.ref 19), some (.int (nI v)), some (.int (nI k)), some (.int (nI x)), some (.int (-1)), some (.int (nI t)), some (.int (nI oo)), some (.int (nI r0))], [], wd C (upd Y.1 9 ((Y.1 9) ||| 2), wd_u (wd_u Y.2.1 3 (upd (Y.2.1 3) v (nI r0))) 4 (upd (Y.2.1 4) v (Y.2.1 4 v)), Y.2.2) og)) rfl ?_
        refine am_steps_r ok_M_enter 6 (q' := (172, [some (.ref 19), some (.int (nI v)), some (.int (nI k)), some (.int (nI x)), some (.int (-1)), some (.int (nI t)), some (.int (nI oo)), some (.int (nI r0))], [.int (nI v), .ref 27, .int (nI v), .ref 27], wd C (upd Y.1 9 ((Y.1 9) ||| 2), wd_u (wd_u Y.2.1 3 (upd (Y.2.1 3) v (nI r0))) 4 (upd (Y.2.1 4) v (Y.2.1 4 v)), Y.2.2) og)) rfl ?_
        refine am_iald_r ok_M_enter rfl (w := wd C (upd Y.1 9 ((Y.1 9) ||| 2), wd_u (wd_u Y.2.1 3 (upd (Y.2.1 3) v (nI r0))) 4 (upd (Y.2.1 4) v (Y.2.1 4 v)), Y.2.2) og) (f := Y.2.1 6) rfl rfl (pk_in v 300 (by omega)) ?_
        rw [nI_clamp (show v < 2 ^ 31 by omega)]
        refine am_steps_r ok_M_enter 2 (q' := (175, [some (.ref 19), some (.int (nI v)), some (.int (nI k)), some (.int (nI x)), some (.int (-1)), some (.int (nI t)), some (.int (nI oo)), some (.int (nI r0))], [.int ((Y.2.1 6 v) - 2), .int (nI v), .ref 27], wd C (upd Y.1 9 ((Y.1 9) ||| 2), wd_u (wd_u Y.2.1 3 (upd (Y.2.1 3) v (nI r0))) 4 (upd (Y.2.1 4) v (Y.2.1 4 v)), Y.2.2) og)) rfl ?_
        refine am_iast_r ok_M_enter rfl (w := wd C (upd Y.1 9 ((Y.1 9) ||| 2), wd_u (wd_u Y.2.1 3 (upd (Y.2.1 3) v (nI r0))) 4 (upd (Y.2.1 4) v (Y.2.1 4 v)), Y.2.2) og) (f := Y.2.1 6) rfl rfl (pk_in v 300 (by omega)) ?_
        rw [nI_clamp (show v < 2 ^ 31 by omega)]
        refine am_eq_r (q' := (176, [some (.ref 19), some (.int (nI v)), some (.int (nI k)), some (.int (nI x)), some (.int (-1)), some (.int (nI t)), some (.int (nI oo)), some (.int (nI r0))], [], wd C (upd Y.1 9 ((Y.1 9) ||| 2), wd_u (wd_u (wd_u Y.2.1 3 (upd (Y.2.1 3) v (nI r0))) 4 (upd (Y.2.1 4) v (Y.2.1 4 v))) 6 (upd (Y.2.1 6) v ((Y.2.1 6 v) - 2)), Y.2.2) og)) rfl ?_
        refine am_steps_r ok_M_enter 1 (q' := (217, [some (.ref 19), some (.int (nI v)), some (.int (nI k)), some (.int (nI x)), some (.int (-1)), some (.int (nI t)), some (.int (nI oo)), some (.int (nI r0))], [], wd C (upd Y.1 9 ((Y.1 9) ||| 2), wd_u (wd_u (wd_u Y.2.1 3 (upd (Y.2.1 3) v (nI r0))) 4 (upd (Y.2.1 4) v (Y.2.1 4 v))) 6 (upd (Y.2.1 6) v ((Y.2.1 6 v) - 2)), Y.2.2) og)) rfl ?_
        refine am_vret_r ok_M_enter rfl rfl rfl ?_
        exact hp
    · skip
      exact absurd hkx h_2
set_option maxHeartbeats 4000000 in
set_option maxRecDepth 100000 in
theorem tl_M_enter_3sn (d : Nat) (C : wd_C) (Y : wd_Y) (og : Nat → Int64) (nv u : Nat) (hV : vsy Y nv u) (v k x : Nat) (hv : v < nv) (hk : k < nv) (hx : x < nv) (t oo : Nat) (ht : t < nv) (ho : oo < nv) (hto : Y.2.1 5 t = nI oo) (q : Nat) (hq : q < nv) (hor : Y.2.1 5 oo = -1) (hkx : Y.2.1 2 x = 0) (post : Option Value → am_W → Prop) (hp : post none (wd C (yDelE Y v (some q) none) og)) : am_Rn l D cA ad fm (d + 1) m_M_enter (wd C Y og).length post (48, [some (.ref 19), some (.int (nI v)), some (.int (nI k)), some (.int (nI x)), some (.int (nI q)), some (.int (nI t)), none, none], [], wd C Y og) := by
  have hv1 := hV.2.1
  have hv2 := hV.2.2.2
  refine am_steps_r ok_M_enter 3 (q' := (bif decide ((nI t) = (-1)) then 54 else 76, [some (.ref 19), some (.int (nI v)), some (.int (nI k)), some (.int (nI x)), some (.int (nI q)), some (.int (nI t)), none, none], [], wd C Y og)) rfl ?_
  refine am_br_r (fun h_1 => ?_) (fun h_1 => ?_)
  · skip
    exact absurd h_1 (nI_nm (show t < 2 ^ 31 by omega))
  · skip
    refine am_steps_r ok_M_enter 9 (q' := (92, [some (.ref 19), some (.int (nI v)), some (.int (nI k)), some (.int (nI x)), some (.int (nI q)), some (.int (nI t)), none, none], [.int (nI t), .ref 26], wd C (upd Y.1 9 ((Y.1 9) ||| 2), Y.2) og)) rfl ?_
    refine am_iald_r ok_M_enter rfl (w := wd C (upd Y.1 9 ((Y.1 9) ||| 2), Y.2) og) (f := Y.2.1 5) rfl rfl (pk_in t 300 (by omega)) ?_
    rw [nI_clamp (show t < 2 ^ 31 by omega)]
    rw [hto]
    refine am_steps_r ok_M_enter 4 (q' := (101, [some (.ref 19), some (.int (nI v)), some (.int (nI k)), some (.int (nI x)), some (.int (nI q)), some (.int (nI t)), some (.int (nI oo)), none], [.int (nI oo), .ref 26], wd C (upd Y.1 9 ((Y.1 9) ||| 2), Y.2) og)) rfl ?_
    refine am_iald_r ok_M_enter rfl (w := wd C (upd Y.1 9 ((Y.1 9) ||| 2), Y.2) og) (f := Y.2.1 5) rfl rfl (pk_in oo 300 (by omega)) ?_
    rw [nI_clamp (show oo < 2 ^ 31 by omega)]
    rw [hor]
    refine am_steps_r ok_M_enter 4 (q' := (109, [some (.ref 19), some (.int (nI v)), some (.int (nI k)), some (.int (nI x)), some (.int (nI q)), some (.int (nI t)), some (.int (nI oo)), some (.int (-1))], [.int (nI x), .ref 22], wd C (upd Y.1 9 ((Y.1 9) ||| 2), Y.2) og)) rfl ?_
    refine am_iald_r ok_M_enter rfl (w := wd C (upd Y.1 9 ((Y.1 9) ||| 2), Y.2) og) (f := Y.2.1 2) rfl rfl (pk_in x 300 (by omega)) ?_
    rw [nI_clamp (show x < 2 ^ 31 by omega)]
    refine am_steps_r ok_M_enter 1 (q' := (bif decide ((Y.2.1 2 x) = 0) then 113 else 179, [some (.ref 19), some (.int (nI v)), some (.int (nI k)), some (.int (nI x)), some (.int (nI q)), some (.int (nI t)), some (.int (nI oo)), some (.int (-1))], [], wd C (upd Y.1 9 ((Y.1 9) ||| 2), Y.2) og)) rfl ?_
    refine am_br_r (fun h_2 => ?_) (fun h_2 => ?_)
    · skip
      refine am_steps_r ok_M_enter 3 (q' := (bif decide ((nI q) = (-1)) then 119 else 130, [some (.ref 19), some (.int (nI v)), some (.int (nI k)), some (.int (nI x)), some (.int (nI q)), some (.int (nI t)), some (.int (nI oo)), some (.int (-1))], [], wd C (upd Y.1 9 ((Y.1 9) ||| 2), Y.2) og)) rfl ?_
      refine am_br_r (fun h_3 => ?_) (fun h_3 => ?_)
      · skip
        exact absurd h_3 (nI_nm (show q < 2 ^ 31 by omega))
      · skip
        refine am_steps_r ok_M_enter 4 (q' := (138, [some (.ref 19), some (.int (nI v)), some (.int (nI k)), some (.int (nI x)), some (.int (nI q)), some (.int (nI t)), some (.int (nI oo)), some (.int (-1))], [.int (-1), .int (nI q), .ref 26], wd C (upd Y.1 9 ((Y.1 9) ||| 2), Y.2) og)) rfl ?_
        refine am_iast_r ok_M_enter rfl (w := wd C (upd Y.1 9 ((Y.1 9) ||| 2), Y.2) og) (f := Y.2.1 5) rfl rfl (pk_in q 300 (by omega)) ?_
        rw [nI_clamp (show q < 2 ^ 31 by omega)]
        refine am_eq_r (q' := (139, [some (.ref 19), some (.int (nI v)), some (.int (nI k)), some (.int (nI x)), some (.int (nI q)), some (.int (nI t)), some (.int (nI oo)), some (.int (-1))], [], wd C (upd Y.1 9 ((Y.1 9) ||| 2), wd_u Y.2.1 5 (upd (Y.2.1 5) q (-1)), Y.2.2) og)) rfl ?_
        refine am_steps_r ok_M_enter 8 (q' := (161, [some (.ref 19), some (.int (nI v)), some (.int (nI k)), some (.int (nI x)), some (.int (nI q)), some (.int (nI t)), some (.int (nI oo)), some (.int (-1))], [.int (nI q), .int (nI v), .ref 25], wd C (upd Y.1 9 ((Y.1 9) ||| 2), wd_u Y.2.1 5 (upd (Y.2.1 5) q (-1)), Y.2.2) og)) rfl ?_
        refine am_iast_r ok_M_enter rfl (w := wd C (upd Y.1 9 ((Y.1 9) ||| 2), wd_u Y.2.1 5 (upd (Y.2.1 5) q (-1)), Y.2.2) og) (f := Y.2.1 4) rfl rfl (pk_in v 300 (by omega)) ?_
        rw [nI_clamp (show v < 2 ^ 31 by omega)]
        refine am_eq_r (q' := (162, [some (.ref 19), some (.int (nI v)), some (.int (nI k)), some (.int (nI x)), some (.int (nI q)), some (.int (nI t)), some (.int (nI oo)), some (.int (-1))], [], wd C (upd Y.1 9 ((Y.1 9) ||| 2), wd_u (wd_u Y.2.1 5 (upd (Y.2.1 5) q (-1))) 4 (upd (Y.2.1 4) v (nI q)), Y.2.2) og)) rfl ?_
        refine am_steps_r ok_M_enter 6 (q' := (172, [some (.ref 19), some (.int (nI v)), some (.int (nI k)), some (.int (nI x)), some (.int (nI q)), some (.int (nI t)), some (.int (nI oo)), some (.int (-1))], [.int (nI v), .ref 27, .int (nI v), .ref 27], wd C (upd Y.1 9 ((Y.1 9) ||| 2), wd_u (wd_u Y.2.1 5 (upd (Y.2.1 5) q (-1))) 4 (upd (Y.2.1 4) v (nI q)), Y.2.2) og)) rfl ?_
        refine am_iald_r ok_M_enter rfl (w := wd C (upd Y.1 9 ((Y.1 9) ||| 2), wd_u (wd_u Y.2.1 5 (upd (Y.2.1 5) q (-1))) 4 (upd (Y.2.1 4) v (nI q)), Y.2.2) og) (f := Y.2.1 6) rfl rfl (pk_in v 300 (by omega)) ?_
        rw [nI_clamp (show v < 2 ^ 31 by omega)]
        refine am_steps_r ok_M_enter 2 (q' := (175, [some (.ref 19), some (.int (nI v)), some (.int (nI k)), some (.int (nI x)), some (.int (nI q)), some (.int (nI t)), some (.int (nI oo)), some (.int (-1))], [.int ((Y.2.1 6 v) - 2), .int (nI v), .ref 27], wd C (upd Y.1 9 ((Y.1 9) ||| 2), wd_u (wd_u Y.2.1 5 (upd (Y.2.1 5) q (-1))) 4 (upd (Y.2.1 4) v (nI q)), Y.2.2) og)) rfl ?_
        refine am_iast_r ok_M_enter rfl (w := wd C (upd Y.1 9 ((Y.1 9) ||| 2), wd_u (wd_u Y.2.1 5 (upd (Y.2.1 5) q (-1))) 4 (upd (Y.2.1 4) v (nI q)), Y.2.2) og) (f := Y.2.1 6) rfl rfl (pk_in v 300 (by omega)) ?_
        rw [nI_clamp (show v < 2 ^ 31 by omega)]
        refine am_eq_r (q' := (176, [some (.ref 19), some (.int (nI v)), some (.int (nI k)), some (.int (nI x)), some (.int (nI q)), some (.int (nI t)), some (.int (nI oo)), some (.int (-1))], [], wd C (upd Y.1 9 ((Y.1 9) ||| 2), wd_u (wd_u (wd_u Y.2.1 5 (upd (Y.2.1 5) q (-1))) 4 (upd (Y.2.1 4) v (nI q))) 6 (upd (Y.2.1 6) v ((Y.2.1 6 v) - 2)), Y.2.2) og)) rfl ?_
        refine am_steps_r ok_M_enter 1 (q' := (217, [some (.ref 19), some (.int (nI v)), some (.int (nI k)), some (.int (nI x)), some (.int (nI q)), some (.int (nI t)), some (.int (nI oo)), some (.int (-1))], [], wd C (upd Y.1 9 ((Y.1 9) ||| 2), wd_u (wd_u (wd_u Y.2.1 5 (upd (Y.2.1 5) q (-1))) 4 (upd (Y.2.1 4) v (nI q))) 6 (upd (Y.2.1 6) v ((Y.2.1 6 v) - 2)), Y.2.2) og)) rfl ?_
        refine am_vret_r ok_M_enter rfl rfl rfl ?_
        exact hp
    · skip
      exact absurd hkx h_2
set_option maxHeartbeats 4000000 in
set_option maxRecDepth 100000 in
theorem tl_M_enter_3ss (d : Nat) (C : wd_C) (Y : wd_Y) (og : Nat → Int64) (nv u : Nat) (hV : vsy Y nv u) (v k x : Nat) (hv : v < nv) (hk : k < nv) (hx : x < nv) (t oo : Nat) (ht : t < nv) (ho : oo < nv) (hto : Y.2.1 5 t = nI oo) (q : Nat) (hq : q < nv) (r0 : Nat) (hr0 : r0 < nv) (hor : Y.2.1 5 oo = nI r0) (hkx : Y.2.1 2 x = 0) (post : Option Value → am_W → Prop) (hp : post none (wd C (yDelE Y v (some q) (some r0)) og)) : am_Rn l D cA ad fm (d + 1) m_M_enter (wd C Y og).length post (48, [some (.ref 19), some (.int (nI v)), some (.int (nI k)), some (.int (nI x)), some (.int (nI q)), some (.int (nI t)), none, none], [], wd C Y og) := by
  have hv1 := hV.2.1
  have hv2 := hV.2.2.2
  refine am_steps_r ok_M_enter 3 (q' := (bif decide ((nI t) = (-1)) then 54 else 76, [some (.ref 19), some (.int (nI v)), some (.int (nI k)), some (.int (nI x)), some (.int (nI q)), some (.int (nI t)), none, none], [], wd C Y og)) rfl ?_
  refine am_br_r (fun h_1 => ?_) (fun h_1 => ?_)
  · skip
    exact absurd h_1 (nI_nm (show t < 2 ^ 31 by omega))
  · skip
    refine am_steps_r ok_M_enter 9 (q' := (92, [some (.ref 19), some (.int (nI v)), some (.int (nI k)), some (.int (nI x)), some (.int (nI q)), some (.int (nI t)), none, none], [.int (nI t), .ref 26], wd C (upd Y.1 9 ((Y.1 9) ||| 2), Y.2) og)) rfl ?_
    refine am_iald_r ok_M_enter rfl (w := wd C (upd Y.1 9 ((Y.1 9) ||| 2), Y.2) og) (f := Y.2.1 5) rfl rfl (pk_in t 300 (by omega)) ?_
    rw [nI_clamp (show t < 2 ^ 31 by omega)]
    rw [hto]
    refine am_steps_r ok_M_enter 4 (q' := (101, [some (.ref 19), some (.int (nI v)), some (.int (nI k)), some (.int (nI x)), some (.int (nI q)), some (.int (nI t)), some (.int (nI oo)), none], [.int (nI oo), .ref 26], wd C (upd Y.1 9 ((Y.1 9) ||| 2), Y.2) og)) rfl ?_
    refine am_iald_r ok_M_enter rfl (w := wd C (upd Y.1 9 ((Y.1 9) ||| 2), Y.2) og) (f := Y.2.1 5) rfl rfl (pk_in oo 300 (by omega)) ?_
    rw [nI_clamp (show oo < 2 ^ 31 by omega)]
    rw [hor]
    refine am_steps_r ok_M_enter 4 (q' := (109, [some (.ref 19), some (.int (nI v)), some (.int (nI k)), some (.int (nI x)), some (.int (nI q)), some (.int (nI t)), some (.int (nI oo)), some (.int (nI r0))], [.int (nI x), .ref 22], wd C (upd Y.1 9 ((Y.1 9) ||| 2), Y.2) og)) rfl ?_
    refine am_iald_r ok_M_enter rfl (w := wd C (upd Y.1 9 ((Y.1 9) ||| 2), Y.2) og) (f := Y.2.1 2) rfl rfl (pk_in x 300 (by omega)) ?_
    rw [nI_clamp (show x < 2 ^ 31 by omega)]
    refine am_steps_r ok_M_enter 1 (q' := (bif decide ((Y.2.1 2 x) = 0) then 113 else 179, [some (.ref 19), some (.int (nI v)), some (.int (nI k)), some (.int (nI x)), some (.int (nI q)), some (.int (nI t)), some (.int (nI oo)), some (.int (nI r0))], [], wd C (upd Y.1 9 ((Y.1 9) ||| 2), Y.2) og)) rfl ?_
    refine am_br_r (fun h_2 => ?_) (fun h_2 => ?_)
    · skip
      refine am_steps_r ok_M_enter 3 (q' := (bif decide ((nI q) = (-1)) then 119 else 130, [some (.ref 19), some (.int (nI v)), some (.int (nI k)), some (.int (nI x)), some (.int (nI q)), some (.int (nI t)), some (.int (nI oo)), some (.int (nI r0))], [], wd C (upd Y.1 9 ((Y.1 9) ||| 2), Y.2) og)) rfl ?_
      refine am_br_r (fun h_3 => ?_) (fun h_3 => ?_)
      · skip
        exact absurd h_3 (nI_nm (show q < 2 ^ 31 by omega))
      · skip
        refine am_steps_r ok_M_enter 4 (q' := (138, [some (.ref 19), some (.int (nI v)), some (.int (nI k)), some (.int (nI x)), some (.int (nI q)), some (.int (nI t)), some (.int (nI oo)), some (.int (nI r0))], [.int (nI r0), .int (nI q), .ref 26], wd C (upd Y.1 9 ((Y.1 9) ||| 2), Y.2) og)) rfl ?_
        refine am_iast_r ok_M_enter rfl (w := wd C (upd Y.1 9 ((Y.1 9) ||| 2), Y.2) og) (f := Y.2.1 5) rfl rfl (pk_in q 300 (by omega)) ?_
        rw [nI_clamp (show q < 2 ^ 31 by omega)]
        refine am_eq_r (q' := (139, [some (.ref 19), some (.int (nI v)), some (.int (nI k)), some (.int (nI x)), some (.int (nI q)), some (.int (nI t)), some (.int (nI oo)), some (.int (nI r0))], [], wd C (upd Y.1 9 ((Y.1 9) ||| 2), wd_u Y.2.1 5 (upd (Y.2.1 5) q (nI r0)), Y.2.2) og)) rfl ?_
        refine am_steps_r ok_M_enter 6 (q' := (bif decide ((nI r0) = (-1)) then 150 else 155, [some (.ref 19), some (.int (nI v)), some (.int (nI k)), some (.int (nI x)), some (.int (nI q)), some (.int (nI t)), some (.int (nI oo)), some (.int (nI r0))], [.int (nI v), .ref 25], wd C (upd Y.1 9 ((Y.1 9) ||| 2), wd_u Y.2.1 5 (upd (Y.2.1 5) q (nI r0)), Y.2.2) og)) rfl ?_
        refine am_br_r (fun h_4 => ?_) (fun h_4 => ?_)
        · skip
          exact absurd h_4 (nI_nm (show r0 < 2 ^ 31 by omega))
        · skip
          refine am_steps_r ok_M_enter 3 (q' := (160, [some (.ref 19), some (.int (nI v)), some (.int (nI k)), some (.int (nI x)), some (.int (nI q)), some (.int (nI t)), some (.int (nI oo)), some (.int (nI r0))], [.int (nI v), .ref 25, .int (nI v), .ref 25], wd C (upd Y.1 9 ((Y.1 9) ||| 2), wd_u Y.2.1 5 (upd (Y.2.1 5) q (nI r0)), Y.2.2) og)) rfl ?_
          refine am_iald_r ok_M_enter rfl (w := wd C (upd Y.1 9 ((Y.1 9) ||| 2), wd_u Y.2.1 5 (upd (Y.2.1 5) q (nI r0)), Y.2.2) og) (f := Y.2.1 4) rfl rfl (pk_in v 300 (by omega)) ?_
          rw [nI_clamp (show v < 2 ^ 31 by omega)]
          refine am_iast_r ok_M_enter rfl (w := wd C (upd Y.1 9 ((Y.1 9) ||| 2), wd_u Y.2.1 5 (upd (Y.2.1 5) q (nI r0)), Y.2.2) og) (f := Y.2.1 4) rfl rfl (pk_in v 300 (by omega)) ?_
          rw [nI_clamp (show v < 2 ^ 31 by omega)]
          refine am_eq_r (q' := (162, [some (.ref 19), some (.int (nI v)), some (.int (nI k)), some (.int (nI x)), some (.int (nI q)), some (.int (nI t)), some (.int (nI oo)), some (.int (nI r0))], [], wd C (upd Y.1 9 ((Y.1 9) ||| 2), wd_u (wd_u Y.2.1 5 (upd (Y.2.1 5) q (nI r0))) 4 (upd (Y.2.1 4) v (Y.2.1 4 v)), Y.2.2) og)) rfl ?_
          refine am_steps_r ok_M_enter 6 (q' := (172, [some (.ref 19), some (.int (nI v)), some (.int (nI k)), some (.int (nI x)), some (.int (nI q)), some (.int (nI t)), some (.int (nI oo)), some (.int (nI r0))], [.int (nI v), .ref 27, .int (nI v), .ref 27], wd C (upd Y.1 9 ((Y.1 9) ||| 2), wd_u (wd_u Y.2.1 5 (upd (Y.2.1 5) q (nI r0))) 4 (upd (Y.2.1 4) v (Y.2.1 4 v)), Y.2.2) og)) rfl ?_
          refine am_iald_r ok_M_enter rfl (w := wd C (upd Y.1 9 ((Y.1 9) ||| 2), wd_u (wd_u Y.2.1 5 (upd (Y.2.1 5) q (nI r0))) 4 (upd (Y.2.1 4) v (Y.2.1 4 v)), Y.2.2) og) (f := Y.2.1 6) rfl rfl (pk_in v 300 (by omega)) ?_
          rw [nI_clamp (show v < 2 ^ 31 by omega)]
          refine am_steps_r ok_M_enter 2 (q' := (175, [some (.ref 19), some (.int (nI v)), some (.int (nI k)), some (.int (nI x)), some (.int (nI q)), some (.int (nI t)), some (.int (nI oo)), some (.int (nI r0))], [.int ((Y.2.1 6 v) - 2), .int (nI v), .ref 27], wd C (upd Y.1 9 ((Y.1 9) ||| 2), wd_u (wd_u Y.2.1 5 (upd (Y.2.1 5) q (nI r0))) 4 (upd (Y.2.1 4) v (Y.2.1 4 v)), Y.2.2) og)) rfl ?_
          refine am_iast_r ok_M_enter rfl (w := wd C (upd Y.1 9 ((Y.1 9) ||| 2), wd_u (wd_u Y.2.1 5 (upd (Y.2.1 5) q (nI r0))) 4 (upd (Y.2.1 4) v (Y.2.1 4 v)), Y.2.2) og) (f := Y.2.1 6) rfl rfl (pk_in v 300 (by omega)) ?_
          rw [nI_clamp (show v < 2 ^ 31 by omega)]
          refine am_eq_r (q' := (176, [some (.ref 19), some (.int (nI v)), some (.int (nI k)), some (.int (nI x)), some (.int (nI q)), some (.int (nI t)), some (.int (nI oo)), some (.int (nI r0))], [], wd C (upd Y.1 9 ((Y.1 9) ||| 2), wd_u (wd_u (wd_u Y.2.1 5 (upd (Y.2.1 5) q (nI r0))) 4 (upd (Y.2.1 4) v (Y.2.1 4 v))) 6 (upd (Y.2.1 6) v ((Y.2.1 6 v) - 2)), Y.2.2) og)) rfl ?_
          refine am_steps_r ok_M_enter 1 (q' := (217, [some (.ref 19), some (.int (nI v)), some (.int (nI k)), some (.int (nI x)), some (.int (nI q)), some (.int (nI t)), some (.int (nI oo)), some (.int (nI r0))], [], wd C (upd Y.1 9 ((Y.1 9) ||| 2), wd_u (wd_u (wd_u Y.2.1 5 (upd (Y.2.1 5) q (nI r0))) 4 (upd (Y.2.1 4) v (Y.2.1 4 v))) 6 (upd (Y.2.1 6) v ((Y.2.1 6 v) - 2)), Y.2.2) og)) rfl ?_
          refine am_vret_r ok_M_enter rfl rfl rfl ?_
          exact hp
    · skip
      exact absurd hkx h_2
set_option maxHeartbeats 4000000 in
set_option maxRecDepth 100000 in
theorem tl_M_enter_4n (d : Nat) (C : wd_C) (Y : wd_Y) (og : Nat → Int64) (nv u : Nat) (hV : vsy Y nv u) (v k x : Nat) (hv : v < nv) (hk : k < nv) (hx : x < nv) (t oo : Nat) (ht : t < nv) (ho : oo < nv) (hto : Y.2.1 5 t = nI oo) (bv : Int32) (hor : Y.2.1 5 oo = -1) (hkx : ¬ Y.2.1 2 x = 0) (post : Option Value → am_W → Prop) (hp : post none (wd C (ySetE Y v t x none) og)) : am_Rn l D cA ad fm (d + 1) m_M_enter (wd C Y og).length post (48, [some (.ref 19), some (.int (nI v)), some (.int (nI k)), some (.int (nI x)), some (.int bv), some (.int (nI t)), none, none], [], wd C Y og) := by
  have hv1 := hV.2.1
  have hv2 := hV.2.2.2
  refine am_steps_r ok_M_enter 3 (q' := (bif decide ((nI t) = (-1)) then 54 else 76, [some (.ref 19), some (.int (nI v)), some (.int (nI k)), some (.int (nI x)), some (.int bv), some (.int (nI t)), none, none], [], wd C Y og)) rfl ?_
  refine am_br_r (fun h_1 => ?_) (fun h_1 => ?_)
  · skip
    exact absurd h_1 (nI_nm (show t < 2 ^ 31 by omega))
  · skip
    refine am_steps_r ok_M_enter 9 (q' := (92, [some (.ref 19), some (.int (nI v)), some (.int (nI k)), some (.int (nI x)), some (.int bv), some (.int (nI t)), none, none], [.int (nI t), .ref 26], wd C (upd Y.1 9 ((Y.1 9) ||| 2), Y.2) og)) rfl ?_
    refine am_iald_r ok_M_enter rfl (w := wd C (upd Y.1 9 ((Y.1 9) ||| 2), Y.2) og) (f := Y.2.1 5) rfl rfl (pk_in t 300 (by omega)) ?_
    rw [nI_clamp (show t < 2 ^ 31 by omega)]
    rw [hto]
    refine am_steps_r ok_M_enter 4 (q' := (101, [some (.ref 19), some (.int (nI v)), some (.int (nI k)), some (.int (nI x)), some (.int bv), some (.int (nI t)), some (.int (nI oo)), none], [.int (nI oo), .ref 26], wd C (upd Y.1 9 ((Y.1 9) ||| 2), Y.2) og)) rfl ?_
    refine am_iald_r ok_M_enter rfl (w := wd C (upd Y.1 9 ((Y.1 9) ||| 2), Y.2) og) (f := Y.2.1 5) rfl rfl (pk_in oo 300 (by omega)) ?_
    rw [nI_clamp (show oo < 2 ^ 31 by omega)]
    rw [hor]
    refine am_steps_r ok_M_enter 4 (q' := (109, [some (.ref 19), some (.int (nI v)), some (.int (nI k)), some (.int (nI x)), some (.int bv), some (.int (nI t)), some (.int (nI oo)), some (.int (-1))], [.int (nI x), .ref 22], wd C (upd Y.1 9 ((Y.1 9) ||| 2), Y.2) og)) rfl ?_
    refine am_iald_r ok_M_enter rfl (w := wd C (upd Y.1 9 ((Y.1 9) ||| 2), Y.2) og) (f := Y.2.1 2) rfl rfl (pk_in x 300 (by omega)) ?_
    rw [nI_clamp (show x < 2 ^ 31 by omega)]
    refine am_steps_r ok_M_enter 1 (q' := (bif decide ((Y.2.1 2 x) = 0) then 113 else 179, [some (.ref 19), some (.int (nI v)), some (.int (nI k)), some (.int (nI x)), some (.int bv), some (.int (nI t)), some (.int (nI oo)), some (.int (-1))], [], wd C (upd Y.1 9 ((Y.1 9) ||| 2), Y.2) og)) rfl ?_
    refine am_br_r (fun h_2 => ?_) (fun h_2 => ?_)
    · skip
      exact absurd h_2 hkx
    · skip
      refine am_steps_r ok_M_enter 4 (q' := (186, [some (.ref 19), some (.int (nI v)), some (.int (nI k)), some (.int (nI x)), some (.int bv), some (.int (nI t)), some (.int (nI oo)), some (.int (-1))], [.int (nI x), .int (nI t), .ref 26], wd C (upd Y.1 9 ((Y.1 9) ||| 2), Y.2) og)) rfl ?_
      refine am_iast_r ok_M_enter rfl (w := wd C (upd Y.1 9 ((Y.1 9) ||| 2), Y.2) og) (f := Y.2.1 5) rfl rfl (pk_in t 300 (by omega)) ?_
      rw [nI_clamp (show t < 2 ^ 31 by omega)]
      refine am_eq_r (q' := (187, [some (.ref 19), some (.int (nI v)), some (.int (nI k)), some (.int (nI x)), some (.int bv), some (.int (nI t)), some (.int (nI oo)), some (.int (-1))], [], wd C (upd Y.1 9 ((Y.1 9) ||| 2), wd_u Y.2.1 5 (upd (Y.2.1 5) t (nI x)), Y.2.2) og)) rfl ?_
      refine am_steps_r ok_M_enter 4 (q' := (194, [some (.ref 19), some (.int (nI v)), some (.int (nI k)), some (.int (nI x)), some (.int bv), some (.int (nI t)), some (.int (nI oo)), some (.int (-1))], [.int (-1), .int (nI x), .ref 26], wd C (upd Y.1 9 ((Y.1 9) ||| 2), wd_u Y.2.1 5 (upd (Y.2.1 5) t (nI x)), Y.2.2) og)) rfl ?_
      refine am_iast_r ok_M_enter rfl (w := wd C (upd Y.1 9 ((Y.1 9) ||| 2), wd_u Y.2.1 5 (upd (Y.2.1 5) t (nI x)), Y.2.2) og) (f := (upd (Y.2.1 5) t (nI x))) rfl rfl (pk_in x 300 (by omega)) ?_
      rw [nI_clamp (show x < 2 ^ 31 by omega)]
      refine am_eq_r (q' := (195, [some (.ref 19), some (.int (nI v)), some (.int (nI k)), some (.int (nI x)), some (.int bv), some (.int (nI t)), some (.int (nI oo)), some (.int (-1))], [], wd C (upd Y.1 9 ((Y.1 9) ||| 2), wd_u Y.2.1 5 (upd (upd (Y.2.1 5) t (nI x)) x (-1)), Y.2.2) og)) rfl ?_
      refine am_steps_r ok_M_enter 8 (q' := (216, [some (.ref 19), some (.int (nI v)), some (.int (nI k)), some (.int (nI x)), some (.int bv), some (.int (nI t)), some (.int (nI oo)), some (.int (-1))], [.int (nI x), .int (nI v), .ref 25], wd C (upd Y.1 9 ((Y.1 9) ||| 2), wd_u Y.2.1 5 (upd (upd (Y.2.1 5) t (nI x)) x (-1)), Y.2.2) og)) rfl ?_
      refine am_iast_r ok_M_enter rfl (w := wd C (upd Y.1 9 ((Y.1 9) ||| 2), wd_u Y.2.1 5 (upd (upd (Y.2.1 5) t (nI x)) x (-1)), Y.2.2) og) (f := Y.2.1 4) rfl rfl (pk_in v 300 (by omega)) ?_
      rw [nI_clamp (show v < 2 ^ 31 by omega)]
      refine am_eq_r (q' := (217, [some (.ref 19), some (.int (nI v)), some (.int (nI k)), some (.int (nI x)), some (.int bv), some (.int (nI t)), some (.int (nI oo)), some (.int (-1))], [], wd C (upd Y.1 9 ((Y.1 9) ||| 2), wd_u (wd_u Y.2.1 5 (upd (upd (Y.2.1 5) t (nI x)) x (-1))) 4 (upd (Y.2.1 4) v (nI x)), Y.2.2) og)) rfl ?_
      refine am_vret_r ok_M_enter rfl rfl rfl ?_
      exact hp
set_option maxHeartbeats 4000000 in
set_option maxRecDepth 100000 in
theorem tl_M_enter_4s (d : Nat) (C : wd_C) (Y : wd_Y) (og : Nat → Int64) (nv u : Nat) (hV : vsy Y nv u) (v k x : Nat) (hv : v < nv) (hk : k < nv) (hx : x < nv) (t oo : Nat) (ht : t < nv) (ho : oo < nv) (hto : Y.2.1 5 t = nI oo) (bv : Int32) (r0 : Nat) (hr0 : r0 < nv) (hor : Y.2.1 5 oo = nI r0) (hkx : ¬ Y.2.1 2 x = 0) (post : Option Value → am_W → Prop) (hp : post none (wd C (ySetE Y v t x (some r0)) og)) : am_Rn l D cA ad fm (d + 1) m_M_enter (wd C Y og).length post (48, [some (.ref 19), some (.int (nI v)), some (.int (nI k)), some (.int (nI x)), some (.int bv), some (.int (nI t)), none, none], [], wd C Y og) := by
  have hv1 := hV.2.1
  have hv2 := hV.2.2.2
  refine am_steps_r ok_M_enter 3 (q' := (bif decide ((nI t) = (-1)) then 54 else 76, [some (.ref 19), some (.int (nI v)), some (.int (nI k)), some (.int (nI x)), some (.int bv), some (.int (nI t)), none, none], [], wd C Y og)) rfl ?_
  refine am_br_r (fun h_1 => ?_) (fun h_1 => ?_)
  · skip
    exact absurd h_1 (nI_nm (show t < 2 ^ 31 by omega))
  · skip
    refine am_steps_r ok_M_enter 9 (q' := (92, [some (.ref 19), some (.int (nI v)), some (.int (nI k)), some (.int (nI x)), some (.int bv), some (.int (nI t)), none, none], [.int (nI t), .ref 26], wd C (upd Y.1 9 ((Y.1 9) ||| 2), Y.2) og)) rfl ?_
    refine am_iald_r ok_M_enter rfl (w := wd C (upd Y.1 9 ((Y.1 9) ||| 2), Y.2) og) (f := Y.2.1 5) rfl rfl (pk_in t 300 (by omega)) ?_
    rw [nI_clamp (show t < 2 ^ 31 by omega)]
    rw [hto]
    refine am_steps_r ok_M_enter 4 (q' := (101, [some (.ref 19), some (.int (nI v)), some (.int (nI k)), some (.int (nI x)), some (.int bv), some (.int (nI t)), some (.int (nI oo)), none], [.int (nI oo), .ref 26], wd C (upd Y.1 9 ((Y.1 9) ||| 2), Y.2) og)) rfl ?_
    refine am_iald_r ok_M_enter rfl (w := wd C (upd Y.1 9 ((Y.1 9) ||| 2), Y.2) og) (f := Y.2.1 5) rfl rfl (pk_in oo 300 (by omega)) ?_
    rw [nI_clamp (show oo < 2 ^ 31 by omega)]
    rw [hor]
    refine am_steps_r ok_M_enter 4 (q' := (109, [some (.ref 19), some (.int (nI v)), some (.int (nI k)), some (.int (nI x)), some (.int bv), some (.int (nI t)), some (.int (nI oo)), some (.int (nI r0))], [.int (nI x), .ref 22], wd C (upd Y.1 9 ((Y.1 9) ||| 2), Y.2) og)) rfl ?_
    refine am_iald_r ok_M_enter rfl (w := wd C (upd Y.1 9 ((Y.1 9) ||| 2), Y.2) og) (f := Y.2.1 2) rfl rfl (pk_in x 300 (by omega)) ?_
    rw [nI_clamp (show x < 2 ^ 31 by omega)]
    refine am_steps_r ok_M_enter 1 (q' := (bif decide ((Y.2.1 2 x) = 0) then 113 else 179, [some (.ref 19), some (.int (nI v)), some (.int (nI k)), some (.int (nI x)), some (.int bv), some (.int (nI t)), some (.int (nI oo)), some (.int (nI r0))], [], wd C (upd Y.1 9 ((Y.1 9) ||| 2), Y.2) og)) rfl ?_
    refine am_br_r (fun h_2 => ?_) (fun h_2 => ?_)
    · skip
      exact absurd h_2 hkx
    · skip
      refine am_steps_r ok_M_enter 4 (q' := (186, [some (.ref 19), some (.int (nI v)), some (.int (nI k)), some (.int (nI x)), some (.int bv), some (.int (nI t)), some (.int (nI oo)), some (.int (nI r0))], [.int (nI x), .int (nI t), .ref 26], wd C (upd Y.1 9 ((Y.1 9) ||| 2), Y.2) og)) rfl ?_
      refine am_iast_r ok_M_enter rfl (w := wd C (upd Y.1 9 ((Y.1 9) ||| 2), Y.2) og) (f := Y.2.1 5) rfl rfl (pk_in t 300 (by omega)) ?_
      rw [nI_clamp (show t < 2 ^ 31 by omega)]
      refine am_eq_r (q' := (187, [some (.ref 19), some (.int (nI v)), some (.int (nI k)), some (.int (nI x)), some (.int bv), some (.int (nI t)), some (.int (nI oo)), some (.int (nI r0))], [], wd C (upd Y.1 9 ((Y.1 9) ||| 2), wd_u Y.2.1 5 (upd (Y.2.1 5) t (nI x)), Y.2.2) og)) rfl ?_
      refine am_steps_r ok_M_enter 4 (q' := (194, [some (.ref 19), some (.int (nI v)), some (.int (nI k)), some (.int (nI x)), some (.int bv), some (.int (nI t)), some (.int (nI oo)), some (.int (nI r0))], [.int (nI r0), .int (nI x), .ref 26], wd C (upd Y.1 9 ((Y.1 9) ||| 2), wd_u Y.2.1 5 (upd (Y.2.1 5) t (nI x)), Y.2.2) og)) rfl ?_
      refine am_iast_r ok_M_enter rfl (w := wd C (upd Y.1 9 ((Y.1 9) ||| 2), wd_u Y.2.1 5 (upd (Y.2.1 5) t (nI x)), Y.2.2) og) (f := (upd (Y.2.1 5) t (nI x))) rfl rfl (pk_in x 300 (by omega)) ?_
      rw [nI_clamp (show x < 2 ^ 31 by omega)]
      refine am_eq_r (q' := (195, [some (.ref 19), some (.int (nI v)), some (.int (nI k)), some (.int (nI x)), some (.int bv), some (.int (nI t)), some (.int (nI oo)), some (.int (nI r0))], [], wd C (upd Y.1 9 ((Y.1 9) ||| 2), wd_u Y.2.1 5 (upd (upd (Y.2.1 5) t (nI x)) x (nI r0)), Y.2.2) og)) rfl ?_
      refine am_steps_r ok_M_enter 6 (q' := (bif decide ((nI r0) = (-1)) then 206 else 210, [some (.ref 19), some (.int (nI v)), some (.int (nI k)), some (.int (nI x)), some (.int bv), some (.int (nI t)), some (.int (nI oo)), some (.int (nI r0))], [.int (nI v), .ref 25], wd C (upd Y.1 9 ((Y.1 9) ||| 2), wd_u Y.2.1 5 (upd (upd (Y.2.1 5) t (nI x)) x (nI r0)), Y.2.2) og)) rfl ?_
      refine am_br_r (fun h_3 => ?_) (fun h_3 => ?_)
      · skip
        exact absurd h_3 (nI_nm (show r0 < 2 ^ 31 by omega))
      · skip
        refine am_steps_r ok_M_enter 3 (q' := (215, [some (.ref 19), some (.int (nI v)), some (.int (nI k)), some (.int (nI x)), some (.int bv), some (.int (nI t)), some (.int (nI oo)), some (.int (nI r0))], [.int (nI v), .ref 25, .int (nI v), .ref 25], wd C (upd Y.1 9 ((Y.1 9) ||| 2), wd_u Y.2.1 5 (upd (upd (Y.2.1 5) t (nI x)) x (nI r0)), Y.2.2) og)) rfl ?_
        refine am_iald_r ok_M_enter rfl (w := wd C (upd Y.1 9 ((Y.1 9) ||| 2), wd_u Y.2.1 5 (upd (upd (Y.2.1 5) t (nI x)) x (nI r0)), Y.2.2) og) (f := Y.2.1 4) rfl rfl (pk_in v 300 (by omega)) ?_
        rw [nI_clamp (show v < 2 ^ 31 by omega)]
        refine am_iast_r ok_M_enter rfl (w := wd C (upd Y.1 9 ((Y.1 9) ||| 2), wd_u Y.2.1 5 (upd (upd (Y.2.1 5) t (nI x)) x (nI r0)), Y.2.2) og) (f := Y.2.1 4) rfl rfl (pk_in v 300 (by omega)) ?_
        rw [nI_clamp (show v < 2 ^ 31 by omega)]
        refine am_eq_r (q' := (217, [some (.ref 19), some (.int (nI v)), some (.int (nI k)), some (.int (nI x)), some (.int bv), some (.int (nI t)), some (.int (nI oo)), some (.int (nI r0))], [], wd C (upd Y.1 9 ((Y.1 9) ||| 2), wd_u (wd_u Y.2.1 5 (upd (upd (Y.2.1 5) t (nI x)) x (nI r0))) 4 (upd (Y.2.1 4) v (Y.2.1 4 v)), Y.2.2) og)) rfl ?_
        refine am_vret_r ok_M_enter rfl rfl rfl ?_
        exact hp
end C38
