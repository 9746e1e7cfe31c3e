/-! the component finds and enters keys, over values as lists; printed by wip/gen/g56.py -/
section C56
/-- the key of a dictionary that spells a text -/
def vtSpl (V : VT) (v : Nat) (bs : List Int32) : Option Nat := (keysOf (V.2.2.1 v)).find? (fun a => decide (V.2.2.2 a = bs))
variable {l : Launch} {D : va_G} {cA : Nat → ClassId} {ad : Nat → Nat} {fm : Value}
set_option maxHeartbeats 1000000 in
set_option maxRecDepth 100000 in
theorem c_V_keyLike (d : Nat) (C : wd_C) (Y : wd_Y) (og : Nat → Int64) (nv u : Nat) (V : VT) (hS : vsC C nv u V) (v k : Nat) (hv : v < nv) (hk : k < nv) (hk7 : V.1 v = 7) : am_Mt l D cA ad fm (d + 2) m_V_keyLike [.ref 3, .int (nI v), .int (nI k)] (wd C Y og) (fun vr w' => vr = some (.int (oN (vtFnd V v k))) ∧ w' = wd C Y og) := by
  have hv1 := hS.1.2.1
  refine am_mt ok_V_keyLike (by simp [am_arg, Value.category, m_V_keyLike, am_ml]) ?_
  refine am_eq_r (q' := (0, [some (.ref 3), some (.int (nI v)), some (.int (nI k)), none, none], [], wd C Y og)) rfl ?_
  refine am_steps_r ok_V_keyLike 2 (q' := (2, [some (.ref 3), some (.int (nI v)), some (.int (nI k)), none, none], [.int (nI v), .ref 3], wd C Y og)) rfl ?_
  refine am_callV_r (As := [.int (nI v)]) (rest := []) ok_V_keyLike rfl rfl ok_V_firstOf oi_V_firstOf lk_3_75 (Or.inl ⟨_, _, _, rfl, rfl, rfl⟩) rfl rfl (Nat.le_of_ble_eq_true rfl) (c_V_firstOf_in _ C Y og nv u hS.1 v (by omega)) ?_
  rintro v_ w_ ⟨rfl, rfl⟩ -
  refine am_eq_r (q' := (5, [some (.ref 3), some (.int (nI v)), some (.int (nI k)), none, none], [.int (C.2.1 5 v)], wd C Y og)) rfl ?_
  refine am_steps_r ok_V_keyLike 3 (q' := (9, [some (.ref 3), some (.int (nI v)), some (.int (nI k)), some (.int (C.2.1 5 v)), some (.int 0)], [], wd C Y og)) rfl ?_
  refine am_eq_r (q' := (9, [some (.ref 3), some (.int (nI v)), some (.int (nI k)), some (.int (C.2.1 5 v)), some (.int (nI 0))], [], wd C Y og)) rfl ?_
  obtain ⟨r1, r2, r3, r4, r5, r6, r8, r7⟩ := hS.2.1 v hv
  exact lp_V_keyLike_9 d C Y og nv u hS.1 V.2.2.2 v k hk (V.2.2.2 k) (vsC_bt hS hk).1 (vsC_bt hS hk).2 (keysOf (V.2.2.1 v)) _ 0 _ (fun a ha => ⟨r4 a (keysOf_mem ha), (vsC_bt hS (r4 a (keysOf_mem ha))).1, (vsC_bt hS (r4 a (keysOf_mem ha))).2⟩) (by have := (keysOf_sub (V.2.2.1 v)).length_le; have := vsC_len hS hv; omega) (r7.1 hk7).1 ⟨rfl, rfl⟩
set_option maxHeartbeats 1000000 in
set_option maxRecDepth 100000 in
theorem c_V_keySpelled (d : Nat) (C : wd_C) (Y : wd_Y) (og : Nat → Int64) (nv u : Nat) (V : VT) (hS : vsC C nv u V) (v : Nat) (hv : v < nv) (hk7 : V.1 v = 7) (i co ix : Nat) (tx : String) (b2 : List Int32) (hi : pr_st[i]? = some (co, ix, tx, b2)) (hl : b2.length < 1000) (hfm : fm = .null ∨ fm = .ref 3000)  : am_Mt l D cA ad fm (d + 5) m_V_keySpelled [.ref 3, .int (nI v), .ref (1000 + i)] (wd C Y og) (fun vr w' => vr = some (.int (oN (vtSpl V v b2))) ∧ w' = wd C Y og) := by
  have hv1 := hS.1.2.1
  refine am_mt ok_V_keySpelled (by simp [am_arg, Value.category, m_V_keySpelled, am_ml]) ?_
  refine am_eq_r (q' := (0, [some (.ref 3), some (.int (nI v)), some (.ref (1000 + i)), none, none], [], wd C Y og)) rfl ?_
  refine am_steps_r ok_V_keySpelled 2 (q' := (2, [some (.ref 3), some (.int (nI v)), some (.ref (1000 + i)), none, none], [.int (nI v), .ref 3], wd C Y og)) rfl ?_
  refine am_callV_r (As := [.int (nI v)]) (rest := []) ok_V_keySpelled rfl rfl ok_V_firstOf oi_V_firstOf lk_3_75 (Or.inl ⟨_, _, _, rfl, rfl, rfl⟩) rfl rfl (Nat.le_of_ble_eq_true rfl) (c_V_firstOf_in _ C Y og nv u hS.1 v (by omega)) ?_
  rintro v_ w_ ⟨rfl, rfl⟩ -
  refine am_eq_r (q' := (5, [some (.ref 3), some (.int (nI v)), some (.ref (1000 + i)), none, none], [.int (C.2.1 5 v)], wd C Y og)) rfl ?_
  refine am_steps_r ok_V_keySpelled 3 (q' := (9, [some (.ref 3), some (.int (nI v)), some (.ref (1000 + i)), some (.int (C.2.1 5 v)), some (.int 0)], [], wd C Y og)) rfl ?_
  refine am_eq_r (q' := (9, [some (.ref 3), some (.int (nI v)), some (.ref (1000 + i)), some (.int (C.2.1 5 v)), some (.int (nI 0))], [], wd C Y og)) rfl ?_
  obtain ⟨r1, r2, r3, r4, r5, r6, r8, r7⟩ := hS.2.1 v hv
  exact lp_V_keySpelled_9 d C Y og nv u hS.1 V.2.2.2 v i co ix tx b2 hi hl hfm (keysOf (V.2.2.1 v)) _ 0 _ (fun a ha => ⟨r4 a (keysOf_mem ha), (vsC_bt hS (r4 a (keysOf_mem ha))).1, (vsC_bt hS (r4 a (keysOf_mem ha))).2⟩) (by have := (keysOf_sub (V.2.2.1 v)).length_le; have := vsC_len hS hv; omega) (r7.1 hk7).1 ⟨rfl, rfl⟩
set_option maxHeartbeats 1000000 in
set_option maxRecDepth 100000 in
theorem c_R_enter_n (d : Nat) (C : wd_C) (Y : wd_Y) (og : Nat → Int64) (nv u : Nat) (V : VT) (hS : vsC C nv u V) (v k x : Nat) (hv : v < nv) (hk : k < nv) (hx : x < nv) (hkx : k ≠ x) (hk7 : V.1 v = 7) (hfk : vfr C nv V k) (hfx : vfr C nv V x) (hfd : vtFnd V v k = none) : am_Mt l D cA ad fm (d + 2) m_R_enter [.ref 16, .int (nI v), .int (nI k), .int (nI x), .int (-1)] (wd C Y og) (fun vr w' => vr = none ∧ ∃ C' : wd_C, w' = wd C' Y og ∧ (∀ j, j ≠ 7 → C'.1 j = C.1 j) ∧ C'.1 7 = C.1 7 ∧ aE C C' ∧ vsC C' nv u (vtEnt V v k x) ∧ ∀ y, y ≠ k → y ≠ x → vfr C nv V y → vfr C' nv (vtEnt V v k x) y) := by
  have hv1 := hS.1.2.1
  obtain ⟨r1, r2, r3, r4, r5, r6, r8, r7⟩ := hS.2.1 v hv
  have hkind : C.2.1 1 x = V.1 x := (hS.2.1 x hx).1
  have hlen := vsC_len hS hv
  refine am_mt ok_R_enter (by simp [am_arg, Value.category, m_R_enter, am_ml]) ?_
  refine am_eq_r (q' := (0, [some (.ref 16), some (.int (nI v)), some (.int (nI k)), some (.int (nI x)), some (.int (-1)), none], [], wd C Y og)) rfl ?_
  refine am_steps_r ok_R_enter 3 (q' := (5, [some (.ref 16), some (.int (nI v)), some (.int (nI k)), some (.int (nI x)), some (.int (-1)), none], [.int (nI x), .ref 3], wd C Y og)) rfl ?_
  refine am_callV_r (As := [.int (nI x)]) (rest := []) ok_R_enter rfl rfl ok_V_kindOf oi_V_kindOf lk_1_177 (Or.inl ⟨_, _, _, rfl, rfl, rfl⟩) rfl rfl (Nat.le_of_ble_eq_true rfl) (c_V_kindOf_in _ C Y og nv u hS.1 x (by omega)) ?_
  rintro v_ w_ ⟨rfl, rfl⟩ -
  refine am_eq_r (q' := (8, [some (.ref 16), some (.int (nI v)), some (.int (nI k)), some (.int (nI x)), some (.int (-1)), none], [.int (C.2.1 1 x)], wd C Y og)) rfl ?_
  refine am_steps_r ok_R_enter 1 (q' := (bif decide ((C.2.1 1 x) = 0) then 11 else 15, [some (.ref 16), some (.int (nI v)), some (.int (nI k)), some (.int (nI x)), some (.int (-1)), none], [], wd C Y og)) rfl ?_
  refine am_br_r (fun h_2 => ?_) (fun h_2 => ?_)
  · skip
    refine am_steps_r ok_R_enter 8 (q' := (39, [some (.ref 16), some (.int (nI v)), some (.int (nI k)), some (.int (nI x)), some (.int (-1)), some (.int 1)], [], wd C Y og)) rfl ?_
    refine am_vret_r ok_R_enter rfl rfl rfl ?_
    have h0 : V.1 x = 0 := hkind.symm.trans (by assumption)
    have he : vtEnt V v k x = V := by rw [vtEnt, hfd]; exact if_pos h0
    rw [he]
    exact ⟨rfl, C, rfl, fun _ _ => rfl, rfl, aE_rf C, hS, fun y _ _ hy => hy⟩
  · skip
    refine am_steps_r ok_R_enter 12 (q' := (36, [some (.ref 16), some (.int (nI v)), some (.int (nI k)), some (.int (nI x)), some (.int (-1)), some (.int 0)], [.int (nI x), .int (nI k), .int (nI v), .ref 3], wd C Y og)) rfl ?_
    refine am_callV_r (As := [.int (nI v), .int (nI k), .int (nI x)]) (rest := []) ok_R_enter rfl rfl ok_V_addKey oi_V_addKey lk_1_180 (Or.inl ⟨_, _, _, rfl, rfl, rfl⟩) rfl rfl (Nat.le_of_ble_eq_true rfl) (c_V_addKey_o _ C Y og nv u hS.1 v k (by omega) (by omega) (nI x) (keysOf (V.2.2.1 v)).getLast? (fun q hq => r4 q (keysOf_mem (List.mem_of_getLast? hq))) (r7.1 hk7).2.1) ?_
    rintro v_ w_ ⟨rfl, rfl⟩ -
    refine am_eq_r (q' := (39, [some (.ref 16), some (.int (nI v)), some (.int (nI k)), some (.int (nI x)), some (.int (-1)), some (.int 0)], [], wd (vKeyA C v k (keysOf (V.2.2.1 v)).getLast? (nI x)) Y og)) rfl ?_
    refine am_vret_r ok_R_enter rfl rfl rfl ?_
    have h0 : ¬ V.1 x = 0 := fun z => absurd (hkind.trans z) (by assumption)
    have he : vtEnt V v k x = vtKey V v k x := by rw [vtEnt, hfd]; exact if_neg h0
    have hres := vsC_key hS hv hk hx hkx hk7 hfk hfx (by omega)
    rw [he]
    exact ⟨rfl, _, rfl, fun j _ => by rw [vKeyA_1], by rw [vKeyA_1], aE_key _ _ _ _ _, hres.1, hres.2⟩
set_option maxHeartbeats 1000000 in
set_option maxRecDepth 100000 in
theorem c_R_enter_s (d : Nat) (C : wd_C) (Y : wd_Y) (og : Nat → Int64) (nv u : Nat) (V : VT) (hS : vsC C nv u V) (v k x : Nat) (hv : v < nv) (hk : k < nv) (hx : x < nv) (hkx : k ≠ x) (hk7 : V.1 v = 7) (hfk : vfr C nv V k) (hfx : vfr C nv V x) (t : Nat) (hfd : vtFnd V v k = some t) : am_Mt l D cA ad fm (d + 2) m_R_enter [.ref 16, .int (nI v), .int (nI k), .int (nI x), .int (nI t)] (wd C Y og) (fun vr w' => vr = none ∧ ∃ C' : wd_C, w' = wd C' Y og ∧ (∀ j, j ≠ 7 → C'.1 j = C.1 j) ∧ C'.1 7 = C.1 7 ||| 2 ∧ aE C C' ∧ vsC C' nv u (vtEnt V v k x) ∧ ∀ y, y ≠ k → y ≠ x → vfr C nv V y → vfr C' nv (vtEnt V v k x) y) := by
  have hv1 := hS.1.2.1
  obtain ⟨r1, r2, r3, r4, r5, r6, r8, r7⟩ := hS.2.1 v hv
  have hkind : C.2.1 1 x = V.1 x := (hS.2.1 x hx).1
  have hlen := vsC_len hS hv
  have htm : t ∈ keysOf (V.2.2.1 v) := List.mem_of_find?_eq_some hfd
  have htn : t < nv := r4 t (keysOf_mem htm)
  obtain ⟨l1, l2, hl⟩ := List.append_of_mem htm
  have hnd0 : (l1 ++ t :: l2).Nodup := by rw [← hl]; exact r6.sublist (keysOf_sub _)
  have hnd := List.nodup_append.mp hnd0
  have hl3 : l1.length + 1 ≤ 300 := by have h1 := (keysOf_sub (V.2.2.1 v)).length_le; rw [hl] at h1; simp at h1; omega
  refine am_mt ok_R_enter (by simp [am_arg, Value.category, m_R_enter, am_ml]) ?_
  refine am_eq_r (q' := (0, [some (.ref 16), some (.int (nI v)), some (.int (nI k)), some (.int (nI x)), some (.int (nI t)), none], [], wd C Y og)) rfl ?_
  refine am_steps_r ok_R_enter 3 (q' := (5, [some (.ref 16), some (.int (nI v)), some (.int (nI k)), some (.int (nI x)), some (.int (nI t)), none], [.int (nI x), .ref 3], wd C Y og)) rfl ?_
  refine am_callV_r (As := [.int (nI x)]) (rest := []) ok_R_enter rfl rfl ok_V_kindOf oi_V_kindOf lk_1_177 (Or.inl ⟨_, _, _, rfl, rfl, rfl⟩) rfl rfl (Nat.le_of_ble_eq_true rfl) (c_V_kindOf_in _ C Y og nv u hS.1 x (by omega)) ?_
  rintro v_ w_ ⟨rfl, rfl⟩ -
  refine am_eq_r (q' := (8, [some (.ref 16), some (.int (nI v)), some (.int (nI k)), some (.int (nI x)), some (.int (nI t)), none], [.int (C.2.1 1 x)], wd C Y og)) rfl ?_
  refine am_steps_r ok_R_enter 1 (q' := (bif decide ((C.2.1 1 x) = 0) then 11 else 15, [some (.ref 16), some (.int (nI v)), some (.int (nI k)), some (.int (nI x)), some (.int (nI t)), none], [], wd C Y og)) rfl ?_
  refine am_br_r (fun h_2 => ?_) (fun h_2 => ?_)
  · skip
    refine am_steps_r ok_R_enter 6 (q' := (bif decide ((nI t) = (-1)) then 24 else 40, [some (.ref 16), some (.int (nI v)), some (.int (nI k)), some (.int (nI x)), some (.int (nI t)), some (.int 1)], [], wd C Y og)) rfl ?_
    refine am_br_r (fun h_3 => ?_) (fun h_3 => ?_)
    · skip
      exact absurd h_3 (nI_nm (show t < 2 ^ 31 by omega))
    · skip
      refine am_steps_r ok_R_enter 12 (q' := (62, [some (.ref 16), some (.int (nI v)), some (.int (nI k)), some (.int (nI x)), some (.int (nI t)), some (.int 1)], [.int (nI t), .int (nI v), .ref 3], wd (upd C.1 7 ((C.1 7) ||| 2), C.2) Y og)) rfl ?_
      refine am_callV_r (As := [.int (nI v), .int (nI t)]) (rest := []) ok_R_enter rfl rfl ok_V_removeKey oi_V_removeKey lk_1_184 (Or.inl ⟨_, _, _, rfl, rfl, rfl⟩) rfl rfl (Nat.le_of_ble_eq_true rfl) (c_V_removeKey _ (upd C.1 7 ((C.1 7) ||| 2), C.2) Y og nv u hS.1 v t (by omega) (by omega) l1 l2 (by rw [← hl]; exact (r7.1 hk7).1) (fun a ha => ⟨r4 a (keysOf_mem (by rw [hl]; simp [ha])), fun e => hnd.2.2 a ha t (by simp) e⟩) (fun a ha => ⟨r4 a (keysOf_mem (by rw [hl]; simp [ha])), fun e => (List.nodup_cons.mp hnd.2.1).1 (e ▸ ha)⟩) hl3 (by rw [← hl]; exact (r7.1 hk7).2.1)) ?_
      rintro v_ w_ ⟨rfl, rfl⟩ -
      refine am_eq_r (q' := (65, [some (.ref 16), some (.int (nI v)), some (.int (nI k)), some (.int (nI x)), some (.int (nI t)), some (.int 1)], [], wd (vDel (upd C.1 7 ((C.1 7) ||| 2), C.2) v t l1.getLast? l2.isEmpty) Y og)) rfl ?_
      refine am_steps_r ok_R_enter 1 (q' := (78, [some (.ref 16), some (.int (nI v)), some (.int (nI k)), some (.int (nI x)), some (.int (nI t)), some (.int 1)], [], wd (vDel (upd C.1 7 ((C.1 7) ||| 2), C.2) v t l1.getLast? l2.isEmpty) Y og)) rfl ?_
      refine am_vret_r ok_R_enter rfl rfl rfl ?_
      have h0 : V.1 x = 0 := hkind.symm.trans (by assumption)
      have he : vtEnt V v k x = vtDel V v t := by rw [vtEnt, hfd]; exact if_pos h0
      have hres := vsC_del (C := (upd C.1 7 (C.1 7 ||| 2), C.2)) hS hv hk7 hl
      rw [he]
      exact ⟨rfl, _, rfl, fun j hj => by simp [vDel, upd, hj], rfl, ⟨rfl, rfl, rfl, rfl⟩, hres.1, fun y _ _ hy => hres.2 y hy⟩
  · skip
    refine am_steps_r ok_R_enter 5 (q' := (bif decide ((nI t) = (-1)) then 24 else 40, [some (.ref 16), some (.int (nI v)), some (.int (nI k)), some (.int (nI x)), some (.int (nI t)), some (.int 0)], [], wd C Y og)) rfl ?_
    refine am_br_r (fun h_5 => ?_) (fun h_5 => ?_)
    · skip
      exact absurd h_5 (nI_nm (show t < 2 ^ 31 by omega))
    · skip
      refine am_steps_r ok_R_enter 12 (q' := (75, [some (.ref 16), some (.int (nI v)), some (.int (nI k)), some (.int (nI x)), some (.int (nI t)), some (.int 0)], [.int (nI x), .int (nI t), .ref 3], wd (upd C.1 7 ((C.1 7) ||| 2), C.2) Y og)) rfl ?_
      refine am_callV_r (As := [.int (nI t), .int (nI x)]) (rest := []) ok_R_enter rfl rfl ok_V_holdAnew oi_V_holdAnew lk_1_187 (Or.inl ⟨_, _, _, rfl, rfl, rfl⟩) rfl rfl (Nat.le_of_ble_eq_true rfl) (c_V_holdAnew _ (upd C.1 7 ((C.1 7) ||| 2), C.2) Y og nv u hS.1 t (by omega) (nI x)) ?_
      rintro v_ w_ ⟨rfl, rfl⟩ -
      refine am_eq_r (q' := (78, [some (.ref 16), some (.int (nI v)), some (.int (nI k)), some (.int (nI x)), some (.int (nI t)), some (.int 0)], [], wd ((upd C.1 7 ((C.1 7) ||| 2), C.2).1, wd_u (upd C.1 7 ((C.1 7) ||| 2), C.2).2.1 8 (upd ((upd C.1 7 ((C.1 7) ||| 2), C.2).2.1 8) t (nI x)), (upd C.1 7 ((C.1 7) ||| 2), C.2).2.2) Y og)) rfl ?_
      refine am_vret_r ok_R_enter rfl rfl rfl ?_
      have h0 : ¬ V.1 x = 0 := fun z => absurd (hkind.trans z) (by assumption)
      have he : vtEnt V v k x = vtSet V v t x := by rw [vtEnt, hfd]; exact if_neg h0
      have hres := vsC_hold (C := (upd C.1 7 (C.1 7 ||| 2), C.2)) hS hv hk7 htm hx hfx
      rw [he]
      exact ⟨rfl, _, rfl, fun j hj => by simp [upd, hj], rfl, ⟨rfl, rfl, rfl, rfl⟩, hres.1, fun y _ hyx hy => hres.2 y hyx hy⟩
end C56
