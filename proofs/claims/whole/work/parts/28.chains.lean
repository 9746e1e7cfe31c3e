/-! the component's chains and bytes of values; printed by wip/gen/g28.py -/
def vPart (C : wd_C) (v p : Nat) (last : Option Nat) : wd_C := ((vChain C v p last).1, wd_u (vChain C v p last).2.1 4 (upd ((vChain C v p last).2.1 4) v ((vChain C v p last).2.1 4 v + 1)), (vChain C v p last).2.2)
def vKeyA (C : wd_C) (v p : Nat) (last : Option Nat) (x : Int32) : wd_C := ((vChain C v p last).1, wd_u (wd_u (vChain C v p last).2.1 4 (upd ((vChain C v p last).2.1 4) v ((vChain C v p last).2.1 4 v + 2))) 8 (upd ((vChain C v p last).2.1 8) p x), (vChain C v p last).2.2)
section C28
variable {l : Launch} {D : va_G} {cA : Nat → ClassId} {ad : Nat → Nat} {fm : Value}
set_option maxHeartbeats 4000000 in
set_option maxRecDepth 100000 in
theorem c_V_chain_n (d : Nat) (C : wd_C) (Y : wd_Y) (og : Nat → Int64) (nv u : Nat) (hV : vsz C nv u) (v p : Nat) (hv : v < nv) (hp : p < nv) (hq : C.2.1 6 v = -1) : am_Mt l D cA ad fm (d + 0) m_V_chain [.ref 3, .int (nI v), .int (nI p)] (wd C Y og) (fun vr w' => vr = none ∧ w' = wd (vChain C v p none) Y og) := by
  have hv1 := hV.2.1
  have hv2 := hV.2.2.2
  refine am_mt ok_V_chain (by simp [am_arg, Value.category, m_V_chain, am_ml]) ?_
  refine am_eq_r (q' := (0, [some (.ref 3), some (.int (nI v)), some (.int (nI p)), none], [], wd C Y og)) rfl ?_
  refine am_steps_r ok_V_chain 3 (q' := (5, [some (.ref 3), some (.int (nI v)), some (.int (nI p)), none], [.int (nI v), .ref 10], wd C Y og)) rfl ?_
  refine am_iald_r ok_V_chain rfl (w := wd C Y og) (f := C.2.1 6) rfl rfl (pk_in v 300 (by omega)) ?_
  rw [nI_clamp (show v < 2 ^ 31 by omega)]
  rw [hq]
  refine am_steps_r ok_V_chain 7 (q' := (35, [some (.ref 3), some (.int (nI v)), some (.int (nI p)), some (.int (-1))], [.int (nI p), .int (nI v), .ref 9], wd C Y og)) rfl ?_
  refine am_iast_r ok_V_chain rfl (w := wd C Y og) (f := C.2.1 5) rfl rfl (pk_in v 300 (by omega)) ?_
  rw [nI_clamp (show v < 2 ^ 31 by omega)]
  refine am_eq_r (q' := (36, [some (.ref 3), some (.int (nI v)), some (.int (nI p)), some (.int (-1))], [], wd (C.1, wd_u C.2.1 5 (upd (C.2.1 5) v (nI p)), C.2.2) Y og)) rfl ?_
  refine am_steps_r ok_V_chain 4 (q' := (42, [some (.ref 3), some (.int (nI v)), some (.int (nI p)), some (.int (-1))], [.int (nI p), .int (nI v), .ref 10], wd (C.1, wd_u C.2.1 5 (upd (C.2.1 5) v (nI p)), C.2.2) Y og)) rfl ?_
  refine am_iast_r ok_V_chain rfl (w := wd (C.1, wd_u C.2.1 5 (upd (C.2.1 5) v (nI p)), C.2.2) Y og) (f := C.2.1 6) rfl rfl (pk_in v 300 (by omega)) ?_
  rw [nI_clamp (show v < 2 ^ 31 by omega)]
  refine am_eq_r (q' := (43, [some (.ref 3), some (.int (nI v)), some (.int (nI p)), some (.int (-1))], [], wd (C.1, wd_u (wd_u C.2.1 5 (upd (C.2.1 5) v (nI p))) 6 (upd (C.2.1 6) v (nI p)), C.2.2) Y og)) rfl ?_
  refine am_vret_r ok_V_chain rfl rfl rfl ?_
  first | (exfalso; omega) | exact ⟨rfl, rfl⟩
set_option maxHeartbeats 4000000 in
set_option maxRecDepth 100000 in
theorem c_V_addPart_n (d : Nat) (C : wd_C) (Y : wd_Y) (og : Nat → Int64) (nv u : Nat) (hV : vsz C nv u) (v p : Nat) (hv : v < nv) (hp : p < nv) (hq : C.2.1 6 v = -1) : am_Mt l D cA ad fm (d + 1) m_V_addPart [.ref 3, .int (nI v), .int (nI p)] (wd C Y og) (fun vr w' => vr = none ∧ w' = wd (vPart C v p none) Y og) := by
  have hv1 := hV.2.1
  have hv2 := hV.2.2.2
  refine am_mt ok_V_addPart (by simp [am_arg, Value.category, m_V_addPart, am_ml]) ?_
  refine am_eq_r (q' := (0, [some (.ref 3), some (.int (nI v)), some (.int (nI p))], [], wd C Y og)) rfl ?_
  refine am_steps_r ok_V_addPart 2 (q' := (2, [some (.ref 3), some (.int (nI v)), some (.int (nI p))], [.int (nI v), .ref 3], wd C Y og)) rfl ?_
  refine am_callV_r (As := [.int (nI v)]) (rest := []) ok_V_addPart rfl rfl ok_V_has oi_V_has lk_3_60 (Or.inl ⟨_, _, _, rfl, rfl, rfl⟩) rfl rfl (Nat.le_of_ble_eq_true rfl) (c_V_has_in _ C Y og nv u hV v (by omega)) ?_
  rintro v_ w_ ⟨rfl, rfl⟩ -
  refine am_eq_r (q' := (5, [some (.ref 3), some (.int (nI v)), some (.int (nI p))], [.int 1], wd C Y og)) rfl ?_
  refine am_steps_r ok_V_addPart 3 (q' := (10, [some (.ref 3), some (.int (nI v)), some (.int (nI p))], [.int (nI p), .ref 3], wd C Y og)) rfl ?_
  refine am_callV_r (As := [.int (nI p)]) (rest := []) ok_V_addPart rfl rfl ok_V_has oi_V_has lk_3_60 (Or.inl ⟨_, _, _, rfl, rfl, rfl⟩) rfl rfl (Nat.le_of_ble_eq_true rfl) (c_V_has_in _ C Y og nv u hV p (by omega)) ?_
  rintro v_ w_ ⟨rfl, rfl⟩ -
  refine am_eq_r (q' := (13, [some (.ref 3), some (.int (nI v)), some (.int (nI p))], [.int 1], wd C Y og)) rfl ?_
  refine am_steps_r ok_V_addPart 4 (q' := (19, [some (.ref 3), some (.int (nI v)), some (.int (nI p))], [.int (nI p), .int (nI v), .ref 3], wd C Y og)) rfl ?_
  refine am_callV_r (As := [.int (nI v), .int (nI p)]) (rest := []) ok_V_addPart rfl rfl ok_V_chain oi_V_chain lk_3_64 (Or.inl ⟨_, _, _, rfl, rfl, rfl⟩) rfl rfl (Nat.le_of_ble_eq_true rfl) (c_V_chain_n _ C Y og nv u hV v p hv hp hq) ?_
  rintro v_ w_ ⟨rfl, rfl⟩ -
  refine am_eq_r (q' := (22, [some (.ref 3), some (.int (nI v)), some (.int (nI p))], [], wd (vChain C v p none) Y og)) rfl ?_
  refine am_steps_r ok_V_addPart 4 (q' := (28, [some (.ref 3), some (.int (nI v)), some (.int (nI p))], [.int (nI v), .ref 8, .int (nI v), .ref 8], wd (vChain C v p none) Y og)) rfl ?_
  refine am_iald_r ok_V_addPart rfl (w := wd (vChain C v p none) Y og) (f := (vChain C v p none).2.1 4) rfl rfl (pk_in v 300 (by omega)) ?_
  rw [nI_clamp (show v < 2 ^ 31 by omega)]
  refine am_steps_r ok_V_addPart 2 (q' := (31, [some (.ref 3), some (.int (nI v)), some (.int (nI p))], [.int (((vChain C v p none).2.1 4 v) + 1), .int (nI v), .ref 8], wd (vChain C v p none) Y og)) rfl ?_
  refine am_iast_r ok_V_addPart rfl (w := wd (vChain C v p none) Y og) (f := (vChain C v p none).2.1 4) rfl rfl (pk_in v 300 (by omega)) ?_
  rw [nI_clamp (show v < 2 ^ 31 by omega)]
  refine am_eq_r (q' := (32, [some (.ref 3), some (.int (nI v)), some (.int (nI p))], [], wd ((vChain C v p none).1, wd_u ((vChain C v p none).2.1) 4 (upd ((vChain C v p none).2.1 4) v (((vChain C v p none).2.1 4 v) + 1)), (vChain C v p none).2.2) Y og)) rfl ?_
  refine am_vret_r ok_V_addPart rfl rfl rfl ?_
  first | (exfalso; omega) | exact ⟨rfl, rfl⟩
set_option maxHeartbeats 4000000 in
set_option maxRecDepth 100000 in
theorem c_V_addKey_n (d : Nat) (C : wd_C) (Y : wd_Y) (og : Nat → Int64) (nv u : Nat) (hV : vsz C nv u) (v p : Nat) (hv : v < nv) (hp : p < nv) (x : Int32) (hq : C.2.1 6 v = -1) : am_Mt l D cA ad fm (d + 1) m_V_addKey [.ref 3, .int (nI v), .int (nI p), .int x] (wd C Y og) (fun vr w' => vr = none ∧ w' = wd (vKeyA C v p none x) Y og) := by
  have hv1 := hV.2.1
  have hv2 := hV.2.2.2
  refine am_mt ok_V_addKey (by simp [am_arg, Value.category, m_V_addKey, am_ml]) ?_
  refine am_eq_r (q' := (0, [some (.ref 3), some (.int (nI v)), some (.int (nI p)), some (.int x)], [], wd C Y og)) rfl ?_
  refine am_steps_r ok_V_addKey 2 (q' := (2, [some (.ref 3), some (.int (nI v)), some (.int (nI p)), some (.int x)], [.int (nI v), .ref 3], wd C Y og)) rfl ?_
  refine am_callV_r (As := [.int (nI v)]) (rest := []) ok_V_addKey rfl rfl ok_V_has oi_V_has lk_3_60 (Or.inl ⟨_, _, _, rfl, rfl, rfl⟩) rfl rfl (Nat.le_of_ble_eq_true rfl) (c_V_has_in _ C Y og nv u hV v (by omega)) ?_
  rintro v_ w_ ⟨rfl, rfl⟩ -
  refine am_eq_r (q' := (5, [some (.ref 3), some (.int (nI v)), some (.int (nI p)), some (.int x)], [.int 1], wd C Y og)) rfl ?_
  refine am_steps_r ok_V_addKey 3 (q' := (10, [some (.ref 3), some (.int (nI v)), some (.int (nI p)), some (.int x)], [.int (nI p), .ref 3], wd C Y og)) rfl ?_
  refine am_callV_r (As := [.int (nI p)]) (rest := []) ok_V_addKey rfl rfl ok_V_has oi_V_has lk_3_60 (Or.inl ⟨_, _, _, rfl, rfl, rfl⟩) rfl rfl (Nat.le_of_ble_eq_true rfl) (c_V_has_in _ C Y og nv u hV p (by omega)) ?_
  rintro v_ w_ ⟨rfl, rfl⟩ -
  refine am_eq_r (q' := (13, [some (.ref 3), some (.int (nI v)), some (.int (nI p)), some (.int x)], [.int 1], wd C Y og)) rfl ?_
  refine am_steps_r ok_V_addKey 4 (q' := (19, [some (.ref 3), some (.int (nI v)), some (.int (nI p)), some (.int x)], [.int (nI p), .int (nI v), .ref 3], wd C Y og)) rfl ?_
  refine am_callV_r (As := [.int (nI v), .int (nI p)]) (rest := []) ok_V_addKey rfl rfl ok_V_chain oi_V_chain lk_3_64 (Or.inl ⟨_, _, _, rfl, rfl, rfl⟩) rfl rfl (Nat.le_of_ble_eq_true rfl) (c_V_chain_n _ C Y og nv u hV v p hv hp hq) ?_
  rintro v_ w_ ⟨rfl, rfl⟩ -
  refine am_eq_r (q' := (22, [some (.ref 3), some (.int (nI v)), some (.int (nI p)), some (.int x)], [], wd (vChain C v p none) Y og)) rfl ?_
  refine am_steps_r ok_V_addKey 4 (q' := (28, [some (.ref 3), some (.int (nI v)), some (.int (nI p)), some (.int x)], [.int (nI v), .ref 8, .int (nI v), .ref 8], wd (vChain C v p none) Y og)) rfl ?_
  refine am_iald_r ok_V_addKey rfl (w := wd (vChain C v p none) Y og) (f := (vChain C v p none).2.1 4) rfl rfl (pk_in v 300 (by omega)) ?_
  rw [nI_clamp (show v < 2 ^ 31 by omega)]
  refine am_steps_r ok_V_addKey 2 (q' := (31, [some (.ref 3), some (.int (nI v)), some (.int (nI p)), some (.int x)], [.int (((vChain C v p none).2.1 4 v) + 2), .int (nI v), .ref 8], wd (vChain C v p none) Y og)) rfl ?_
  refine am_iast_r ok_V_addKey rfl (w := wd (vChain C v p none) Y og) (f := (vChain C v p none).2.1 4) rfl rfl (pk_in v 300 (by omega)) ?_
  rw [nI_clamp (show v < 2 ^ 31 by omega)]
  refine am_eq_r (q' := (32, [some (.ref 3), some (.int (nI v)), some (.int (nI p)), some (.int x)], [], wd ((vChain C v p none).1, wd_u ((vChain C v p none).2.1) 4 (upd ((vChain C v p none).2.1 4) v (((vChain C v p none).2.1 4 v) + 2)), (vChain C v p none).2.2) Y og)) rfl ?_
  refine am_steps_r ok_V_addKey 4 (q' := (38, [some (.ref 3), some (.int (nI v)), some (.int (nI p)), some (.int x)], [.int x, .int (nI p), .ref 12], wd ((vChain C v p none).1, wd_u ((vChain C v p none).2.1) 4 (upd ((vChain C v p none).2.1 4) v (((vChain C v p none).2.1 4 v) + 2)), (vChain C v p none).2.2) Y og)) rfl ?_
  refine am_iast_r ok_V_addKey rfl (w := wd ((vChain C v p none).1, wd_u ((vChain C v p none).2.1) 4 (upd ((vChain C v p none).2.1 4) v (((vChain C v p none).2.1 4 v) + 2)), (vChain C v p none).2.2) Y og) (f := (vChain C v p none).2.1 8) rfl rfl (pk_in p 300 (by omega)) ?_
  rw [nI_clamp (show p < 2 ^ 31 by omega)]
  refine am_eq_r (q' := (39, [some (.ref 3), some (.int (nI v)), some (.int (nI p)), some (.int x)], [], wd ((vChain C v p none).1, wd_u (wd_u ((vChain C v p none).2.1) 4 (upd ((vChain C v p none).2.1 4) v (((vChain C v p none).2.1 4 v) + 2))) 8 (upd ((vChain C v p none).2.1 8) p x), (vChain C v p none).2.2) Y og)) rfl ?_
  refine am_vret_r ok_V_addKey rfl rfl rfl ?_
  first | (exfalso; omega) | exact ⟨rfl, rfl⟩
set_option maxHeartbeats 4000000 in
set_option maxRecDepth 100000 in
theorem c_V_chain_s (d : Nat) (C : wd_C) (Y : wd_Y) (og : Nat → Int64) (nv u : Nat) (hV : vsz C nv u) (v p : Nat) (hv : v < nv) (hp : p < nv) (q : Nat) (hq0 : q < nv) (hq : C.2.1 6 v = nI q) : am_Mt l D cA ad fm (d + 0) m_V_chain [.ref 3, .int (nI v), .int (nI p)] (wd C Y og) (fun vr w' => vr = none ∧ w' = wd (vChain C v p (some q)) Y og) := by
  have hv1 := hV.2.1
  have hv2 := hV.2.2.2
  refine am_mt ok_V_chain (by simp [am_arg, Value.category, m_V_chain, am_ml]) ?_
  refine am_eq_r (q' := (0, [some (.ref 3), some (.int (nI v)), some (.int (nI p)), none], [], wd C Y og)) rfl ?_
  refine am_steps_r ok_V_chain 3 (q' := (5, [some (.ref 3), some (.int (nI v)), some (.int (nI p)), none], [.int (nI v), .ref 10], wd C Y og)) rfl ?_
  refine am_iald_r ok_V_chain rfl (w := wd C Y og) (f := C.2.1 6) rfl rfl (pk_in v 300 (by omega)) ?_
  rw [nI_clamp (show v < 2 ^ 31 by omega)]
  rw [hq]
  refine am_steps_r ok_V_chain 3 (q' := (bif decide ((nI q) < 0) then 29 else 11, [some (.ref 3), some (.int (nI v)), some (.int (nI p)), some (.int (nI q))], [], wd C Y og)) rfl ?_
  refine am_br_r (fun h_1 => ?_) (fun h_1 => ?_)
  · skip
    have h_1 : q < 0 := (nI_ltI (show q < 2 ^ 31 by omega) (show 0 < 2 ^ 31 by omega)).mp h_1
    refine am_steps_r ok_V_chain 4 (q' := (35, [some (.ref 3), some (.int (nI v)), some (.int (nI p)), some (.int (nI q))], [.int (nI p), .int (nI v), .ref 9], wd C Y og)) rfl ?_
    refine am_iast_r ok_V_chain rfl (w := wd C Y og) (f := C.2.1 5) rfl rfl (pk_in v 300 (by omega)) ?_
    rw [nI_clamp (show v < 2 ^ 31 by omega)]
    refine am_eq_r (q' := (36, [some (.ref 3), some (.int (nI v)), some (.int (nI p)), some (.int (nI q))], [], wd (C.1, wd_u C.2.1 5 (upd (C.2.1 5) v (nI p)), C.2.2) Y og)) rfl ?_
    refine am_steps_r ok_V_chain 4 (q' := (42, [some (.ref 3), some (.int (nI v)), some (.int (nI p)), some (.int (nI q))], [.int (nI p), .int (nI v), .ref 10], wd (C.1, wd_u C.2.1 5 (upd (C.2.1 5) v (nI p)), C.2.2) Y og)) rfl ?_
    refine am_iast_r ok_V_chain rfl (w := wd (C.1, wd_u C.2.1 5 (upd (C.2.1 5) v (nI p)), C.2.2) Y og) (f := C.2.1 6) rfl rfl (pk_in v 300 (by omega)) ?_
    rw [nI_clamp (show v < 2 ^ 31 by omega)]
    refine am_eq_r (q' := (43, [some (.ref 3), some (.int (nI v)), some (.int (nI p)), some (.int (nI q))], [], wd (C.1, wd_u (wd_u C.2.1 5 (upd (C.2.1 5) v (nI p))) 6 (upd (C.2.1 6) v (nI p)), C.2.2) Y og)) rfl ?_
    refine am_vret_r ok_V_chain rfl rfl rfl ?_
    first | (exfalso; omega) | exact ⟨rfl, rfl⟩
  · skip
    have h_1 : ¬ q < 0 := fun z => h_1 ((nI_ltI (show q < 2 ^ 31 by omega) (show 0 < 2 ^ 31 by omega)).mpr z)
    refine am_steps_r ok_V_chain 4 (q' := (bif decide ((C.1 1) ≤ (nI q)) then 29 else 19, [some (.ref 3), some (.int (nI v)), some (.int (nI p)), some (.int (nI q))], [], wd C Y og)) rfl ?_
    rw [show (C.1 1 : Int32) = nI nv from hV.1]
    refine am_br_r (fun h_2 => ?_) (fun h_2 => ?_)
    · skip
      have h_2 : nv ≤ q := (nI_leI (show nv < 2 ^ 31 by omega) (show q < 2 ^ 31 by omega)).mp h_2
      refine am_steps_r ok_V_chain 4 (q' := (35, [some (.ref 3), some (.int (nI v)), some (.int (nI p)), some (.int (nI q))], [.int (nI p), .int (nI v), .ref 9], wd C Y og)) rfl ?_
      refine am_iast_r ok_V_chain rfl (w := wd C Y og) (f := C.2.1 5) rfl rfl (pk_in v 300 (by omega)) ?_
      rw [nI_clamp (show v < 2 ^ 31 by omega)]
      refine am_eq_r (q' := (36, [some (.ref 3), some (.int (nI v)), some (.int (nI p)), some (.int (nI q))], [], wd (C.1, wd_u C.2.1 5 (upd (C.2.1 5) v (nI p)), C.2.2) Y og)) rfl ?_
      refine am_steps_r ok_V_chain 4 (q' := (42, [some (.ref 3), some (.int (nI v)), some (.int (nI p)), some (.int (nI q))], [.int (nI p), .int (nI v), .ref 10], wd (C.1, wd_u C.2.1 5 (upd (C.2.1 5) v (nI p)), C.2.2) Y og)) rfl ?_
      refine am_iast_r ok_V_chain rfl (w := wd (C.1, wd_u C.2.1 5 (upd (C.2.1 5) v (nI p)), C.2.2) Y og) (f := C.2.1 6) rfl rfl (pk_in v 300 (by omega)) ?_
      rw [nI_clamp (show v < 2 ^ 31 by omega)]
      refine am_eq_r (q' := (43, [some (.ref 3), some (.int (nI v)), some (.int (nI p)), some (.int (nI q))], [], wd (C.1, wd_u (wd_u C.2.1 5 (upd (C.2.1 5) v (nI p))) 6 (upd (C.2.1 6) v (nI p)), C.2.2) Y og)) rfl ?_
      refine am_vret_r ok_V_chain rfl rfl rfl ?_
      first | (exfalso; omega) | exact ⟨rfl, rfl⟩
    · skip
      have h_2 : ¬ nv ≤ q := fun z => h_2 ((nI_leI (show nv < 2 ^ 31 by omega) (show q < 2 ^ 31 by omega)).mpr z)
      refine am_steps_r ok_V_chain 4 (q' := (25, [some (.ref 3), some (.int (nI v)), some (.int (nI p)), some (.int (nI q))], [.int (nI p), .int (nI q), .ref 11], wd C Y og)) rfl ?_
      refine am_iast_r ok_V_chain rfl (w := wd C Y og) (f := C.2.1 7) rfl rfl (pk_in q 300 (by omega)) ?_
      rw [nI_clamp (show q < 2 ^ 31 by omega)]
      refine am_eq_r (q' := (26, [some (.ref 3), some (.int (nI v)), some (.int (nI p)), some (.int (nI q))], [], wd (C.1, wd_u C.2.1 7 (upd (C.2.1 7) q (nI p)), C.2.2) Y og)) rfl ?_
      refine am_steps_r ok_V_chain 5 (q' := (42, [some (.ref 3), some (.int (nI v)), some (.int (nI p)), some (.int (nI q))], [.int (nI p), .int (nI v), .ref 10], wd (C.1, wd_u C.2.1 7 (upd (C.2.1 7) q (nI p)), C.2.2) Y og)) rfl ?_
      refine am_iast_r ok_V_chain rfl (w := wd (C.1, wd_u C.2.1 7 (upd (C.2.1 7) q (nI p)), C.2.2) Y og) (f := C.2.1 6) rfl rfl (pk_in v 300 (by omega)) ?_
      rw [nI_clamp (show v < 2 ^ 31 by omega)]
      refine am_eq_r (q' := (43, [some (.ref 3), some (.int (nI v)), some (.int (nI p)), some (.int (nI q))], [], wd (C.1, wd_u (wd_u C.2.1 7 (upd (C.2.1 7) q (nI p))) 6 (upd (C.2.1 6) v (nI p)), C.2.2) Y og)) rfl ?_
      refine am_vret_r ok_V_chain rfl rfl rfl ?_
      first | (exfalso; omega) | exact ⟨rfl, rfl⟩
set_option maxHeartbeats 4000000 in
set_option maxRecDepth 100000 in
theorem c_V_addPart_s (d : Nat) (C : wd_C) (Y : wd_Y) (og : Nat → Int64) (nv u : Nat) (hV : vsz C nv u) (v p : Nat) (hv : v < nv) (hp : p < nv) (q : Nat) (hq0 : q < nv) (hq : C.2.1 6 v = nI q) : am_Mt l D cA ad fm (d + 1) m_V_addPart [.ref 3, .int (nI v), .int (nI p)] (wd C Y og) (fun vr w' => vr = none ∧ w' = wd (vPart C v p (some q)) Y og) := by
  have hv1 := hV.2.1
  have hv2 := hV.2.2.2
  refine am_mt ok_V_addPart (by simp [am_arg, Value.category, m_V_addPart, am_ml]) ?_
  refine am_eq_r (q' := (0, [some (.ref 3), some (.int (nI v)), some (.int (nI p))], [], wd C Y og)) rfl ?_
  refine am_steps_r ok_V_addPart 2 (q' := (2, [some (.ref 3), some (.int (nI v)), some (.int (nI p))], [.int (nI v), .ref 3], wd C Y og)) rfl ?_
  refine am_callV_r (As := [.int (nI v)]) (rest := []) ok_V_addPart rfl rfl ok_V_has oi_V_has lk_3_60 (Or.inl ⟨_, _, _, rfl, rfl, rfl⟩) rfl rfl (Nat.le_of_ble_eq_true rfl) (c_V_has_in _ C Y og nv u hV v (by omega)) ?_
  rintro v_ w_ ⟨rfl, rfl⟩ -
  refine am_eq_r (q' := (5, [some (.ref 3), some (.int (nI v)), some (.int (nI p))], [.int 1], wd C Y og)) rfl ?_
  refine am_steps_r ok_V_addPart 3 (q' := (10, [some (.ref 3), some (.int (nI v)), some (.int (nI p))], [.int (nI p), .ref 3], wd C Y og)) rfl ?_
  refine am_callV_r (As := [.int (nI p)]) (rest := []) ok_V_addPart rfl rfl ok_V_has oi_V_has lk_3_60 (Or.inl ⟨_, _, _, rfl, rfl, rfl⟩) rfl rfl (Nat.le_of_ble_eq_true rfl) (c_V_has_in _ C Y og nv u hV p (by omega)) ?_
  rintro v_ w_ ⟨rfl, rfl⟩ -
  refine am_eq_r (q' := (13, [some (.ref 3), some (.int (nI v)), some (.int (nI p))], [.int 1], wd C Y og)) rfl ?_
  refine am_steps_r ok_V_addPart 4 (q' := (19, [some (.ref 3), some (.int (nI v)), some (.int (nI p))], [.int (nI p), .int (nI v), .ref 3], wd C Y og)) rfl ?_
  refine am_callV_r (As := [.int (nI v), .int (nI p)]) (rest := []) ok_V_addPart rfl rfl ok_V_chain oi_V_chain lk_3_64 (Or.inl ⟨_, _, _, rfl, rfl, rfl⟩) rfl rfl (Nat.le_of_ble_eq_true rfl) (c_V_chain_s _ C Y og nv u hV v p hv hp q hq0 hq) ?_
  rintro v_ w_ ⟨rfl, rfl⟩ -
  refine am_eq_r (q' := (22, [some (.ref 3), some (.int (nI v)), some (.int (nI p))], [], wd (vChain C v p (some q)) Y og)) rfl ?_
  refine am_steps_r ok_V_addPart 4 (q' := (28, [some (.ref 3), some (.int (nI v)), some (.int (nI p))], [.int (nI v), .ref 8, .int (nI v), .ref 8], wd (vChain C v p (some q)) Y og)) rfl ?_
  refine am_iald_r ok_V_addPart rfl (w := wd (vChain C v p (some q)) Y og) (f := (vChain C v p (some q)).2.1 4) rfl rfl (pk_in v 300 (by omega)) ?_
  rw [nI_clamp (show v < 2 ^ 31 by omega)]
  refine am_steps_r ok_V_addPart 2 (q' := (31, [some (.ref 3), some (.int (nI v)), some (.int (nI p))], [.int (((vChain C v p (some q)).2.1 4 v) + 1), .int (nI v), .ref 8], wd (vChain C v p (some q)) Y og)) rfl ?_
  refine am_iast_r ok_V_addPart rfl (w := wd (vChain C v p (some q)) Y og) (f := (vChain C v p (some q)).2.1 4) rfl rfl (pk_in v 300 (by omega)) ?_
  rw [nI_clamp (show v < 2 ^ 31 by omega)]
  refine am_eq_r (q' := (32, [some (.ref 3), some (.int (nI v)), some (.int (nI p))], [], wd ((vChain C v p (some q)).1, wd_u ((vChain C v p (some q)).2.1) 4 (upd ((vChain C v p (some q)).2.1 4) v (((vChain C v p (some q)).2.1 4 v) + 1)), (vChain C v p (some q)).2.2) Y og)) rfl ?_
  refine am_vret_r ok_V_addPart rfl rfl rfl ?_
  first | (exfalso; omega) | exact ⟨rfl, rfl⟩
set_option maxHeartbeats 4000000 in
set_option maxRecDepth 100000 in
theorem c_V_addKey_s (d : Nat) (C : wd_C) (Y : wd_Y) (og : Nat → Int64) (nv u : Nat) (hV : vsz C nv u) (v p : Nat) (hv : v < nv) (hp : p < nv) (x : Int32) (q : Nat) (hq0 : q < nv) (hq : C.2.1 6 v = nI q) : am_Mt l D cA ad fm (d + 1) m_V_addKey [.ref 3, .int (nI v), .int (nI p), .int x] (wd C Y og) (fun vr w' => vr = none ∧ w' = wd (vKeyA C v p (some q) x) Y og) := by
  have hv1 := hV.2.1
  have hv2 := hV.2.2.2
  refine am_mt ok_V_addKey (by simp [am_arg, Value.category, m_V_addKey, am_ml]) ?_
  refine am_eq_r (q' := (0, [some (.ref 3), some (.int (nI v)), some (.int (nI p)), some (.int x)], [], wd C Y og)) rfl ?_
  refine am_steps_r ok_V_addKey 2 (q' := (2, [some (.ref 3), some (.int (nI v)), some (.int (nI p)), some (.int x)], [.int (nI v), .ref 3], wd C Y og)) rfl ?_
  refine am_callV_r (As := [.int (nI v)]) (rest := []) ok_V_addKey rfl rfl ok_V_has oi_V_has lk_3_60 (Or.inl ⟨_, _, _, rfl, rfl, rfl⟩) rfl rfl (Nat.le_of_ble_eq_true rfl) (c_V_has_in _ C Y og nv u hV v (by omega)) ?_
  rintro v_ w_ ⟨rfl, rfl⟩ -
  refine am_eq_r (q' := (5, [some (.ref 3), some (.int (nI v)), some (.int (nI p)), some (.int x)], [.int 1], wd C Y og)) rfl ?_
  refine am_steps_r ok_V_addKey 3 (q' := (10, [some (.ref 3), some (.int (nI v)), some (.int (nI p)), some (.int x)], [.int (nI p), .ref 3], wd C Y og)) rfl ?_
  refine am_callV_r (As := [.int (nI p)]) (rest := []) ok_V_addKey rfl rfl ok_V_has oi_V_has lk_3_60 (Or.inl ⟨_, _, _, rfl, rfl, rfl⟩) rfl rfl (Nat.le_of_ble_eq_true rfl) (c_V_has_in _ C Y og nv u hV p (by omega)) ?_
  rintro v_ w_ ⟨rfl, rfl⟩ -
  refine am_eq_r (q' := (13, [some (.ref 3), some (.int (nI v)), some (.int (nI p)), some (.int x)], [.int 1], wd C Y og)) rfl ?_
  refine am_steps_r ok_V_addKey 4 (q' := (19, [some (.ref 3), some (.int (nI v)), some (.int (nI p)), some (.int x)], [.int (nI p), .int (nI v), .ref 3], wd C Y og)) rfl ?_
  refine am_callV_r (As := [.int (nI v), .int (nI p)]) (rest := []) ok_V_addKey rfl rfl ok_V_chain oi_V_chain lk_3_64 (Or.inl ⟨_, _, _, rfl, rfl, rfl⟩) rfl rfl (Nat.le_of_ble_eq_true rfl) (c_V_chain_s _ C Y og nv u hV v p hv hp q hq0 hq) ?_
  rintro v_ w_ ⟨rfl, rfl⟩ -
  refine am_eq_r (q' := (22, [some (.ref 3), some (.int (nI v)), some (.int (nI p)), some (.int x)], [], wd (vChain C v p (some q)) Y og)) rfl ?_
  refine am_steps_r ok_V_addKey 4 (q' := (28, [some (.ref 3), some (.int (nI v)), some (.int (nI p)), some (.int x)], [.int (nI v), .ref 8, .int (nI v), .ref 8], wd (vChain C v p (some q)) Y og)) rfl ?_
  refine am_iald_r ok_V_addKey rfl (w := wd (vChain C v p (some q)) Y og) (f := (vChain C v p (some q)).2.1 4) rfl rfl (pk_in v 300 (by omega)) ?_
  rw [nI_clamp (show v < 2 ^ 31 by omega)]
  refine am_steps_r ok_V_addKey 2 (q' := (31, [some (.ref 3), some (.int (nI v)), some (.int (nI p)), some (.int x)], [.int (((vChain C v p (some q)).2.1 4 v) + 2), .int (nI v), .ref 8], wd (vChain C v p (some q)) Y og)) rfl ?_
  refine am_iast_r ok_V_addKey rfl (w := wd (vChain C v p (some q)) Y og) (f := (vChain C v p (some q)).2.1 4) rfl rfl (pk_in v 300 (by omega)) ?_
  rw [nI_clamp (show v < 2 ^ 31 by omega)]
  refine am_eq_r (q' := (32, [some (.ref 3), some (.int (nI v)), some (.int (nI p)), some (.int x)], [], wd ((vChain C v p (some q)).1, wd_u ((vChain C v p (some q)).2.1) 4 (upd ((vChain C v p (some q)).2.1 4) v (((vChain C v p (some q)).2.1 4 v) + 2)), (vChain C v p (some q)).2.2) Y og)) rfl ?_
  refine am_steps_r ok_V_addKey 4 (q' := (38, [some (.ref 3), some (.int (nI v)), some (.int (nI p)), some (.int x)], [.int x, .int (nI p), .ref 12], wd ((vChain C v p (some q)).1, wd_u ((vChain C v p (some q)).2.1) 4 (upd ((vChain C v p (some q)).2.1 4) v (((vChain C v p (some q)).2.1 4 v) + 2)), (vChain C v p (some q)).2.2) Y og)) rfl ?_
  refine am_iast_r ok_V_addKey rfl (w := wd ((vChain C v p (some q)).1, wd_u ((vChain C v p (some q)).2.1) 4 (upd ((vChain C v p (some q)).2.1 4) v (((vChain C v p (some q)).2.1 4 v) + 2)), (vChain C v p (some q)).2.2) Y og) (f := (vChain C v p (some q)).2.1 8) rfl rfl (pk_in p 300 (by omega)) ?_
  rw [nI_clamp (show p < 2 ^ 31 by omega)]
  refine am_eq_r (q' := (39, [some (.ref 3), some (.int (nI v)), some (.int (nI p)), some (.int x)], [], wd ((vChain C v p (some q)).1, wd_u (wd_u ((vChain C v p (some q)).2.1) 4 (upd ((vChain C v p (some q)).2.1 4) v (((vChain C v p (some q)).2.1 4 v) + 2))) 8 (upd ((vChain C v p (some q)).2.1 8) p x), (vChain C v p (some q)).2.2) Y og)) rfl ?_
  refine am_vret_r ok_V_addKey rfl rfl rfl ?_
  first | (exfalso; omega) | exact ⟨rfl, rfl⟩
set_option maxHeartbeats 4000000 in
set_option maxRecDepth 100000 in
theorem c_V_addPart_m (d : Nat) (C : wd_C) (Y : wd_Y) (og : Nat → Int64) (nv u : Nat) (hV : vsz C nv u) (v : Nat) (hv : v < nv) : am_Mt l D cA ad fm (d + 1) m_V_addPart [.ref 3, .int (nI v), .int (-1)] (wd C Y og) (fun vr w' => vr = none ∧ w' = wd C Y og) := by
  have hv1 := hV.2.1
  have hv2 := hV.2.2.2
  refine am_mt ok_V_addPart (by simp [am_arg, Value.category, m_V_addPart, am_ml]) ?_
  refine am_eq_r (q' := (0, [some (.ref 3), some (.int (nI v)), some (.int (-1))], [], wd C Y og)) rfl ?_
  refine am_steps_r ok_V_addPart 2 (q' := (2, [some (.ref 3), some (.int (nI v)), some (.int (-1))], [.int (nI v), .ref 3], wd C Y og)) rfl ?_
  refine am_callV_r (As := [.int (nI v)]) (rest := []) ok_V_addPart rfl rfl ok_V_has oi_V_has lk_3_60 (Or.inl ⟨_, _, _, rfl, rfl, rfl⟩) rfl rfl (Nat.le_of_ble_eq_true rfl) (c_V_has_in _ C Y og nv u hV v (by omega)) ?_
  rintro v_ w_ ⟨rfl, rfl⟩ -
  refine am_eq_r (q' := (5, [some (.ref 3), some (.int (nI v)), some (.int (-1))], [.int 1], wd C Y og)) rfl ?_
  refine am_steps_r ok_V_addPart 3 (q' := (10, [some (.ref 3), some (.int (nI v)), some (.int (-1))], [.int (-1), .ref 3], wd C Y og)) rfl ?_
  refine am_callV_r (As := [.int (-1)]) (rest := []) ok_V_addPart rfl rfl ok_V_has oi_V_has lk_3_60 (Or.inl ⟨_, _, _, rfl, rfl, rfl⟩) rfl rfl (Nat.le_of_ble_eq_true rfl) (c_V_has_m _ C Y og nv u hV) ?_
  rintro v_ w_ ⟨rfl, rfl⟩ -
  refine am_eq_r (q' := (13, [some (.ref 3), some (.int (nI v)), some (.int (-1))], [.int 0], wd C Y og)) rfl ?_
  refine am_steps_r ok_V_addPart 1 (q' := (32, [some (.ref 3), some (.int (nI v)), some (.int (-1))], [], wd C Y og)) rfl ?_
  refine am_vret_r ok_V_addPart rfl rfl rfl ?_
  first | (exfalso; omega) | exact ⟨rfl, rfl⟩
end C28
