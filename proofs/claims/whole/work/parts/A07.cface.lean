/-! the face of the component; printed by wip/gen/g107.py -/
/-- any int is below 0, or a number -/
theorem i32_cases (y : Int32) : y < 0 ∨ ∃ k, k < 2 ^ 31 ∧ y = nI k := by
  by_cases h : y < 0
  · exact Or.inl h
  · have h2 : 0 ≤ y := Int32.not_lt.mp h
    refine Or.inr ⟨y.toNatClampNeg, ?_, ?_⟩
    · have := Int32.toInt_lt y
      have e : (y.toNatClampNeg : Int) = y.toInt := Int.toNat_of_nonneg (by simpa using (Int32.le_iff_toInt_le.mp h2))
      omega
    · apply Int32.toInt_inj.mp
      have e : (y.toNatClampNeg : Int) = y.toInt := Int.toNat_of_nonneg (by simpa using (Int32.le_iff_toInt_le.mp h2))
      have l := Int32.toInt_lt y
      rw [show (nI y.toNatClampNeg).toInt = ((y.toNatClampNeg : Nat) : Int) from Int32.toInt_ofNat_of_lt (by omega), e]
/-- the bytes that were written -/
def ouC (C : wd_C) (O : List Int32) : Prop := C.1 11 = nI O.length ∧ O.length ≤ 4000 ∧ (∀ k, k < O.length → byR (C.2.1 11 k) (O.getD k 0))
def ouY (Y : wd_Y) (O : List Int32) : Prop := Y.1 13 = nI O.length ∧ O.length ≤ 4000 ∧ (∀ k, k < O.length → Y.2.1 13 k = O.getD k 0)
/-- the k-th part -/
def chK (ks : List Nat) (k : Nat) : Int32 := oN ks[k]?
theorem lkd_at {nx : Nat → Int32} : ∀ {r : List Nat} {x : Int32}, lkd nx x r → r ≠ [] → x = nI (r.headD 0)
  | [], x, h, hn => absurd rfl hn
  | a :: r, x, h, _ => h.1
theorem keys_at {ks : List Nat} : ∀ {j : Nat}, (keysOf ks)[j]? = if 2 * j + 1 < ks.length then ks[2 * j]? else none := by
  induction ks using keysOf.induct with
  | case1 k x r ih =>
    intro j
    rcases j with _ | j
    · simp [keysOf]
    · simp only [keysOf, List.getElem?_cons_succ, ih, List.length_cons]
      rw [show 2 * (j + 1) = 2 * j + 1 + 1 by omega, List.getElem?_cons_succ, List.getElem?_cons_succ]
      by_cases h : 2 * j + 1 < r.length
      · rw [if_pos h, if_pos (by omega)]
      · rw [if_neg h, if_neg (by omega)]
  | case2 ks h =>
    intro j
    have e : keysOf ks = [] := by
      rcases ks with _ | ⟨a, _ | ⟨c, r⟩⟩
      · rfl
      · rfl
      · exact absurd rfl (h a c r)
    rw [e]
    rcases ks with _ | ⟨a, _ | ⟨c, r⟩⟩
    · simp
    · simp
    · exact absurd rfl (h a c r)
theorem hld_at {g : Nat → Int32} : ∀ {ks : List Nat}, hld g ks → ∀ {j a : Nat}, ks[2 * j]? = some a → g a = oN ks[2 * j + 1]?
  | [], _, j, a, h => by simp at h
  | [c], h, _, _, _ => absurd h (by simp [hld])
  | k :: x :: r, hh, j, a, h => by
    rcases j with _ | j
    · simp at h
      subst h
      simpa [oN] using hh.1
    · rw [show 2 * (j + 1) = 2 * j + 1 + 1 by omega] at h ⊢
      rw [List.getElem?_cons_succ, List.getElem?_cons_succ] at h
      rw [List.getElem?_cons_succ, List.getElem?_cons_succ]
      exact hld_at hh.2 h
theorem lkd_drop {nx : Nat → Int32} {r : List Nat} {x : Int32} {j a : Nat} (h : lkd nx x (r.drop j)) (ha : r[j]? = some a) : x = nI a ∧ lkd nx (nx a) (r.drop (j + 1)) := by
  have hj : j < r.length := by
    rcases Nat.lt_or_ge j r.length with q | q
    · exact q
    · rw [List.getElem?_eq_none q] at ha; cases ha
  rw [List.drop_eq_getElem_cons hj] at h
  have e : r[j] = a := by rw [List.getElem?_eq_getElem hj] at ha; exact Option.some.inj ha
  rw [e] at h
  exact h
theorem nI_rem2 (k : Nat) (h : k < 2 ^ 31) : nI k - nI k / 2 * 2 = nI (k % 2) := by
  have e1 : nI k / 2 = nI (k / 2) := nIdiv k 2 h (by decide)
  rw [e1, show nI (k / 2) * 2 = nI (k / 2 * 2) from pk_mul (k / 2) 2, pk_sub (a := k) (b := k / 2 * 2) (by omega), show k - k / 2 * 2 = k % 2 by omega]
theorem byR_c {x y : Int32} (h : byR x y) : x &&& 255 = y := byR_and h
section C107
variable {l : Launch} {D : va_G} {cA : Nat → ClassId} {ad : Nat → Nat} {fm : Value}
set_option maxHeartbeats 4000000 in
set_option maxRecDepth 100000 in
theorem c_W_at_k (d : Nat) (C : wd_C) (Y : wd_Y) (og : Nat → Int64) (O : List Int32) (hU : ouC C O) (k : Nat) (hk : k < 2 ^ 31) : am_Mt l D cA ad fm (d + 0) m_W_at [.ref 17, .int (nI k)] (wd C Y og) (fun vr w' => vr = some (.int (if k < O.length then O.getD k 0 else -1)) ∧ w' = wd C Y og) := by
  have ho4 := hU.2.1
  refine am_mt ok_W_at (by simp [am_arg, Value.category, m_W_at, am_ml]) ?_
  refine am_eq_r (q' := (0, [some (.ref 17), some (.int (nI k))], [], wd C Y og)) rfl ?_
  refine am_steps_r ok_W_at 2 (q' := (bif decide ((nI k) < 0) then 12 else 4, [some (.ref 17), some (.int (nI k))], [], wd C Y og)) rfl ?_
  refine am_br_r (fun h_1 => ?_) (fun h_1 => ?_)
  · skip
    have h_1 : k < 0 := (nI_ltI (show k < 2 ^ 31 by omega) (show 0 < 2 ^ 31 by omega)).mp h_1
    refine am_steps_r ok_W_at 2 (q' := (26, [some (.ref 17), some (.int (nI k))], [.int (-1)], wd C Y og)) rfl ?_
    refine am_iret_r ok_W_at rfl rfl rfl ?_
    first | (exfalso; omega) | exact ⟨by rw [if_pos (by omega), byR_c (hU.2.2 k (by omega))], rfl⟩ | exact ⟨by rw [if_neg (by omega)], rfl⟩
  · skip
    have h_1 : ¬ k < 0 := fun z => h_1 ((nI_ltI (show k < 2 ^ 31 by omega) (show 0 < 2 ^ 31 by omega)).mpr z)
    refine am_steps_r ok_W_at 4 (q' := (bif decide ((nI k) < (C.1 11)) then 16 else 12, [some (.ref 17), some (.int (nI k))], [], wd C Y og)) rfl ?_
    rw [show (C.1 11 : Int32) = nI O.length from hU.1]
    refine am_br_r (fun h_2 => ?_) (fun h_2 => ?_)
    · skip
      have h_2 : k < O.length := (nI_ltI (show k < 2 ^ 31 by omega) (show O.length < 2 ^ 31 by omega)).mp h_2
      refine am_steps_r ok_W_at 3 (q' := (21, [some (.ref 17), some (.int (nI k))], [.int (nI k), .ref 18], wd C Y og)) rfl ?_
      refine am_bald_r ok_W_at rfl (w := wd C Y og) (f := C.2.1 11) rfl rfl (pk_in k 4000 (by omega)) ?_
      rw [nI_clamp (show k < 2 ^ 31 by omega)]
      refine am_steps_r ok_W_at 2 (q' := (26, [some (.ref 17), some (.int (nI k))], [.int ((C.2.1 11 k) &&& 255)], wd C Y og)) rfl ?_
      refine am_iret_r ok_W_at rfl rfl rfl ?_
      first | (exfalso; omega) | exact ⟨by rw [if_pos (by omega), byR_c (hU.2.2 k (by omega))], rfl⟩ | exact ⟨by rw [if_neg (by omega)], rfl⟩
    · skip
      have h_2 : ¬ k < O.length := fun z => h_2 ((nI_ltI (show k < 2 ^ 31 by omega) (show O.length < 2 ^ 31 by omega)).mpr z)
      refine am_steps_r ok_W_at 2 (q' := (26, [some (.ref 17), some (.int (nI k))], [.int (-1)], wd C Y og)) rfl ?_
      refine am_iret_r ok_W_at rfl rfl rfl ?_
      first | (exfalso; omega) | exact ⟨by rw [if_pos (by omega), byR_c (hU.2.2 k (by omega))], rfl⟩ | exact ⟨by rw [if_neg (by omega)], rfl⟩
set_option maxHeartbeats 4000000 in
set_option maxRecDepth 100000 in
theorem c_S_out_k (d : Nat) (C : wd_C) (Y : wd_Y) (og : Nat → Int64) (O : List Int32) (hU : ouC C O) (k : Nat) (hk : k < 2 ^ 31) : am_Mt l D cA ad fm (d + 1) m_S_out [.ref 0, .int (nI k)] (wd C Y og) (fun vr w' => vr = some (.int (if k < O.length then O.getD k 0 else -1)) ∧ w' = wd C Y og) := by
  refine am_mt ok_S_out (by simp [am_arg, Value.category, m_S_out, am_ml]) ?_
  refine am_eq_r (q' := (0, [some (.ref 0), some (.int (nI k))], [], wd C Y og)) rfl ?_
  refine am_steps_r ok_S_out 3 (q' := (5, [some (.ref 0), some (.int (nI k))], [.int (nI k), .ref 17], wd C Y og)) rfl ?_
  refine am_callV_r (As := [.int (nI k)]) (rest := []) ok_S_out rfl rfl ok_W_at oi_W_at lk_5_125 (Or.inl ⟨_, _, _, rfl, rfl, rfl⟩) rfl rfl (Nat.le_of_ble_eq_true rfl) (c_W_at_k _ C Y og O hU k hk) ?_
  rintro v_ w_ ⟨rfl, rfl⟩ -
  refine am_eq_r (q' := (8, [some (.ref 0), some (.int (nI k))], [.int (if k < O.length then O.getD k 0 else -1)], wd C Y og)) rfl ?_
  refine am_iret_r ok_S_out rfl rfl rfl ?_
  exact ⟨rfl, rfl⟩
set_option maxHeartbeats 4000000 in
set_option maxRecDepth 100000 in
theorem c_W_at_m (d : Nat) (C : wd_C) (Y : wd_Y) (og : Nat → Int64) (O : List Int32) (hU : ouC C O) (y : Int32) (hy : y < 0) : am_Mt l D cA ad fm (d + 0) m_W_at [.ref 17, .int y] (wd C Y og) (fun vr w' => vr = some (.int (-1)) ∧ w' = wd C Y og) := by
  have ho4 := hU.2.1
  refine am_mt ok_W_at (by simp [am_arg, Value.category, m_W_at, am_ml]) ?_
  refine am_eq_r (q' := (0, [some (.ref 17), some (.int y)], [], wd C Y og)) rfl ?_
  refine am_steps_r ok_W_at 2 (q' := (bif decide (y < 0) then 12 else 4, [some (.ref 17), some (.int y)], [], wd C Y og)) rfl ?_
  refine am_br_r (fun h_1 => ?_) (fun h_1 => ?_)
  · skip
    refine am_steps_r ok_W_at 2 (q' := (26, [some (.ref 17), some (.int y)], [.int (-1)], wd C Y og)) rfl ?_
    refine am_iret_r ok_W_at rfl rfl rfl ?_
    exact ⟨rfl, rfl⟩
  · skip
    exact absurd hy h_1
set_option maxHeartbeats 4000000 in
set_option maxRecDepth 100000 in
theorem c_S_out_m (d : Nat) (C : wd_C) (Y : wd_Y) (og : Nat → Int64) (O : List Int32) (hU : ouC C O) (y : Int32) (hy : y < 0) : am_Mt l D cA ad fm (d + 1) m_S_out [.ref 0, .int y] (wd C Y og) (fun vr w' => vr = some (.int (-1)) ∧ w' = wd C Y og) := by
  refine am_mt ok_S_out (by simp [am_arg, Value.category, m_S_out, am_ml]) ?_
  refine am_eq_r (q' := (0, [some (.ref 0), some (.int y)], [], wd C Y og)) rfl ?_
  refine am_steps_r ok_S_out 3 (q' := (5, [some (.ref 0), some (.int y)], [.int y, .ref 17], wd C Y og)) rfl ?_
  refine am_callV_r (As := [.int y]) (rest := []) ok_S_out rfl rfl ok_W_at oi_W_at lk_5_125 (Or.inl ⟨_, _, _, rfl, rfl, rfl⟩) rfl rfl (Nat.le_of_ble_eq_true rfl) (c_W_at_m _ C Y og O hU y hy) ?_
  rintro v_ w_ ⟨rfl, rfl⟩ -
  refine am_eq_r (q' := (8, [some (.ref 0), some (.int y)], [.int (-1)], wd C Y og)) rfl ?_
  refine am_iret_r ok_S_out rfl rfl rfl ?_
  exact ⟨rfl, rfl⟩
set_option maxHeartbeats 4000000 in
set_option maxRecDepth 100000 in
theorem c_W_size (d : Nat) (C : wd_C) (Y : wd_Y) (og : Nat → Int64) (O : List Int32) (hU : ouC C O)  : am_Mt l D cA ad fm (d + 0) m_W_size [.ref 17] (wd C Y og) (fun vr w' => vr = some (.int (nI O.length)) ∧ w' = wd C Y og) := by
  refine am_mt ok_W_size (by simp [am_arg, Value.category, m_W_size, am_ml]) ?_
  refine am_eq_r (q' := (0, [some (.ref 17)], [], wd C Y og)) rfl ?_
  refine am_steps_r ok_W_size 2 (q' := (4, [some (.ref 17)], [.int (C.1 11)], wd C Y og)) rfl ?_
  rw [show (C.1 11 : Int32) = nI O.length from hU.1]
  refine am_iret_r ok_W_size rfl rfl rfl ?_
  exact ⟨rfl, rfl⟩
set_option maxHeartbeats 4000000 in
set_option maxRecDepth 100000 in
theorem c_S_wipe (d : Nat) (C : wd_C) (Y : wd_Y) (og : Nat → Int64) (n : Nat) (b : Nat → Int32) (hT : tpC C n b)  : am_Mt l D cA ad fm (d + 1) m_S_wipe [.ref 0] (wd C Y og) (fun vr w' => vr = some (.int (nI n)) ∧ w' = wd (upd C.1 0 0, C.2) Y og) := by
  refine am_mt ok_S_wipe (by simp [am_arg, Value.category, m_S_wipe, am_ml]) ?_
  refine am_eq_r (q' := (0, [some (.ref 0), none], [], wd C Y og)) rfl ?_
  refine am_steps_r ok_S_wipe 2 (q' := (4, [some (.ref 0), none], [.ref 1], wd C Y og)) rfl ?_
  refine am_callV_r (As := []) (rest := []) ok_S_wipe rfl rfl ok_T_size oi_T_size lk_5_55 (Or.inl ⟨_, _, _, rfl, rfl, rfl⟩) rfl rfl (Nat.le_of_ble_eq_true rfl) (c_T_size _ C Y og n b hT) ?_
  rintro v_ w_ ⟨rfl, rfl⟩ -
  refine am_eq_r (q' := (7, [some (.ref 0), none], [.int (nI n)], wd C Y og)) rfl ?_
  refine am_steps_r ok_S_wipe 3 (q' := (12, [some (.ref 0), some (.int (nI n))], [.ref 1], wd C Y og)) rfl ?_
  refine am_callV_r (As := []) (rest := []) ok_S_wipe rfl rfl ok_T_clear oi_T_clear lk_5_63 (Or.inl ⟨_, _, _, rfl, rfl, rfl⟩) rfl rfl (Nat.le_of_ble_eq_true rfl) (c_T_clear _ C Y og) ?_
  rintro v_ w_ ⟨rfl, rfl⟩ -
  refine am_eq_r (q' := (15, [some (.ref 0), some (.int (nI n))], [], wd (upd C.1 0 0, C.2) Y og)) rfl ?_
  refine am_steps_r ok_S_wipe 1 (q' := (16, [some (.ref 0), some (.int (nI n))], [.int (nI n)], wd (upd C.1 0 0, C.2) Y og)) rfl ?_
  refine am_iret_r ok_S_wipe rfl rfl rfl ?_
  exact ⟨rfl, rfl⟩
theorem c_S_read (d : Nat) (C : wd_C) (Y : wd_Y) (og : Nat → Int64) (n : Nat) (b : Nat → Int32) (hT : tpC C n b) (nv u : Nat) (hV : vsz C nv u) (hfm : fm = .null ∨ fm = .ref 3000) (E0 : Nat → Nat → Int32) (V0 : VT) : am_Mt l D cA ad fm (d + 30) m_S_read [.ref 0] (wd C Y og) (tpP C Y og n b (skW n b 0, 0, E0, 0, 0, V0, 0)) := by
  refine am_mt ok_S_read (by simp [am_arg, Value.category, m_S_read, am_ml]) ?_
  refine am_eq_r (q' := (0, [some (.ref 0)], [], wd C Y og)) rfl ?_
  refine am_steps_r ok_S_read 2 (q' := (4, [some (.ref 0)], [.ref 16], wd C Y og)) rfl ?_
  refine am_callV_r (As := []) (rest := []) ok_S_read rfl rfl ok_R_readTape oi_R_readTape lk_5_66 (Or.inl ⟨_, _, _, rfl, rfl, rfl⟩) rfl rfl (Nat.le_of_ble_eq_true rfl) (c_R_readTape _ C Y og n b hT nv u hV hfm E0 V0) ?_
  rintro v_ w_ hq -
  obtain ⟨s9, C9, hq1, rfl, rfl, hq4, hq5⟩ := hq
  refine am_eq_r (q' := (7, [some (.ref 0)], [.int (nI s9.2.1)], wd C9 Y og)) rfl ?_
  refine am_iret_r ok_S_read rfl rfl rfl ?_
  exact ⟨s9, C9, hq1, rfl, rfl, hq4, hq5⟩
set_option maxHeartbeats 4000000 in
set_option maxRecDepth 100000 in
theorem c_S_find (d : Nat) (C : wd_C) (Y : wd_Y) (og : Nat → Int64) (no : Nat) (E : Nat → Nat → Int32) (hO : obC C no E) (a g : Int32) : am_Mt l D cA ad fm (d + 3) m_S_find [.ref 0, .int a, .int g] (wd C Y og) (fun vr w' => vr = some (.int (oN (fnO E a g no))) ∧ w' = wd C Y og) := by
  refine am_mt ok_S_find (by simp [am_arg, Value.category, m_S_find, am_ml]) ?_
  refine am_eq_r (q' := (0, [some (.ref 0), some (.int a), some (.int g)], [], wd C Y og)) rfl ?_
  refine am_steps_r ok_S_find 4 (q' := (6, [some (.ref 0), some (.int a), some (.int g)], [.int g, .int a, .ref 14], wd C Y og)) rfl ?_
  refine am_callV_r (As := [.int a, .int g]) (rest := []) ok_S_find rfl rfl ok_O_latest oi_O_latest lk_5_82 (Or.inl ⟨_, _, _, rfl, rfl, rfl⟩) rfl rfl (Nat.le_of_ble_eq_true rfl) (c_O_latest _ C Y og no E hO a g) ?_
  rintro v_ w_ ⟨rfl, rfl⟩ -
  refine am_eq_r (q' := (9, [some (.ref 0), some (.int a), some (.int g)], [.int (oN (fnO E a g no))], wd C Y og)) rfl ?_
  refine am_iret_r ok_S_find rfl rfl rfl ?_
  exact ⟨rfl, rfl⟩
set_option maxHeartbeats 4000000 in
set_option maxRecDepth 100000 in
theorem c_S_object (d : Nat) (C : wd_C) (Y : wd_Y) (og : Nat → Int64) (no : Nat) (E : Nat → Nat → Int32) (hO : obC C no E) (i j : Nat) (hi : i < no) (hj : j < 8) : am_Mt l D cA ad fm (d + 2) m_S_object [.ref 0, .int (nI i), .int (nI j)] (wd C Y og) (fun vr w' => vr = some (.int (E i j)) ∧ w' = wd C Y og) := by
  have hno := hO.2.1
  refine am_mt ok_S_object (by simp [am_arg, Value.category, m_S_object, am_ml]) ?_
  refine am_eq_r (q' := (0, [some (.ref 0), some (.int (nI i)), some (.int (nI j))], [], wd C Y og)) rfl ?_
  refine am_steps_r ok_S_object 3 (q' := (5, [some (.ref 0), some (.int (nI i)), some (.int (nI j))], [.int (nI i), .ref 14], wd C Y og)) rfl ?_
  refine am_callV_r (As := [.int (nI i)]) (rest := []) ok_S_object rfl rfl ok_O_has oi_O_has lk_5_69 (Or.inl ⟨_, _, _, rfl, rfl, rfl⟩) rfl rfl (Nat.le_of_ble_eq_true rfl) (c_O_has_in _ C Y og no hO.1 hO.2.1 i hi) ?_
  rintro v_ w_ ⟨rfl, rfl⟩ -
  refine am_eq_r (q' := (8, [some (.ref 0), some (.int (nI i)), some (.int (nI j))], [.int 1], wd C Y og)) rfl ?_
  refine am_steps_r ok_S_object 3 (q' := (bif decide ((nI j) < 0) then 21 else 15, [some (.ref 0), some (.int (nI i)), some (.int (nI j))], [], wd C Y og)) rfl ?_
  refine am_br_r (fun h_2 => ?_) (fun h_2 => ?_)
  · skip
    have h_2 : j < 0 := (nI_ltI (show j < 2 ^ 31 by omega) (show 0 < 2 ^ 31 by omega)).mp h_2
    exact absurd h_2 (Nat.not_lt_zero _)
  · skip
    have h_2 : ¬ j < 0 := fun z => h_2 ((nI_ltI (show j < 2 ^ 31 by omega) (show 0 < 2 ^ 31 by omega)).mpr z)
    refine am_steps_r ok_S_object 3 (q' := (bif decide ((nI j) < 8) then 31 else 21, [some (.ref 0), some (.int (nI i)), some (.int (nI j))], [], wd C Y og)) rfl ?_
    refine am_br_r (fun h_3 => ?_) (fun h_3 => ?_)
    · skip
      have h_3 : j < 8 := (nI_ltI (show j < 2 ^ 31 by omega) (show 8 < 2 ^ 31 by omega)).mp h_3
      refine am_steps_r ok_S_object 4 (q' := (37, [some (.ref 0), some (.int (nI i)), some (.int (nI j))], [.int (nI j), .int (nI i), .ref 14], wd C Y og)) rfl ?_
      refine am_callV_r (As := [.int (nI i), .int (nI j)]) (rest := []) ok_S_object rfl rfl ok_O_entry oi_O_entry lk_5_78 (Or.inl ⟨_, _, _, rfl, rfl, rfl⟩) rfl rfl (Nat.le_of_ble_eq_true rfl) (c_O_entry_in _ C Y og no hO.1 hO.2.1 i j hi hj) ?_
      rintro v_ w_ ⟨rfl, rfl⟩ -
      rw [hO.2.2 i hi j hj]
      refine am_eq_r (q' := (40, [some (.ref 0), some (.int (nI i)), some (.int (nI j))], [.int (E i j)], wd C Y og)) rfl ?_
      refine am_iret_r ok_S_object rfl rfl rfl ?_
      exact ⟨rfl, rfl⟩
    · skip
      have h_3 : ¬ j < 8 := fun z => h_3 ((nI_ltI (show j < 2 ^ 31 by omega) (show 8 < 2 ^ 31 by omega)).mpr z)
      exfalso; omega
set_option maxHeartbeats 4000000 in
set_option maxRecDepth 100000 in
theorem c_S_value (d : Nat) (C : wd_C) (Y : wd_Y) (og : Nat → Int64) (nv u : Nat) (V : VT) (hS : vsC C nv u V) (v : Nat) (hv : v < nv) (j : Nat) (hj : j < 3) : am_Mt l D cA ad fm (d + 2) m_S_value [.ref 0, .int (nI v), .int (nI j)] (wd C Y og) (fun vr w' => vr = some (.int (if j = 0 then V.1 v else if j = 1 then nI (V.2.2.1 v).length else nI (V.2.2.2 v).length)) ∧ w' = wd C Y og) := by
  have hnv := hS.1.2.1
  have hl6 := vsC_len hS hv
  have hl2 := (vsC_bt hS hv).2
  refine am_mt ok_S_value (by simp [am_arg, Value.category, m_S_value, am_ml]) ?_
  refine am_eq_r (q' := (0, [some (.ref 0), some (.int (nI v)), some (.int (nI j))], [], wd C Y og)) rfl ?_
  refine am_steps_r ok_S_value 3 (q' := (5, [some (.ref 0), some (.int (nI v)), some (.int (nI j))], [.int (nI v), .ref 3], wd C Y og)) rfl ?_
  refine am_callV_r (As := [.int (nI v)]) (rest := []) ok_S_value rfl rfl ok_V_has oi_V_has lk_5_85 (Or.inl ⟨_, _, _, rfl, rfl, rfl⟩) rfl rfl (Nat.le_of_ble_eq_true rfl) (c_V_has_in _ C Y og nv u hS.1 v (by omega)) ?_
  rintro v_ w_ ⟨rfl, rfl⟩ -
  refine am_eq_r (q' := (8, [some (.ref 0), some (.int (nI v)), some (.int (nI j))], [.int 1], wd C Y og)) rfl ?_
  refine am_steps_r ok_S_value 3 (q' := (bif decide ((nI j) < 0) then 20 else 15, [some (.ref 0), some (.int (nI v)), some (.int (nI j))], [], wd C Y og)) rfl ?_
  refine am_br_r (fun h_2 => ?_) (fun h_2 => ?_)
  · skip
    have h_2 : j < 0 := (nI_ltI (show j < 2 ^ 31 by omega) (show 0 < 2 ^ 31 by omega)).mp h_2
    exact absurd h_2 (Nat.not_lt_zero _)
  · skip
    have h_2 : ¬ j < 0 := fun z => h_2 ((nI_ltI (show j < 2 ^ 31 by omega) (show 0 < 2 ^ 31 by omega)).mpr z)
    refine am_steps_r ok_S_value 3 (q' := (bif decide ((nI j) ≤ 2) then 30 else 20, [some (.ref 0), some (.int (nI v)), some (.int (nI j))], [], wd C Y og)) rfl ?_
    refine am_br_r (fun h_3 => ?_) (fun h_3 => ?_)
    · skip
      have h_3 : j ≤ 2 := (nI_leI (show j < 2 ^ 31 by omega) (show 2 < 2 ^ 31 by omega)).mp h_3
      refine am_steps_r ok_S_value 2 (q' := (bif decide ((nI j) = 0) then 34 else 43, [some (.ref 0), some (.int (nI v)), some (.int (nI j))], [], wd C Y og)) rfl ?_
      refine am_br_r (fun h_4 => ?_) (fun h_4 => ?_)
      · skip
        have h_4 : j = 0 := (nI_eq (show j < 2 ^ 31 by omega) (show 0 < 2 ^ 31 by omega)).mp h_4
        refine am_steps_r ok_S_value 3 (q' := (39, [some (.ref 0), some (.int (nI v)), some (.int (nI j))], [.int (nI v), .ref 3], wd C Y og)) rfl ?_
        refine am_callV_r (As := [.int (nI v)]) (rest := []) ok_S_value rfl rfl ok_V_kindOf oi_V_kindOf lk_5_88 (Or.inl ⟨_, _, _, rfl, rfl, rfl⟩) rfl rfl (Nat.le_of_ble_eq_true rfl) (c_V_kindOf_in _ C Y og nv u hS.1 v (by omega)) ?_
        rintro v_ w_ ⟨rfl, rfl⟩ -
        rw [(hS.2.1 v (by omega)).1]
        refine am_eq_r (q' := (42, [some (.ref 0), some (.int (nI v)), some (.int (nI j))], [.int (V.1 v)], wd C Y og)) rfl ?_
        refine am_iret_r ok_S_value rfl rfl rfl ?_
        first | (exfalso; omega) | exact ⟨by rw [if_pos (by omega)], rfl⟩ | exact ⟨by rw [if_neg (by omega), if_pos (by omega)], rfl⟩ | exact ⟨by rw [if_neg (by omega), if_neg (by omega)], rfl⟩
      · skip
        have h_4 : ¬ j = 0 := fun z => h_4 ((nI_eq (show j < 2 ^ 31 by omega) (show 0 < 2 ^ 31 by omega)).mpr z)
        refine am_steps_r ok_S_value 3 (q' := (bif decide ((nI j) = 1) then 48 else 59, [some (.ref 0), some (.int (nI v)), some (.int (nI j))], [], wd C Y og)) rfl ?_
        refine am_br_r (fun h_5 => ?_) (fun h_5 => ?_)
        · skip
          have h_5 : j = 1 := (nI_eq (show j < 2 ^ 31 by omega) (show 1 < 2 ^ 31 by omega)).mp h_5
          refine am_steps_r ok_S_value 3 (q' := (53, [some (.ref 0), some (.int (nI v)), some (.int (nI j))], [.int (nI v), .ref 3], wd C Y og)) rfl ?_
          refine am_callV_r (As := [.int (nI v)]) (rest := []) ok_S_value rfl rfl ok_V_partsOf oi_V_partsOf lk_5_92 (Or.inl ⟨_, _, _, rfl, rfl, rfl⟩) rfl rfl (Nat.le_of_ble_eq_true rfl) (c_V_partsOf_in _ C Y og nv u hS.1 v hv) ?_
          rintro v_ w_ ⟨rfl, rfl⟩ -
          rw [(hS.2.1 v hv).2.2.1]
          refine am_eq_r (q' := (56, [some (.ref 0), some (.int (nI v)), some (.int (nI j))], [.int (nI ((V.2.2.1 v).length))], wd C Y og)) rfl ?_
          refine am_steps_r ok_S_value 1 (q' := (67, [some (.ref 0), some (.int (nI v)), some (.int (nI j))], [.int (nI ((V.2.2.1 v).length))], wd C Y og)) rfl ?_
          refine am_iret_r ok_S_value rfl rfl rfl ?_
          first | (exfalso; omega) | exact ⟨by rw [if_pos (by omega)], rfl⟩ | exact ⟨by rw [if_neg (by omega), if_pos (by omega)], rfl⟩ | exact ⟨by rw [if_neg (by omega), if_neg (by omega)], rfl⟩
        · skip
          have h_5 : ¬ j = 1 := fun z => h_5 ((nI_eq (show j < 2 ^ 31 by omega) (show 1 < 2 ^ 31 by omega)).mpr z)
          refine am_steps_r ok_S_value 3 (q' := (64, [some (.ref 0), some (.int (nI v)), some (.int (nI j))], [.int (nI v), .ref 3], wd C Y og)) rfl ?_
          refine am_callV_r (As := [.int (nI v)]) (rest := []) ok_S_value rfl rfl ok_V_lengthOf oi_V_lengthOf lk_5_95 (Or.inl ⟨_, _, _, rfl, rfl, rfl⟩) rfl rfl (Nat.le_of_ble_eq_true rfl) (c_V_lengthOf_in _ C Y og nv u hS.1 v hv) ?_
          rintro v_ w_ ⟨rfl, rfl⟩ -
          obtain ⟨q, q1, q2, q3⟩ := (vsC_bt hS hv).1
          rw [q2]
          refine am_eq_r (q' := (67, [some (.ref 0), some (.int (nI v)), some (.int (nI j))], [.int (nI ((V.2.2.2 v).length))], wd C Y og)) rfl ?_
          refine am_iret_r ok_S_value rfl rfl rfl ?_
          first | (exfalso; omega) | exact ⟨by rw [if_pos (by omega)], rfl⟩ | exact ⟨by rw [if_neg (by omega), if_pos (by omega)], rfl⟩ | exact ⟨by rw [if_neg (by omega), if_neg (by omega)], rfl⟩
    · skip
      have h_3 : ¬ j ≤ 2 := fun z => h_3 ((nI_leI (show j < 2 ^ 31 by omega) (show 2 < 2 ^ 31 by omega)).mpr z)
      exfalso; omega
set_option maxHeartbeats 4000000 in
set_option maxRecDepth 100000 in
theorem c_S_number (d : Nat) (C : wd_C) (Y : wd_Y) (og : Nat → Int64) (nv u : Nat) (V : VT) (hS : vsC C nv u V) (v : Nat) (hv : v < nv)  : am_Mt l D cA ad fm (d + 2) m_S_number [.ref 0, .int (nI v)] (wd C Y og) (fun vr w' => vr = some (.long (V.2.1 v)) ∧ w' = wd C Y og) := by
  have hnv := hS.1.2.1
  have hl6 := vsC_len hS hv
  have hl2 := (vsC_bt hS hv).2
  refine am_mt ok_S_number (by simp [am_arg, Value.category, m_S_number, am_ml]) ?_
  refine am_eq_r (q' := (0, [some (.ref 0), some (.int (nI v))], [], wd C Y og)) rfl ?_
  refine am_steps_r ok_S_number 3 (q' := (5, [some (.ref 0), some (.int (nI v))], [.int (nI v), .ref 3], wd C Y og)) rfl ?_
  refine am_callV_r (As := [.int (nI v)]) (rest := []) ok_S_number rfl rfl ok_V_has oi_V_has lk_5_85 (Or.inl ⟨_, _, _, rfl, rfl, rfl⟩) rfl rfl (Nat.le_of_ble_eq_true rfl) (c_V_has_in _ C Y og nv u hS.1 v (by omega)) ?_
  rintro v_ w_ ⟨rfl, rfl⟩ -
  refine am_eq_r (q' := (8, [some (.ref 0), some (.int (nI v))], [.int 1], wd C Y og)) rfl ?_
  refine am_steps_r ok_S_number 4 (q' := (26, [some (.ref 0), some (.int (nI v))], [.int (nI v), .ref 3], wd C Y og)) rfl ?_
  refine am_callV_r (As := [.int (nI v)]) (rest := []) ok_S_number rfl rfl ok_V_numberOf oi_V_numberOf lk_5_100 (Or.inl ⟨_, _, _, rfl, rfl, rfl⟩) rfl rfl (Nat.le_of_ble_eq_true rfl) (c_V_numberOf_in _ C Y og nv u hS.1 v hv) ?_
  rintro v_ w_ ⟨rfl, rfl⟩ -
  rw [(hS.2.1 v hv).2.1]
  refine am_eq_r (q' := (29, [some (.ref 0), some (.int (nI v))], [.long (V.2.1 v)], wd C Y og)) rfl ?_
  refine am_lret_r ok_S_number rfl rfl rfl ?_
  exact ⟨rfl, rfl⟩
/-- a byte told by any number -/
def byX (bs : List Int32) (k : Nat) : Int32 := if k < bs.length then bs.getD k 0 else -1
set_option maxHeartbeats 4000000 in
set_option maxRecDepth 100000 in
theorem c_V_byteAt_s (d : Nat) (C : wd_C) (Y : wd_Y) (og : Nat → Int64) (nv u : Nat) (V : VT) (hS : vsC C nv u V) (v : Nat) (hv : v < nv) (k : Nat) (hk : k < 2 ^ 31) : am_Mt l D cA ad fm (d + 0) m_V_byteAt [.ref 3, .int (nI v), .int (nI k)] (wd C Y og) (fun vr w' => vr = some (.int (byX (V.2.2.2 v) k)) ∧ w' = wd C Y og) := by
  have hnv := hS.1.2.1
  have hl6 := vsC_len hS hv
  have hl2 := (vsC_bt hS hv).2
  have hu2 := hS.1.2.2.2
  obtain ⟨s, s1, s2, s3, s4⟩ := (vsC_bt hS hv).1
  refine am_mt ok_V_byteAt (by simp [am_arg, Value.category, m_V_byteAt, am_ml]) ?_
  refine am_eq_r (q' := (0, [some (.ref 3), some (.int (nI v)), some (.int (nI k)), none], [], wd C Y og)) rfl ?_
  refine am_steps_r ok_V_byteAt 2 (q' := (bif decide ((nI v) < 0) then 26 else 4, [some (.ref 3), some (.int (nI v)), some (.int (nI k)), none], [], wd C Y og)) rfl ?_
  refine am_br_r (fun h_1 => ?_) (fun h_1 => ?_)
  · skip
    have h_1 : v < 0 := (nI_ltI (show v < 2 ^ 31 by omega) (show 0 < 2 ^ 31 by omega)).mp h_1
    refine am_steps_r ok_V_byteAt 1 (q' := (27, [some (.ref 3), some (.int (nI v)), some (.int (nI k)), none], [.int (-1)], wd C Y og)) rfl ?_
    refine am_iret_r ok_V_byteAt rfl rfl rfl ?_
    first | (exfalso; omega) | exact ⟨by rw [byX, if_neg (by omega)], rfl⟩ | exact ⟨by rw [byX, if_pos (by omega), byR_and (s4 k (by omega))], rfl⟩
  · skip
    have h_1 : ¬ v < 0 := fun z => h_1 ((nI_ltI (show v < 2 ^ 31 by omega) (show 0 < 2 ^ 31 by omega)).mpr z)
    refine am_steps_r ok_V_byteAt 4 (q' := (bif decide ((C.1 1) ≤ (nI v)) then 26 else 12, [some (.ref 3), some (.int (nI v)), some (.int (nI k)), none], [], wd C Y og)) rfl ?_
    rw [show (C.1 1 : Int32) = nI nv from hS.1.1]
    refine am_br_r (fun h_2 => ?_) (fun h_2 => ?_)
    · skip
      have h_2 : nv ≤ v := (nI_leI (show nv < 2 ^ 31 by omega) (show v < 2 ^ 31 by omega)).mp h_2
      refine am_steps_r ok_V_byteAt 1 (q' := (27, [some (.ref 3), some (.int (nI v)), some (.int (nI k)), none], [.int (-1)], wd C Y og)) rfl ?_
      refine am_iret_r ok_V_byteAt rfl rfl rfl ?_
      first | (exfalso; omega) | exact ⟨by rw [byX, if_neg (by omega)], rfl⟩ | exact ⟨by rw [byX, if_pos (by omega), byR_and (s4 k (by omega))], rfl⟩
    · skip
      have h_2 : ¬ nv ≤ v := fun z => h_2 ((nI_leI (show nv < 2 ^ 31 by omega) (show v < 2 ^ 31 by omega)).mpr z)
      refine am_steps_r ok_V_byteAt 2 (q' := (bif decide ((nI k) < 0) then 26 else 16, [some (.ref 3), some (.int (nI v)), some (.int (nI k)), none], [], wd C Y og)) rfl ?_
      refine am_br_r (fun h_3 => ?_) (fun h_3 => ?_)
      · skip
        have h_3 : k < 0 := (nI_ltI (show k < 2 ^ 31 by omega) (show 0 < 2 ^ 31 by omega)).mp h_3
        refine am_steps_r ok_V_byteAt 1 (q' := (27, [some (.ref 3), some (.int (nI v)), some (.int (nI k)), none], [.int (-1)], wd C Y og)) rfl ?_
        refine am_iret_r ok_V_byteAt rfl rfl rfl ?_
        first | (exfalso; omega) | exact ⟨by rw [byX, if_neg (by omega)], rfl⟩ | exact ⟨by rw [byX, if_pos (by omega), byR_and (s4 k (by omega))], rfl⟩
      · skip
        have h_3 : ¬ k < 0 := fun z => h_3 ((nI_ltI (show k < 2 ^ 31 by omega) (show 0 < 2 ^ 31 by omega)).mpr z)
        refine am_steps_r ok_V_byteAt 4 (q' := (22, [some (.ref 3), some (.int (nI v)), some (.int (nI k)), none], [.int (nI v), .ref 7, .int (nI k)], wd C Y og)) rfl ?_
        refine am_iald_r ok_V_byteAt rfl (w := wd C Y og) (f := C.2.1 3) rfl rfl (pk_in v 300 (by omega)) ?_
        rw [nI_clamp (show v < 2 ^ 31 by omega)]
        rw [s2]
        refine am_steps_r ok_V_byteAt 1 (q' := (bif decide ((nI k) < (nI ((V.2.2.2 v).length))) then 28 else 26, [some (.ref 3), some (.int (nI v)), some (.int (nI k)), none], [], wd C Y og)) rfl ?_
        refine am_br_r (fun h_4 => ?_) (fun h_4 => ?_)
        · skip
          have h_4 : k < ((V.2.2.2 v).length) := (nI_ltI (show k < 2 ^ 31 by omega) (show ((V.2.2.2 v).length) < 2 ^ 31 by omega)).mp h_4
          refine am_steps_r ok_V_byteAt 3 (q' := (33, [some (.ref 3), some (.int (nI v)), some (.int (nI k)), none], [.int (nI v), .ref 6], wd C Y og)) rfl ?_
          refine am_iald_r ok_V_byteAt rfl (w := wd C Y og) (f := C.2.1 2) rfl rfl (pk_in v 300 (by omega)) ?_
          rw [nI_clamp (show v < 2 ^ 31 by omega)]
          rw [s1]
          refine am_steps_r ok_V_byteAt 5 (q' := (bif decide (((nI s) + (nI k)) < 0) then 49 else 41, [some (.ref 3), some (.int (nI v)), some (.int (nI k)), some (.int ((nI s) + (nI k)))], [], wd C Y og)) rfl ?_
          rw [show ((nI s) + (nI k) : Int32) = nI (s + k) from nI_add s k]
          refine am_br_r (fun h_5 => ?_) (fun h_5 => ?_)
          · skip
            have h_5 : (s + k) < 0 := (nI_ltI (show (s + k) < 2 ^ 31 by omega) (show 0 < 2 ^ 31 by omega)).mp h_5
            refine am_steps_r ok_V_byteAt 2 (q' := (63, [some (.ref 3), some (.int (nI v)), some (.int (nI k)), some (.int (nI (s + k)))], [.int (-1)], wd C Y og)) rfl ?_
            refine am_iret_r ok_V_byteAt rfl rfl rfl ?_
            first | (exfalso; omega) | exact ⟨by rw [byX, if_neg (by omega)], rfl⟩ | exact ⟨by rw [byX, if_pos (by omega), byR_and (s4 k (by omega))], rfl⟩
          · skip
            have h_5 : ¬ (s + k) < 0 := fun z => h_5 ((nI_ltI (show (s + k) < 2 ^ 31 by omega) (show 0 < 2 ^ 31 by omega)).mpr z)
            refine am_steps_r ok_V_byteAt 4 (q' := (bif decide ((nI (s + k)) < (C.1 2)) then 53 else 49, [some (.ref 3), some (.int (nI v)), some (.int (nI k)), some (.int (nI (s + k)))], [], wd C Y og)) rfl ?_
            rw [show (C.1 2 : Int32) = nI u from hS.1.2.2.1]
            refine am_br_r (fun h_6 => ?_) (fun h_6 => ?_)
            · skip
              have h_6 : (s + k) < u := (nI_ltI (show (s + k) < 2 ^ 31 by omega) (show u < 2 ^ 31 by omega)).mp h_6
              refine am_steps_r ok_V_byteAt 3 (q' := (58, [some (.ref 3), some (.int (nI v)), some (.int (nI k)), some (.int (nI (s + k)))], [.int (nI (s + k)), .ref 13], wd C Y og)) rfl ?_
              refine am_bald_r ok_V_byteAt rfl (w := wd C Y og) (f := C.2.1 9) rfl rfl (pk_in (s + k) 2000 (by omega)) ?_
              rw [nI_clamp (show (s + k) < 2 ^ 31 by omega)]
              refine am_steps_r ok_V_byteAt 2 (q' := (63, [some (.ref 3), some (.int (nI v)), some (.int (nI k)), some (.int (nI (s + k)))], [.int ((C.2.1 9 (s + k)) &&& 255)], wd C Y og)) rfl ?_
              refine am_iret_r ok_V_byteAt rfl rfl rfl ?_
              first | (exfalso; omega) | exact ⟨by rw [byX, if_neg (by omega)], rfl⟩ | exact ⟨by rw [byX, if_pos (by omega), byR_and (s4 k (by omega))], rfl⟩
            · skip
              have h_6 : ¬ (s + k) < u := fun z => h_6 ((nI_ltI (show (s + k) < 2 ^ 31 by omega) (show u < 2 ^ 31 by omega)).mpr z)
              refine am_steps_r ok_V_byteAt 2 (q' := (63, [some (.ref 3), some (.int (nI v)), some (.int (nI k)), some (.int (nI (s + k)))], [.int (-1)], wd C Y og)) rfl ?_
              refine am_iret_r ok_V_byteAt rfl rfl rfl ?_
              first | (exfalso; omega) | exact ⟨by rw [byX, if_neg (by omega)], rfl⟩ | exact ⟨by rw [byX, if_pos (by omega), byR_and (s4 k (by omega))], rfl⟩
        · skip
          have h_4 : ¬ k < ((V.2.2.2 v).length) := fun z => h_4 ((nI_ltI (show k < 2 ^ 31 by omega) (show ((V.2.2.2 v).length) < 2 ^ 31 by omega)).mpr z)
          refine am_steps_r ok_V_byteAt 1 (q' := (27, [some (.ref 3), some (.int (nI v)), some (.int (nI k)), none], [.int (-1)], wd C Y og)) rfl ?_
          refine am_iret_r ok_V_byteAt rfl rfl rfl ?_
          first | (exfalso; omega) | exact ⟨by rw [byX, if_neg (by omega)], rfl⟩ | exact ⟨by rw [byX, if_pos (by omega), byR_and (s4 k (by omega))], rfl⟩
set_option maxHeartbeats 4000000 in
set_option maxRecDepth 100000 in
theorem c_V_byteAt_n (d : Nat) (C : wd_C) (Y : wd_Y) (og : Nat → Int64) (nv u : Nat) (V : VT) (hS : vsC C nv u V) (v : Nat) (hv : v < nv) (y : Int32) (hy : y < 0) : am_Mt l D cA ad fm (d + 0) m_V_byteAt [.ref 3, .int (nI v), .int y] (wd C Y og) (fun vr w' => vr = some (.int (-1)) ∧ w' = wd C Y og) := by
  have hnv := hS.1.2.1
  have hl6 := vsC_len hS hv
  have hl2 := (vsC_bt hS hv).2
  refine am_mt ok_V_byteAt (by simp [am_arg, Value.category, m_V_byteAt, am_ml]) ?_
  refine am_eq_r (q' := (0, [some (.ref 3), some (.int (nI v)), some (.int y), none], [], wd C Y og)) rfl ?_
  refine am_steps_r ok_V_byteAt 2 (q' := (bif decide ((nI v) < 0) then 26 else 4, [some (.ref 3), some (.int (nI v)), some (.int y), none], [], wd C Y og)) rfl ?_
  refine am_br_r (fun h_1 => ?_) (fun h_1 => ?_)
  · skip
    have h_1 : v < 0 := (nI_ltI (show v < 2 ^ 31 by omega) (show 0 < 2 ^ 31 by omega)).mp h_1
    refine am_steps_r ok_V_byteAt 1 (q' := (27, [some (.ref 3), some (.int (nI v)), some (.int y), none], [.int (-1)], wd C Y og)) rfl ?_
    refine am_iret_r ok_V_byteAt rfl rfl rfl ?_
    first | (exfalso; omega) | exact ⟨rfl, rfl⟩
  · skip
    have h_1 : ¬ v < 0 := fun z => h_1 ((nI_ltI (show v < 2 ^ 31 by omega) (show 0 < 2 ^ 31 by omega)).mpr z)
    refine am_steps_r ok_V_byteAt 4 (q' := (bif decide ((C.1 1) ≤ (nI v)) then 26 else 12, [some (.ref 3), some (.int (nI v)), some (.int y), none], [], wd C Y og)) rfl ?_
    rw [show (C.1 1 : Int32) = nI nv from hS.1.1]
    refine am_br_r (fun h_2 => ?_) (fun h_2 => ?_)
    · skip
      have h_2 : nv ≤ v := (nI_leI (show nv < 2 ^ 31 by omega) (show v < 2 ^ 31 by omega)).mp h_2
      refine am_steps_r ok_V_byteAt 1 (q' := (27, [some (.ref 3), some (.int (nI v)), some (.int y), none], [.int (-1)], wd C Y og)) rfl ?_
      refine am_iret_r ok_V_byteAt rfl rfl rfl ?_
      first | (exfalso; omega) | exact ⟨rfl, rfl⟩
    · skip
      have h_2 : ¬ nv ≤ v := fun z => h_2 ((nI_leI (show nv < 2 ^ 31 by omega) (show v < 2 ^ 31 by omega)).mpr z)
      refine am_steps_r ok_V_byteAt 2 (q' := (bif decide (y < 0) then 26 else 16, [some (.ref 3), some (.int (nI v)), some (.int y), none], [], wd C Y og)) rfl ?_
      refine am_br_r (fun h_3 => ?_) (fun h_3 => ?_)
      · skip
        refine am_steps_r ok_V_byteAt 1 (q' := (27, [some (.ref 3), some (.int (nI v)), some (.int y), none], [.int (-1)], wd C Y og)) rfl ?_
        refine am_iret_r ok_V_byteAt rfl rfl rfl ?_
        first | (exfalso; omega) | exact ⟨rfl, rfl⟩
      · skip
        exact absurd hy h_3
set_option maxHeartbeats 4000000 in
set_option maxRecDepth 100000 in
theorem c_S_byteOf_k (d : Nat) (C : wd_C) (Y : wd_Y) (og : Nat → Int64) (nv u : Nat) (V : VT) (hS : vsC C nv u V) (v : Nat) (hv : v < nv) (k : Nat) (hk : k < 2 ^ 31) : am_Mt l D cA ad fm (d + 2) m_S_byteOf [.ref 0, .int (nI v), .int (nI k)] (wd C Y og) (fun vr w' => vr = some (.int (byX (V.2.2.2 v) k)) ∧ w' = wd C Y og) := by
  have hnv := hS.1.2.1
  have hl6 := vsC_len hS hv
  have hl2 := (vsC_bt hS hv).2
  refine am_mt ok_S_byteOf (by simp [am_arg, Value.category, m_S_byteOf, am_ml]) ?_
  refine am_eq_r (q' := (0, [some (.ref 0), some (.int (nI v)), some (.int (nI k))], [], wd C Y og)) rfl ?_
  refine am_steps_r ok_S_byteOf 3 (q' := (5, [some (.ref 0), some (.int (nI v)), some (.int (nI k))], [.int (nI v), .ref 3], wd C Y og)) rfl ?_
  refine am_callV_r (As := [.int (nI v)]) (rest := []) ok_S_byteOf rfl rfl ok_V_has oi_V_has lk_5_85 (Or.inl ⟨_, _, _, rfl, rfl, rfl⟩) rfl rfl (Nat.le_of_ble_eq_true rfl) (c_V_has_in _ C Y og nv u hS.1 v (by omega)) ?_
  rintro v_ w_ ⟨rfl, rfl⟩ -
  refine am_eq_r (q' := (8, [some (.ref 0), some (.int (nI v)), some (.int (nI k))], [.int 1], wd C Y og)) rfl ?_
  refine am_steps_r ok_S_byteOf 5 (q' := (27, [some (.ref 0), some (.int (nI v)), some (.int (nI k))], [.int (nI k), .int (nI v), .ref 3], wd C Y og)) rfl ?_
  refine am_callV_r (As := [.int (nI v), .int (nI k)]) (rest := []) ok_S_byteOf rfl rfl ok_V_byteAt oi_V_byteAt lk_5_104 (Or.inl ⟨_, _, _, rfl, rfl, rfl⟩) rfl rfl (Nat.le_of_ble_eq_true rfl) (c_V_byteAt_s _ C Y og nv u V hS v hv k hk) ?_
  rintro v_ w_ ⟨rfl, rfl⟩ -
  refine am_eq_r (q' := (30, [some (.ref 0), some (.int (nI v)), some (.int (nI k))], [.int (byX (V.2.2.2 v) k)], wd C Y og)) rfl ?_
  refine am_iret_r ok_S_byteOf rfl rfl rfl ?_
  exact ⟨rfl, rfl⟩
set_option maxHeartbeats 4000000 in
set_option maxRecDepth 100000 in
theorem c_S_byteOf_m (d : Nat) (C : wd_C) (Y : wd_Y) (og : Nat → Int64) (nv u : Nat) (V : VT) (hS : vsC C nv u V) (v : Nat) (hv : v < nv) (y : Int32) (hy : y < 0) : am_Mt l D cA ad fm (d + 2) m_S_byteOf [.ref 0, .int (nI v), .int y] (wd C Y og) (fun vr w' => vr = some (.int (-1)) ∧ w' = wd C Y og) := by
  have hnv := hS.1.2.1
  have hl6 := vsC_len hS hv
  have hl2 := (vsC_bt hS hv).2
  refine am_mt ok_S_byteOf (by simp [am_arg, Value.category, m_S_byteOf, am_ml]) ?_
  refine am_eq_r (q' := (0, [some (.ref 0), some (.int (nI v)), some (.int y)], [], wd C Y og)) rfl ?_
  refine am_steps_r ok_S_byteOf 3 (q' := (5, [some (.ref 0), some (.int (nI v)), some (.int y)], [.int (nI v), .ref 3], wd C Y og)) rfl ?_
  refine am_callV_r (As := [.int (nI v)]) (rest := []) ok_S_byteOf rfl rfl ok_V_has oi_V_has lk_5_85 (Or.inl ⟨_, _, _, rfl, rfl, rfl⟩) rfl rfl (Nat.le_of_ble_eq_true rfl) (c_V_has_in _ C Y og nv u hS.1 v (by omega)) ?_
  rintro v_ w_ ⟨rfl, rfl⟩ -
  refine am_eq_r (q' := (8, [some (.ref 0), some (.int (nI v)), some (.int y)], [.int 1], wd C Y og)) rfl ?_
  refine am_steps_r ok_S_byteOf 5 (q' := (27, [some (.ref 0), some (.int (nI v)), some (.int y)], [.int y, .int (nI v), .ref 3], wd C Y og)) rfl ?_
  refine am_callV_r (As := [.int (nI v), .int y]) (rest := []) ok_S_byteOf rfl rfl ok_V_byteAt oi_V_byteAt lk_5_104 (Or.inl ⟨_, _, _, rfl, rfl, rfl⟩) rfl rfl (Nat.le_of_ble_eq_true rfl) (c_V_byteAt_n _ C Y og nv u V hS v hv y hy) ?_
  rintro v_ w_ ⟨rfl, rfl⟩ -
  refine am_eq_r (q' := (30, [some (.ref 0), some (.int (nI v)), some (.int y)], [.int (-1)], wd C Y og)) rfl ?_
  refine am_iret_r ok_S_byteOf rfl rfl rfl ?_
  exact ⟨rfl, rfl⟩
end C107
