/-! the face of the component: parts, lookup, write, take, feed, told; printed by wip/gen/g108.py -/
/-- what is held in a dictionary by a name -/
def lkD (V : VT) (v : Nat) : Nat := if V.1 v = 9 then (V.2.2.1 v).headD 0 else v
def lkX (V : VT) (v w : Nat) : Int32 := if V.1 (lkD V v) = 7 ∧ V.1 w = 4 then oN ((prF (fun a => decide (V.2.2.2 a = V.2.2.2 w)) (V.2.2.1 (lkD V v))).map (fun z => z.2)) else -1
theorem oN_s (a : Nat) : oN (some a) = nI a := rfl
/-- the tape that take makes -/
def tkB (O : List Int32) : Nat → Int32 := fun k => if k < O.length then O.getD k 0 else -1
theorem and255 (x : Int32) : ∃ j, j < 256 ∧ x &&& 255 = nI j := by
  refine ⟨(x &&& 255).toBitVec.toNat, ?_, ?_⟩
  · have e : (x &&& 255).toBitVec = x.toBitVec &&& 255#32 := rfl
    rw [e, BitVec.toNat_and]
    exact Nat.lt_of_le_of_lt Nat.and_le_right (by decide)
  · apply Int32.toBitVec_inj.mp
    show _ = BitVec.ofNat 32 _
    rw [BitVec.ofNat_toNat]
    simp
/-- the i-th byte that is fed -/
def fdX (B : Int64) (i : Nat) : Int32 := ((B.toUInt64 >>> ((nI (8 * i)).toInt64.toUInt64 &&& Int64.toUInt64 63)).toInt64).toInt32 &&& 255
def fdB (b : Nat → Int32) (n k : Nat) (B : Int64) : Nat → Int32 := fun j => if n ≤ j ∧ j < n + k then fdX B (j - n) else b j
theorem nar_by : ∀ j, j < 256 → vp_nar .byte (nI j).toInt8.toInt32 = (nI j).toInt8.toInt32 := by decide +kernel
theorem keysOf_len : ∀ {ks : List Nat} {m : Nat}, ks.length = 2 * m → (keysOf ks).length = m
  | [], m, h => by simp [keysOf] at *; omega
  | [a], m, h => by simp at h; omega
  | a :: c :: r, m, h => by
    rcases m with _ | m
    · simp at h
    · simp only [keysOf, List.length_cons]
      rw [keysOf_len (ks := r) (m := m) (by simp at h; omega)]
section C108
variable {l : Launch} {D : va_G} {cA : Nat → ClassId} {ad : Nat → Nat} {fm : Value}
set_option maxHeartbeats 4000000 in
set_option maxRecDepth 100000 in
theorem lp_V_partAt_0 (d : Nat) (C : wd_C) (Y : wd_Y) (og : Nat → Int64) (nv u : Nat) (V : VT) (hS : vsC C nv u V) (v : Nat) (hv : v < nv) (r : List Nat) (hrv : ∀ a ∈ r, a < nv) (k s : Nat) (hsr : s < r.length) (hr6 : r.length ≤ 600) (hk : k < 2 ^ 31)  : ∀ (fu : Nat) (post : Option Value → am_W → Prop) (x : Int32) (n0 : Nat), (n0 ≤ s) → (lkd (C.2.1 7) x (r.drop n0)) → (∀ a, r[s]? = some a → post (some (.int (nI a))) (wd C Y og)) → s - n0 < fu → am_Rn l D cA ad fm (d + 2) m_V_partAt (wd C Y og).length post (65, [some (.ref 3), some (.int (nI v)), some (.int (nI k)), some (.int 0), some (.int (nI s)), some (.int x), some (.int (nI n0))], [], wd C Y og) := by
  intro fu
  induction fu with
  | zero => intro post x n0 hn0 hlk hpo hfu; exact absurd hfu (Nat.not_lt_zero _)
  | succ fu ih =>
    intro post x n0 hn0 hlk hpo hfu
    have hnv := hS.1.2.1
    have hl6 := vsC_len hS hv
    have hl2 := (vsC_bt hS hv).2
    refine am_steps_r ok_V_partAt 3 (q' := (bif decide ((nI s) ≤ (nI n0)) then 86 else 72, [some (.ref 3), some (.int (nI v)), some (.int (nI k)), some (.int 0), some (.int (nI s)), some (.int x), some (.int (nI n0))], [], wd C Y og)) rfl ?_
    refine am_br_r (fun h_1 => ?_) (fun h_1 => ?_)
    · skip
      have h_1 : s ≤ n0 := (nI_leI (show s < 2 ^ 31 by omega) (show n0 < 2 ^ 31 by omega)).mp h_1
      obtain ⟨a, ha⟩ : ∃ a, r[n0]? = some a := ⟨r[n0], List.getElem?_eq_getElem (by omega)⟩
      obtain ⟨rfl, hx2⟩ := lkd_drop hlk ha
      have hav := hrv a (List.mem_of_getElem? ha)
      have hn9 : n0 = s := by omega
      rw [hn9] at ha
      refine am_steps_r ok_V_partAt 3 (q' := (108, [some (.ref 3), some (.int (nI v)), some (.int (nI k)), some (.int 0), some (.int (nI s)), some (.int (nI a)), some (.int (nI n0))], [.int (nI a)], wd C Y og)) rfl ?_
      refine am_iret_r ok_V_partAt rfl rfl rfl ?_
      exact hpo a ha
    · skip
      have h_1 : ¬ s ≤ n0 := fun z => h_1 ((nI_leI (show s < 2 ^ 31 by omega) (show n0 < 2 ^ 31 by omega)).mpr z)
      obtain ⟨a, ha⟩ : ∃ a, r[n0]? = some a := ⟨r[n0], List.getElem?_eq_getElem (by omega)⟩
      obtain ⟨rfl, hx2⟩ := lkd_drop hlk ha
      have hav := hrv a (List.mem_of_getElem? ha)
      refine am_steps_r ok_V_partAt 2 (q' := (75, [some (.ref 3), some (.int (nI v)), some (.int (nI k)), some (.int 0), some (.int (nI s)), some (.int (nI a)), some (.int (nI n0))], [.int (nI a), .ref 3], wd C Y og)) rfl ?_
      refine am_callV_r (As := [.int (nI a)]) (rest := []) ok_V_partAt rfl rfl ok_V_nextOf oi_V_nextOf lk_3_68 (Or.inl ⟨_, _, _, rfl, rfl, rfl⟩) rfl rfl (Nat.le_of_ble_eq_true rfl) (c_V_nextOf_in _ C Y og nv u hS.1 a (hrv a (List.mem_of_getElem? ha))) ?_
      rintro v_ w_ ⟨rfl, rfl⟩ -
      refine am_eq_r (q' := (78, [some (.ref 3), some (.int (nI v)), some (.int (nI k)), some (.int 0), some (.int (nI s)), some (.int (nI a)), some (.int (nI n0))], [.int (C.2.1 7 a)], wd C Y og)) rfl ?_
      refine am_steps_r ok_V_partAt 3 (q' := (65, [some (.ref 3), some (.int (nI v)), some (.int (nI k)), some (.int 0), some (.int (nI s)), some (.int (C.2.1 7 a)), some (.int ((nI n0) + 1))], [], wd C Y og)) rfl ?_
      rw [show ((nI n0) + 1 : Int32) = nI (n0 + 1) from nI_add n0 1]
      exact ih post (C.2.1 7 a) (n0 + 1) (by omega) hx2 hpo (by omega)
set_option maxHeartbeats 4000000 in
set_option maxRecDepth 100000 in
theorem lp_V_partAt_1 (d : Nat) (C : wd_C) (Y : wd_Y) (og : Nat → Int64) (nv u : Nat) (V : VT) (hS : vsC C nv u V) (v : Nat) (hv : v < nv) (r : List Nat) (hrv : ∀ a ∈ r, a < nv) (k s : Nat) (hsr : s < r.length) (hr6 : r.length ≤ 600) (hk : k < 2 ^ 31)  : ∀ (fu : Nat) (post : Option Value → am_W → Prop) (x : Int32) (n0 : Nat), (n0 ≤ s) → (lkd (C.2.1 7) x (r.drop n0)) → (∀ a, r[s]? = some a → post (some (.int (if k % 2 = 1 then C.2.1 8 a else nI a))) (wd C Y og)) → s - n0 < fu → am_Rn l D cA ad fm (d + 2) m_V_partAt (wd C Y og).length post (65, [some (.ref 3), some (.int (nI v)), some (.int (nI k)), some (.int 1), some (.int (nI s)), some (.int x), some (.int (nI n0))], [], wd C Y og) := by
  intro fu
  induction fu with
  | zero => intro post x n0 hn0 hlk hpo hfu; exact absurd hfu (Nat.not_lt_zero _)
  | succ fu ih =>
    intro post x n0 hn0 hlk hpo hfu
    have hnv := hS.1.2.1
    have hl6 := vsC_len hS hv
    have hl2 := (vsC_bt hS hv).2
    refine am_steps_r ok_V_partAt 3 (q' := (bif decide ((nI s) ≤ (nI n0)) then 86 else 72, [some (.ref 3), some (.int (nI v)), some (.int (nI k)), some (.int 1), some (.int (nI s)), some (.int x), some (.int (nI n0))], [], wd C Y og)) rfl ?_
    refine am_br_r (fun h_1 => ?_) (fun h_1 => ?_)
    · skip
      have h_1 : s ≤ n0 := (nI_leI (show s < 2 ^ 31 by omega) (show n0 < 2 ^ 31 by omega)).mp h_1
      obtain ⟨a, ha⟩ : ∃ a, r[n0]? = some a := ⟨r[n0], List.getElem?_eq_getElem (by omega)⟩
      obtain ⟨rfl, hx2⟩ := lkd_drop hlk ha
      have hav := hrv a (List.mem_of_getElem? ha)
      have hn9 : n0 = s := by omega
      rw [hn9] at ha
      refine am_steps_r ok_V_partAt 7 (q' := (bif decide (((nI k) - (nI k) / 2 * 2) = 1) then 97 else 106, [some (.ref 3), some (.int (nI v)), some (.int (nI k)), some (.int 1), some (.int (nI s)), some (.int (nI a)), some (.int (nI n0))], [], wd C Y og)) rfl ?_
      rw [show ((nI k) - (nI k) / 2 * 2 : Int32) = nI (k % 2) from (nI_rem2 k (by omega))]
      refine am_br_r (fun h_2 => ?_) (fun h_2 => ?_)
      · skip
        have h_2 : (k % 2) = 1 := (nI_eq (show (k % 2) < 2 ^ 31 by omega) (show 1 < 2 ^ 31 by omega)).mp h_2
        refine am_steps_r ok_V_partAt 2 (q' := (100, [some (.ref 3), some (.int (nI v)), some (.int (nI k)), some (.int 1), some (.int (nI s)), some (.int (nI a)), some (.int (nI n0))], [.int (nI a), .ref 3], wd C Y og)) rfl ?_
        refine am_callV_r (As := [.int (nI a)]) (rest := []) ok_V_partAt rfl rfl ok_V_heldBy oi_V_heldBy lk_3_72 (Or.inl ⟨_, _, _, rfl, rfl, rfl⟩) rfl rfl (Nat.le_of_ble_eq_true rfl) (c_V_heldBy_in _ C Y og nv u hS.1 a hav) ?_
        rintro v_ w_ ⟨rfl, rfl⟩ -
        refine am_eq_r (q' := (103, [some (.ref 3), some (.int (nI v)), some (.int (nI k)), some (.int 1), some (.int (nI s)), some (.int (nI a)), some (.int (nI n0))], [.int (C.2.1 8 a)], wd C Y og)) rfl ?_
        refine am_steps_r ok_V_partAt 1 (q' := (108, [some (.ref 3), some (.int (nI v)), some (.int (nI k)), some (.int 1), some (.int (nI s)), some (.int (nI a)), some (.int (nI n0))], [.int (C.2.1 8 a)], wd C Y og)) rfl ?_
        refine am_iret_r ok_V_partAt rfl rfl rfl ?_
        have := hpo a ha
        first | (rw [if_pos (by omega)] at this; exact this) | (rw [if_neg (by omega)] at this; exact this)
      · skip
        have h_2 : ¬ (k % 2) = 1 := fun z => h_2 ((nI_eq (show (k % 2) < 2 ^ 31 by omega) (show 1 < 2 ^ 31 by omega)).mpr z)
        refine am_steps_r ok_V_partAt 1 (q' := (108, [some (.ref 3), some (.int (nI v)), some (.int (nI k)), some (.int 1), some (.int (nI s)), some (.int (nI a)), some (.int (nI n0))], [.int (nI a)], wd C Y og)) rfl ?_
        refine am_iret_r ok_V_partAt rfl rfl rfl ?_
        have := hpo a ha
        first | (rw [if_pos (by omega)] at this; exact this) | (rw [if_neg (by omega)] at this; exact this)
    · skip
      have h_1 : ¬ s ≤ n0 := fun z => h_1 ((nI_leI (show s < 2 ^ 31 by omega) (show n0 < 2 ^ 31 by omega)).mpr z)
      obtain ⟨a, ha⟩ : ∃ a, r[n0]? = some a := ⟨r[n0], List.getElem?_eq_getElem (by omega)⟩
      obtain ⟨rfl, hx2⟩ := lkd_drop hlk ha
      have hav := hrv a (List.mem_of_getElem? ha)
      refine am_steps_r ok_V_partAt 2 (q' := (75, [some (.ref 3), some (.int (nI v)), some (.int (nI k)), some (.int 1), some (.int (nI s)), some (.int (nI a)), some (.int (nI n0))], [.int (nI a), .ref 3], wd C Y og)) rfl ?_
      refine am_callV_r (As := [.int (nI a)]) (rest := []) ok_V_partAt rfl rfl ok_V_nextOf oi_V_nextOf lk_3_68 (Or.inl ⟨_, _, _, rfl, rfl, rfl⟩) rfl rfl (Nat.le_of_ble_eq_true rfl) (c_V_nextOf_in _ C Y og nv u hS.1 a (hrv a (List.mem_of_getElem? ha))) ?_
      rintro v_ w_ ⟨rfl, rfl⟩ -
      refine am_eq_r (q' := (78, [some (.ref 3), some (.int (nI v)), some (.int (nI k)), some (.int 1), some (.int (nI s)), some (.int (nI a)), some (.int (nI n0))], [.int (C.2.1 7 a)], wd C Y og)) rfl ?_
      refine am_steps_r ok_V_partAt 3 (q' := (65, [some (.ref 3), some (.int (nI v)), some (.int (nI k)), some (.int 1), some (.int (nI s)), some (.int (C.2.1 7 a)), some (.int ((nI n0) + 1))], [], wd C Y og)) rfl ?_
      rw [show ((nI n0) + 1 : Int32) = nI (n0 + 1) from nI_add n0 1]
      exact ih post (C.2.1 7 a) (n0 + 1) (by omega) hx2 hpo (by omega)
set_option maxHeartbeats 4000000 in
set_option maxRecDepth 100000 in
theorem c_V_partAt_k (d : Nat) (C : wd_C) (Y : wd_Y) (og : Nat → Int64) (nv u : Nat) (V : VT) (hS : vsC C nv u V) (v : Nat) (hv : v < nv) (k : Nat) (hk : k < 2 ^ 31) : am_Mt l D cA ad fm (d + 2) m_V_partAt [.ref 3, .int (nI v), .int (nI k)] (wd C Y og) (fun vr w' => vr = some (.int (chK (V.2.2.1 v) k)) ∧ w' = wd C Y og) := by
  have hnv := hS.1.2.1
  have hl6 := vsC_len hS hv
  have hl2 := (vsC_bt hS hv).2
  obtain ⟨r1, r2, r3, r4, r5, r6, r8, r7⟩ := hS.2.1 v hv
  refine am_mt ok_V_partAt (by simp [am_arg, Value.category, m_V_partAt, am_ml]) ?_
  refine am_eq_r (q' := (0, [some (.ref 3), some (.int (nI v)), some (.int (nI k)), none, none, none, none], [], wd C Y og)) rfl ?_
  refine am_steps_r ok_V_partAt 2 (q' := (2, [some (.ref 3), some (.int (nI v)), some (.int (nI k)), none, none, none, none], [.int (nI v), .ref 3], wd C Y og)) rfl ?_
  refine am_callV_r (As := [.int (nI v)]) (rest := []) ok_V_partAt rfl rfl ok_V_has oi_V_has lk_3_60 (Or.inl ⟨_, _, _, rfl, rfl, rfl⟩) rfl rfl (Nat.le_of_ble_eq_true rfl) (c_V_has_in _ C Y og nv u hS.1 v (by omega)) ?_
  rintro v_ w_ ⟨rfl, rfl⟩ -
  refine am_eq_r (q' := (5, [some (.ref 3), some (.int (nI v)), some (.int (nI k)), none, none, none, none], [.int 1], wd C Y og)) rfl ?_
  refine am_steps_r ok_V_partAt 3 (q' := (bif decide ((nI k) < 0) then 22 else 12, [some (.ref 3), some (.int (nI v)), some (.int (nI k)), none, none, none, none], [], wd C Y og)) rfl ?_
  refine am_br_r (fun h_2 => ?_) (fun h_2 => ?_)
  · skip
    have h_2 : k < 0 := (nI_ltI (show k < 2 ^ 31 by omega) (show 0 < 2 ^ 31 by omega)).mp h_2
    exact absurd h_2 (Nat.not_lt_zero _)
  · skip
    have h_2 : ¬ k < 0 := fun z => h_2 ((nI_ltI (show k < 2 ^ 31 by omega) (show 0 < 2 ^ 31 by omega)).mpr z)
    refine am_steps_r ok_V_partAt 4 (q' := (18, [some (.ref 3), some (.int (nI v)), some (.int (nI k)), none, none, none, none], [.int (nI v), .ref 8, .int (nI k)], wd C Y og)) rfl ?_
    refine am_iald_r ok_V_partAt rfl (w := wd C Y og) (f := C.2.1 4) rfl rfl (pk_in v 300 (by omega)) ?_
    rw [nI_clamp (show v < 2 ^ 31 by omega)]
    rw [r3]
    refine am_steps_r ok_V_partAt 1 (q' := (bif decide ((nI k) < (nI ((V.2.2.1 v).length))) then 24 else 22, [some (.ref 3), some (.int (nI v)), some (.int (nI k)), none, none, none, none], [], wd C Y og)) rfl ?_
    refine am_br_r (fun h_3 => ?_) (fun h_3 => ?_)
    · skip
      have h_3 : k < ((V.2.2.1 v).length) := (nI_ltI (show k < 2 ^ 31 by omega) (show ((V.2.2.1 v).length) < 2 ^ 31 by omega)).mp h_3
      refine am_steps_r ok_V_partAt 3 (q' := (29, [some (.ref 3), some (.int (nI v)), some (.int (nI k)), none, none, none, none], [.int (nI v), .ref 4], wd C Y og)) rfl ?_
      refine am_iald_r ok_V_partAt rfl (w := wd C Y og) (f := C.2.1 1) rfl rfl (pk_in v 300 (by omega)) ?_
      rw [nI_clamp (show v < 2 ^ 31 by omega)]
      rw [r1]
      refine am_steps_r ok_V_partAt 2 (q' := (bif decide ((V.1 v) = 7) then 35 else 39, [some (.ref 3), some (.int (nI v)), some (.int (nI k)), none, none, none, none], [], wd C Y og)) rfl ?_
      refine am_br_r (fun h_4 => ?_) (fun h_4 => ?_)
      · skip
        have h7y := h_4
        refine am_steps_r ok_V_partAt 13 (q' := (59, [some (.ref 3), some (.int (nI v)), some (.int (nI k)), some (.int 1), some (.int ((nI k) / 2)), none, none], [.int (nI v), .ref 9], wd C Y og)) rfl ?_
        rw [show ((nI k) / 2 : Int32) = nI (k / 2) from (nIdiv k 2 (by omega) (by omega))]
        refine am_iald_r ok_V_partAt rfl (w := wd C Y og) (f := C.2.1 5) rfl rfl (pk_in v 300 (by omega)) ?_
        rw [nI_clamp (show v < 2 ^ 31 by omega)]
        rw [(rfl : C.2.1 5 v = C.2.1 5 v)]
        refine am_steps_r ok_V_partAt 3 (q' := (65, [some (.ref 3), some (.int (nI v)), some (.int (nI k)), some (.int 1), some (.int (nI (k / 2))), some (.int (C.2.1 5 v)), some (.int 0)], [], wd C Y og)) rfl ?_
        refine am_eq_r (q' := (65, [some (.ref 3), some (.int (nI v)), some (.int (nI k)), some (.int 1), some (.int (nI (k / 2))), some (.int (C.2.1 5 v)), some (.int (nI 0))], [], wd C Y og)) rfl ?_
        obtain ⟨me, hev⟩ := hld_even (r7.1 h7y).2.2
        have hkl : (keysOf (V.2.2.1 v)).length = me := by have := keysOf_len hev; omega
        refine lp_V_partAt_1 d C Y og nv u V hS v hv (keysOf (V.2.2.1 v)) (fun a ha => r4 a (keysOf_mem ha)) k (k / 2) (by omega) (by omega) hk (k / 2 + 1) _ _ 0 (Nat.zero_le _) (by rw [List.drop_zero]; exact (r7.1 h7y).1) (fun a ha => ⟨?_, rfl⟩) (by omega)
        rw [keys_at, if_pos (by omega)] at ha
        by_cases hk2 : k % 2 = 1
        · rw [if_pos hk2, hld_at (r7.1 h7y).2.2 ha, show 2 * (k / 2) + 1 = k by omega]; rfl
        · rw [show 2 * (k / 2) = k by omega] at ha; rw [if_neg hk2, chK, ha]; rfl
      · skip
        have h7n := h_4
        refine am_steps_r ok_V_partAt 9 (q' := (59, [some (.ref 3), some (.int (nI v)), some (.int (nI k)), some (.int 0), some (.int (nI k)), none, none], [.int (nI v), .ref 9], wd C Y og)) rfl ?_
        refine am_iald_r ok_V_partAt rfl (w := wd C Y og) (f := C.2.1 5) rfl rfl (pk_in v 300 (by omega)) ?_
        rw [nI_clamp (show v < 2 ^ 31 by omega)]
        rw [(rfl : C.2.1 5 v = C.2.1 5 v)]
        refine am_steps_r ok_V_partAt 3 (q' := (65, [some (.ref 3), some (.int (nI v)), some (.int (nI k)), some (.int 0), some (.int (nI k)), some (.int (C.2.1 5 v)), some (.int 0)], [], wd C Y og)) rfl ?_
        refine am_eq_r (q' := (65, [some (.ref 3), some (.int (nI v)), some (.int (nI k)), some (.int 0), some (.int (nI k)), some (.int (C.2.1 5 v)), some (.int (nI 0))], [], wd C Y og)) rfl ?_
        exact lp_V_partAt_0 d C Y og nv u V hS v hv (V.2.2.1 v) r4 k k (by omega) (by omega) hk (k + 1) _ _ 0 (Nat.zero_le _) (by rw [List.drop_zero]; exact (r7.2 h7n).1) (fun a ha => ⟨by rw [chK, ha]; rfl, rfl⟩) (by omega)
    · skip
      have h_3 : ¬ k < ((V.2.2.1 v).length) := fun z => h_3 ((nI_ltI (show k < 2 ^ 31 by omega) (show ((V.2.2.1 v).length) < 2 ^ 31 by omega)).mpr z)
      refine am_steps_r ok_V_partAt 1 (q' := (23, [some (.ref 3), some (.int (nI v)), some (.int (nI k)), none, none, none, none], [.int (-1)], wd C Y og)) rfl ?_
      refine am_iret_r ok_V_partAt rfl rfl rfl ?_
      exact ⟨by rw [chK, List.getElem?_eq_none (by omega)]; rfl, rfl⟩
set_option maxHeartbeats 4000000 in
set_option maxRecDepth 100000 in
theorem c_V_partAt_m (d : Nat) (C : wd_C) (Y : wd_Y) (og : Nat → Int64) (nv u : Nat) (V : VT) (hS : vsC C nv u V) (v : Nat) (hv : v < nv) (y : Int32) (hy : y < 0) : am_Mt l D cA ad fm (d + 2) m_V_partAt [.ref 3, .int (nI v), .int y] (wd C Y og) (fun vr w' => vr = some (.int (-1)) ∧ w' = wd C Y og) := by
  have hnv := hS.1.2.1
  have hl6 := vsC_len hS hv
  have hl2 := (vsC_bt hS hv).2
  refine am_mt ok_V_partAt (by simp [am_arg, Value.category, m_V_partAt, am_ml]) ?_
  refine am_eq_r (q' := (0, [some (.ref 3), some (.int (nI v)), some (.int y), none, none, none, none], [], wd C Y og)) rfl ?_
  refine am_steps_r ok_V_partAt 2 (q' := (2, [some (.ref 3), some (.int (nI v)), some (.int y), none, none, none, none], [.int (nI v), .ref 3], wd C Y og)) rfl ?_
  refine am_callV_r (As := [.int (nI v)]) (rest := []) ok_V_partAt rfl rfl ok_V_has oi_V_has lk_3_60 (Or.inl ⟨_, _, _, rfl, rfl, rfl⟩) rfl rfl (Nat.le_of_ble_eq_true rfl) (c_V_has_in _ C Y og nv u hS.1 v (by omega)) ?_
  rintro v_ w_ ⟨rfl, rfl⟩ -
  refine am_eq_r (q' := (5, [some (.ref 3), some (.int (nI v)), some (.int y), none, none, none, none], [.int 1], wd C Y og)) rfl ?_
  refine am_steps_r ok_V_partAt 3 (q' := (bif decide (y < 0) then 22 else 12, [some (.ref 3), some (.int (nI v)), some (.int y), none, none, none, none], [], wd C Y og)) rfl ?_
  refine am_br_r (fun h_2 => ?_) (fun h_2 => ?_)
  · skip
    refine am_steps_r ok_V_partAt 1 (q' := (23, [some (.ref 3), some (.int (nI v)), some (.int y), none, none, none, none], [.int (-1)], wd C Y og)) rfl ?_
    refine am_iret_r ok_V_partAt rfl rfl rfl ?_
    exact ⟨rfl, rfl⟩
  · skip
    exact absurd hy h_2
set_option maxHeartbeats 4000000 in
set_option maxRecDepth 100000 in
theorem c_S_child_k (d : Nat) (C : wd_C) (Y : wd_Y) (og : Nat → Int64) (nv u : Nat) (V : VT) (hS : vsC C nv u V) (v : Nat) (hv : v < nv) (k : Nat) (hk : k < 2 ^ 31) : am_Mt l D cA ad fm (d + 3) m_S_child [.ref 0, .int (nI v), .int (nI k)] (wd C Y og) (fun vr w' => vr = some (.int (chK (V.2.2.1 v) k)) ∧ w' = wd C Y og) := by
  have hnv := hS.1.2.1
  have hl6 := vsC_len hS hv
  have hl2 := (vsC_bt hS hv).2
  refine am_mt ok_S_child (by simp [am_arg, Value.category, m_S_child, am_ml]) ?_
  refine am_eq_r (q' := (0, [some (.ref 0), some (.int (nI v)), some (.int (nI k))], [], wd C Y og)) rfl ?_
  refine am_steps_r ok_S_child 3 (q' := (5, [some (.ref 0), some (.int (nI v)), some (.int (nI k))], [.int (nI v), .ref 3], wd C Y og)) rfl ?_
  refine am_callV_r (As := [.int (nI v)]) (rest := []) ok_S_child rfl rfl ok_V_has oi_V_has lk_5_85 (Or.inl ⟨_, _, _, rfl, rfl, rfl⟩) rfl rfl (Nat.le_of_ble_eq_true rfl) (c_V_has_in _ C Y og nv u hS.1 v (by omega)) ?_
  rintro v_ w_ ⟨rfl, rfl⟩ -
  refine am_eq_r (q' := (8, [some (.ref 0), some (.int (nI v)), some (.int (nI k))], [.int 1], wd C Y og)) rfl ?_
  refine am_steps_r ok_S_child 5 (q' := (27, [some (.ref 0), some (.int (nI v)), some (.int (nI k))], [.int (nI k), .int (nI v), .ref 3], wd C Y og)) rfl ?_
  refine am_callV_r (As := [.int (nI v), .int (nI k)]) (rest := []) ok_S_child rfl rfl ok_V_partAt oi_V_partAt lk_5_107 (Or.inl ⟨_, _, _, rfl, rfl, rfl⟩) rfl rfl (Nat.le_of_ble_eq_true rfl) (c_V_partAt_k _ C Y og nv u V hS v hv k hk) ?_
  rintro v_ w_ ⟨rfl, rfl⟩ -
  refine am_eq_r (q' := (30, [some (.ref 0), some (.int (nI v)), some (.int (nI k))], [.int (chK (V.2.2.1 v) k)], wd C Y og)) rfl ?_
  refine am_iret_r ok_S_child rfl rfl rfl ?_
  exact ⟨rfl, rfl⟩
set_option maxHeartbeats 4000000 in
set_option maxRecDepth 100000 in
theorem c_S_child_m (d : Nat) (C : wd_C) (Y : wd_Y) (og : Nat → Int64) (nv u : Nat) (V : VT) (hS : vsC C nv u V) (v : Nat) (hv : v < nv) (y : Int32) (hy : y < 0) : am_Mt l D cA ad fm (d + 3) m_S_child [.ref 0, .int (nI v), .int y] (wd C Y og) (fun vr w' => vr = some (.int (-1)) ∧ w' = wd C Y og) := by
  have hnv := hS.1.2.1
  have hl6 := vsC_len hS hv
  have hl2 := (vsC_bt hS hv).2
  refine am_mt ok_S_child (by simp [am_arg, Value.category, m_S_child, am_ml]) ?_
  refine am_eq_r (q' := (0, [some (.ref 0), some (.int (nI v)), some (.int y)], [], wd C Y og)) rfl ?_
  refine am_steps_r ok_S_child 3 (q' := (5, [some (.ref 0), some (.int (nI v)), some (.int y)], [.int (nI v), .ref 3], wd C Y og)) rfl ?_
  refine am_callV_r (As := [.int (nI v)]) (rest := []) ok_S_child rfl rfl ok_V_has oi_V_has lk_5_85 (Or.inl ⟨_, _, _, rfl, rfl, rfl⟩) rfl rfl (Nat.le_of_ble_eq_true rfl) (c_V_has_in _ C Y og nv u hS.1 v (by omega)) ?_
  rintro v_ w_ ⟨rfl, rfl⟩ -
  refine am_eq_r (q' := (8, [some (.ref 0), some (.int (nI v)), some (.int y)], [.int 1], wd C Y og)) rfl ?_
  refine am_steps_r ok_S_child 5 (q' := (27, [some (.ref 0), some (.int (nI v)), some (.int y)], [.int y, .int (nI v), .ref 3], wd C Y og)) rfl ?_
  refine am_callV_r (As := [.int (nI v), .int y]) (rest := []) ok_S_child rfl rfl ok_V_partAt oi_V_partAt lk_5_107 (Or.inl ⟨_, _, _, rfl, rfl, rfl⟩) rfl rfl (Nat.le_of_ble_eq_true rfl) (c_V_partAt_m _ C Y og nv u V hS v hv y hy) ?_
  rintro v_ w_ ⟨rfl, rfl⟩ -
  refine am_eq_r (q' := (30, [some (.ref 0), some (.int (nI v)), some (.int y)], [.int (-1)], wd C Y og)) rfl ?_
  refine am_iret_r ok_S_child rfl rfl rfl ?_
  exact ⟨rfl, rfl⟩
set_option maxHeartbeats 4000000 in
set_option maxRecDepth 100000 in
theorem c_S_lookup (d : Nat) (C : wd_C) (Y : wd_Y) (og : Nat → Int64) (nv u : Nat) (V : VT) (hS : vsC C nv u V) (v : Nat) (hv : v < nv) (ht : Nat → Nat) (hg : hG nv V ht) (w : Nat) (hw : w < nv) : am_Mt l D cA ad fm (d + 3) m_S_lookup [.ref 0, .int (nI v), .int (nI w)] (wd C Y og) (fun vr w' => vr = some (.int (lkX V v w)) ∧ w' = wd C Y og) := by
  have hnv := hS.1.2.1
  have hl6 := vsC_len hS hv
  have hl2 := (vsC_bt hS hv).2
  refine am_mt ok_S_lookup (by simp [am_arg, Value.category, m_S_lookup, am_ml]) ?_
  refine am_eq_r (q' := (0, [some (.ref 0), some (.int (nI v)), some (.int (nI w)), none], [], wd C Y og)) rfl ?_
  refine am_steps_r ok_S_lookup 3 (q' := (5, [some (.ref 0), some (.int (nI v)), some (.int (nI w)), none], [.int (nI v), .ref 3], wd C Y og)) rfl ?_
  refine am_callV_r (As := [.int (nI v)]) (rest := []) ok_S_lookup rfl rfl ok_V_has oi_V_has lk_5_85 (Or.inl ⟨_, _, _, rfl, rfl, rfl⟩) rfl rfl (Nat.le_of_ble_eq_true rfl) (c_V_has_in _ C Y og nv u hS.1 v (by omega)) ?_
  rintro v_ w_ ⟨rfl, rfl⟩ -
  refine am_eq_r (q' := (8, [some (.ref 0), some (.int (nI v)), some (.int (nI w)), none], [.int 1], wd C Y og)) rfl ?_
  refine am_steps_r ok_S_lookup 4 (q' := (16, [some (.ref 0), some (.int (nI v)), some (.int (nI w)), none], [.int (nI w), .ref 3], wd C Y og)) rfl ?_
  refine am_callV_r (As := [.int (nI w)]) (rest := []) ok_S_lookup rfl rfl ok_V_has oi_V_has lk_5_85 (Or.inl ⟨_, _, _, rfl, rfl, rfl⟩) rfl rfl (Nat.le_of_ble_eq_true rfl) (c_V_has_in _ C Y og nv u hS.1 w (by omega)) ?_
  rintro v_ w_ ⟨rfl, rfl⟩ -
  refine am_eq_r (q' := (19, [some (.ref 0), some (.int (nI v)), some (.int (nI w)), none], [.int 1], wd C Y og)) rfl ?_
  refine am_steps_r ok_S_lookup 4 (q' := (37, [some (.ref 0), some (.int (nI v)), some (.int (nI w)), none], [.int (nI v), .ref 3], wd C Y og)) rfl ?_
  refine am_callV_r (As := [.int (nI v)]) (rest := []) ok_S_lookup rfl rfl ok_V_kindOf oi_V_kindOf lk_5_88 (Or.inl ⟨_, _, _, rfl, rfl, rfl⟩) rfl rfl (Nat.le_of_ble_eq_true rfl) (c_V_kindOf_in _ C Y og nv u hS.1 v (by omega)) ?_
  rintro v_ w_ ⟨rfl, rfl⟩ -
  rw [(hS.2.1 v (by omega)).1]
  refine am_eq_r (q' := (40, [some (.ref 0), some (.int (nI v)), some (.int (nI w)), none], [.int (V.1 v)], wd C Y og)) rfl ?_
  refine am_steps_r ok_S_lookup 2 (q' := (bif decide ((V.1 v) = 9) then 45 else 56, [some (.ref 0), some (.int (nI v)), some (.int (nI w)), none], [], wd C Y og)) rfl ?_
  refine am_br_r (fun h_3 => ?_) (fun h_3 => ?_)
  · skip
    obtain ⟨hh8, dc, hdc, hdc7⟩ := (hg v hv).2.2.2.1 h_3
    have hdcn : dc < nv := (hS.2.1 v hv).2.2.2.1 dc (by rw [hdc]; simp)
    have hdc1 : C.2.1 5 v = nI dc := by have := ((hS.2.1 v hv).2.2.2.2.2.2.2.2 (by rw [h_3]; decide)).1; rw [hdc] at this; exact this.1
    have hld : lkD V v = dc := by rw [lkD, if_pos h_3, hdc]; rfl
    refine am_steps_r ok_S_lookup 3 (q' := (50, [some (.ref 0), some (.int (nI v)), some (.int (nI w)), none], [.int (nI v), .ref 3], wd C Y og)) rfl ?_
    refine am_callV_r (As := [.int (nI v)]) (rest := []) ok_S_lookup rfl rfl ok_V_firstOf oi_V_firstOf lk_5_112 (Or.inl ⟨_, _, _, rfl, rfl, rfl⟩) rfl rfl (Nat.le_of_ble_eq_true rfl) (c_V_firstOf_in _ C Y og nv u hS.1 v hv) ?_
    rintro v_ w_ ⟨rfl, rfl⟩ -
    rw [hdc1]
    refine am_eq_r (q' := (53, [some (.ref 0), some (.int (nI v)), some (.int (nI w)), none], [.int (nI dc)], wd C Y og)) rfl ?_
    refine am_steps_r ok_S_lookup 5 (q' := (63, [some (.ref 0), some (.int (nI v)), some (.int (nI w)), some (.int (nI dc))], [.int (nI dc), .ref 3], wd C Y og)) rfl ?_
    refine am_callV_r (As := [.int (nI dc)]) (rest := []) ok_S_lookup rfl rfl ok_V_kindOf oi_V_kindOf lk_5_88 (Or.inl ⟨_, _, _, rfl, rfl, rfl⟩) rfl rfl (Nat.le_of_ble_eq_true rfl) (c_V_kindOf_in _ C Y og nv u hS.1 dc (by omega)) ?_
    rintro v_ w_ ⟨rfl, rfl⟩ -
    rw [(hS.2.1 dc (by omega)).1]
    refine am_eq_r (q' := (66, [some (.ref 0), some (.int (nI v)), some (.int (nI w)), some (.int (nI dc))], [.int (V.1 dc)], wd C Y og)) rfl ?_
    refine am_steps_r ok_S_lookup 2 (q' := (bif decide ((V.1 dc) = 7) then 71 else 83, [some (.ref 0), some (.int (nI v)), some (.int (nI w)), some (.int (nI dc))], [], wd C Y og)) rfl ?_
    refine am_br_r (fun h_4 => ?_) (fun h_4 => ?_)
    · skip
      refine am_steps_r ok_S_lookup 3 (q' := (76, [some (.ref 0), some (.int (nI v)), some (.int (nI w)), some (.int (nI dc))], [.int (nI w), .ref 3], wd C Y og)) rfl ?_
      refine am_callV_r (As := [.int (nI w)]) (rest := []) ok_S_lookup rfl rfl ok_V_kindOf oi_V_kindOf lk_5_88 (Or.inl ⟨_, _, _, rfl, rfl, rfl⟩) rfl rfl (Nat.le_of_ble_eq_true rfl) (c_V_kindOf_in _ C Y og nv u hS.1 w (by omega)) ?_
      rintro v_ w_ ⟨rfl, rfl⟩ -
      rw [(hS.2.1 w (by omega)).1]
      refine am_eq_r (q' := (79, [some (.ref 0), some (.int (nI v)), some (.int (nI w)), some (.int (nI dc))], [.int (V.1 w)], wd C Y og)) rfl ?_
      refine am_steps_r ok_S_lookup 2 (q' := (bif decide ((V.1 w) = 4) then 85 else 83, [some (.ref 0), some (.int (nI v)), some (.int (nI w)), some (.int (nI dc))], [], wd C Y og)) rfl ?_
      refine am_br_r (fun h_5 => ?_) (fun h_5 => ?_)
      · skip
        refine am_steps_r ok_S_lookup 6 (q' := (95, [some (.ref 0), some (.int (nI v)), some (.int (nI w)), some (.int (nI dc))], [.int (nI w), .int (nI dc), .ref 3, .ref 3], wd C Y og)) rfl ?_
        refine am_callV_r (As := [.int (nI dc), .int (nI w)]) (rest := [.ref 3]) ok_S_lookup rfl rfl ok_V_keyLike oi_V_keyLike lk_5_115 (Or.inl ⟨_, _, _, rfl, rfl, rfl⟩) rfl rfl (Nat.le_of_ble_eq_true rfl) (c_V_keyLike _ C Y og nv u V hS dc w (by omega) hw (by assumption)) ?_
        rintro v_ w_ ⟨rfl, rfl⟩ -
        have hhl := ((hS.2.1 dc (by omega)).2.2.2.2.2.2.2.1 (by assumption)).2.2
        have r4 := (hS.2.1 dc (by omega)).2.2.2.1
        rw [show vtFnd V dc w = (prF (fun a => decide (V.2.2.2 a = V.2.2.2 w)) (V.2.2.1 dc)).map (fun z => z.1) from prF_find hhl]
        rcases hpf : prF (fun a => decide (V.2.2.2 a = V.2.2.2 w)) (V.2.2.1 dc) with _ | ⟨t, y⟩
        · skip
          refine am_eq_r (q' := (98, [some (.ref 0), some (.int (nI v)), some (.int (nI w)), some (.int (nI dc))], [.int (-1), .ref 3], wd C Y og)) rfl ?_
          refine am_callV_r (As := [.int (-1)]) (rest := []) ok_S_lookup rfl rfl ok_V_heldBy oi_V_heldBy lk_5_118 (Or.inl ⟨_, _, _, rfl, rfl, rfl⟩) rfl rfl (Nat.le_of_ble_eq_true rfl) (c_V_heldBy_m _ C Y og nv u hS.1) ?_
          rintro v_ w_ ⟨rfl, rfl⟩ -
          refine am_eq_r (q' := (101, [some (.ref 0), some (.int (nI v)), some (.int (nI w)), some (.int (nI dc))], [.int (-1)], wd C Y og)) rfl ?_
          refine am_iret_r ok_S_lookup rfl rfl rfl ?_
          first | exact ⟨by rw [lkX, hld, if_neg (fun z => absurd z.1 (by assumption))], rfl⟩ | exact ⟨by rw [lkX, hld, if_neg (fun z => absurd z.2 (by assumption))], rfl⟩ | exact ⟨by rw [lkX, hld, if_pos ⟨by assumption, by assumption⟩, hpf]; rfl, rfl⟩
        · skip
          obtain ⟨p1, p2, p3, p4, p5⟩ := prF_hld hhl hpf
          have htn := r4 t p2
          refine am_eq_r (q' := (98, [some (.ref 0), some (.int (nI v)), some (.int (nI w)), some (.int (nI dc))], [.int (nI t), .ref 3], wd C Y og)) rfl ?_
          refine am_callV_r (As := [.int (nI t)]) (rest := []) ok_S_lookup rfl rfl ok_V_heldBy oi_V_heldBy lk_5_118 (Or.inl ⟨_, _, _, rfl, rfl, rfl⟩) rfl rfl (Nat.le_of_ble_eq_true rfl) (c_V_heldBy_in _ C Y og nv u hS.1 t htn) ?_
          rintro v_ w_ ⟨rfl, rfl⟩ -
          rw [p1]
          refine am_eq_r (q' := (101, [some (.ref 0), some (.int (nI v)), some (.int (nI w)), some (.int (nI dc))], [.int (nI y)], wd C Y og)) rfl ?_
          refine am_iret_r ok_S_lookup rfl rfl rfl ?_
          exact ⟨by rw [lkX, hld, if_pos ⟨by assumption, by assumption⟩, hpf]; rfl, rfl⟩
      · skip
        refine am_steps_r ok_S_lookup 1 (q' := (84, [some (.ref 0), some (.int (nI v)), some (.int (nI w)), some (.int (nI dc))], [.int (-1)], wd C Y og)) rfl ?_
        refine am_iret_r ok_S_lookup rfl rfl rfl ?_
        first | exact ⟨by rw [lkX, hld, if_neg (fun z => absurd z.1 (by assumption))], rfl⟩ | exact ⟨by rw [lkX, hld, if_neg (fun z => absurd z.2 (by assumption))], rfl⟩ | exact ⟨by rw [lkX, hld, if_pos ⟨by assumption, by assumption⟩, hpf]; rfl, rfl⟩
    · skip
      refine am_steps_r ok_S_lookup 1 (q' := (84, [some (.ref 0), some (.int (nI v)), some (.int (nI w)), some (.int (nI dc))], [.int (-1)], wd C Y og)) rfl ?_
      refine am_iret_r ok_S_lookup rfl rfl rfl ?_
      first | exact ⟨by rw [lkX, hld, if_neg (fun z => absurd z.1 (by assumption))], rfl⟩ | exact ⟨by rw [lkX, hld, if_neg (fun z => absurd z.2 (by assumption))], rfl⟩ | exact ⟨by rw [lkX, hld, if_pos ⟨by assumption, by assumption⟩, hpf]; rfl, rfl⟩
  · skip
    have hld : lkD V v = v := by rw [lkD, if_neg h_3]
    refine am_steps_r ok_S_lookup 5 (q' := (63, [some (.ref 0), some (.int (nI v)), some (.int (nI w)), some (.int (nI v))], [.int (nI v), .ref 3], wd C Y og)) rfl ?_
    refine am_callV_r (As := [.int (nI v)]) (rest := []) ok_S_lookup rfl rfl ok_V_kindOf oi_V_kindOf lk_5_88 (Or.inl ⟨_, _, _, rfl, rfl, rfl⟩) rfl rfl (Nat.le_of_ble_eq_true rfl) (c_V_kindOf_in _ C Y og nv u hS.1 v (by omega)) ?_
    rintro v_ w_ ⟨rfl, rfl⟩ -
    rw [(hS.2.1 v (by omega)).1]
    refine am_eq_r (q' := (66, [some (.ref 0), some (.int (nI v)), some (.int (nI w)), some (.int (nI v))], [.int (V.1 v)], wd C Y og)) rfl ?_
    refine am_steps_r ok_S_lookup 2 (q' := (bif decide ((V.1 v) = 7) then 71 else 83, [some (.ref 0), some (.int (nI v)), some (.int (nI w)), some (.int (nI v))], [], wd C Y og)) rfl ?_
    refine am_br_r (fun h_7 => ?_) (fun h_7 => ?_)
    · skip
      refine am_steps_r ok_S_lookup 3 (q' := (76, [some (.ref 0), some (.int (nI v)), some (.int (nI w)), some (.int (nI v))], [.int (nI w), .ref 3], wd C Y og)) rfl ?_
      refine am_callV_r (As := [.int (nI w)]) (rest := []) ok_S_lookup rfl rfl ok_V_kindOf oi_V_kindOf lk_5_88 (Or.inl ⟨_, _, _, rfl, rfl, rfl⟩) rfl rfl (Nat.le_of_ble_eq_true rfl) (c_V_kindOf_in _ C Y og nv u hS.1 w (by omega)) ?_
      rintro v_ w_ ⟨rfl, rfl⟩ -
      rw [(hS.2.1 w (by omega)).1]
      refine am_eq_r (q' := (79, [some (.ref 0), some (.int (nI v)), some (.int (nI w)), some (.int (nI v))], [.int (V.1 w)], wd C Y og)) rfl ?_
      refine am_steps_r ok_S_lookup 2 (q' := (bif decide ((V.1 w) = 4) then 85 else 83, [some (.ref 0), some (.int (nI v)), some (.int (nI w)), some (.int (nI v))], [], wd C Y og)) rfl ?_
      refine am_br_r (fun h_8 => ?_) (fun h_8 => ?_)
      · skip
        refine am_steps_r ok_S_lookup 6 (q' := (95, [some (.ref 0), some (.int (nI v)), some (.int (nI w)), some (.int (nI v))], [.int (nI w), .int (nI v), .ref 3, .ref 3], wd C Y og)) rfl ?_
        refine am_callV_r (As := [.int (nI v), .int (nI w)]) (rest := [.ref 3]) ok_S_lookup rfl rfl ok_V_keyLike oi_V_keyLike lk_5_115 (Or.inl ⟨_, _, _, rfl, rfl, rfl⟩) rfl rfl (Nat.le_of_ble_eq_true rfl) (c_V_keyLike _ C Y og nv u V hS v w (by omega) hw (by assumption)) ?_
        rintro v_ w_ ⟨rfl, rfl⟩ -
        have hhl := ((hS.2.1 v (by omega)).2.2.2.2.2.2.2.1 (by assumption)).2.2
        have r4 := (hS.2.1 v (by omega)).2.2.2.1
        rw [show vtFnd V v w = (prF (fun a => decide (V.2.2.2 a = V.2.2.2 w)) (V.2.2.1 v)).map (fun z => z.1) from prF_find hhl]
        rcases hpf : prF (fun a => decide (V.2.2.2 a = V.2.2.2 w)) (V.2.2.1 v) with _ | ⟨t, y⟩
        · skip
          refine am_eq_r (q' := (98, [some (.ref 0), some (.int (nI v)), some (.int (nI w)), some (.int (nI v))], [.int (-1), .ref 3], wd C Y og)) rfl ?_
          refine am_callV_r (As := [.int (-1)]) (rest := []) ok_S_lookup rfl rfl ok_V_heldBy oi_V_heldBy lk_5_118 (Or.inl ⟨_, _, _, rfl, rfl, rfl⟩) rfl rfl (Nat.le_of_ble_eq_true rfl) (c_V_heldBy_m _ C Y og nv u hS.1) ?_
          rintro v_ w_ ⟨rfl, rfl⟩ -
          refine am_eq_r (q' := (101, [some (.ref 0), some (.int (nI v)), some (.int (nI w)), some (.int (nI v))], [.int (-1)], wd C Y og)) rfl ?_
          refine am_iret_r ok_S_lookup rfl rfl rfl ?_
          first | exact ⟨by rw [lkX, hld, if_neg (fun z => absurd z.1 (by assumption))], rfl⟩ | exact ⟨by rw [lkX, hld, if_neg (fun z => absurd z.2 (by assumption))], rfl⟩ | exact ⟨by rw [lkX, hld, if_pos ⟨by assumption, by assumption⟩, hpf]; rfl, rfl⟩
        · skip
          obtain ⟨p1, p2, p3, p4, p5⟩ := prF_hld hhl hpf
          have htn := r4 t p2
          refine am_eq_r (q' := (98, [some (.ref 0), some (.int (nI v)), some (.int (nI w)), some (.int (nI v))], [.int (nI t), .ref 3], wd C Y og)) rfl ?_
          refine am_callV_r (As := [.int (nI t)]) (rest := []) ok_S_lookup rfl rfl ok_V_heldBy oi_V_heldBy lk_5_118 (Or.inl ⟨_, _, _, rfl, rfl, rfl⟩) rfl rfl (Nat.le_of_ble_eq_true rfl) (c_V_heldBy_in _ C Y og nv u hS.1 t htn) ?_
          rintro v_ w_ ⟨rfl, rfl⟩ -
          rw [p1]
          refine am_eq_r (q' := (101, [some (.ref 0), some (.int (nI v)), some (.int (nI w)), some (.int (nI v))], [.int (nI y)], wd C Y og)) rfl ?_
          refine am_iret_r ok_S_lookup rfl rfl rfl ?_
          exact ⟨by rw [lkX, hld, if_pos ⟨by assumption, by assumption⟩, hpf]; rfl, rfl⟩
      · skip
        refine am_steps_r ok_S_lookup 1 (q' := (84, [some (.ref 0), some (.int (nI v)), some (.int (nI w)), some (.int (nI v))], [.int (-1)], wd C Y og)) rfl ?_
        refine am_iret_r ok_S_lookup rfl rfl rfl ?_
        first | exact ⟨by rw [lkX, hld, if_neg (fun z => absurd z.1 (by assumption))], rfl⟩ | exact ⟨by rw [lkX, hld, if_neg (fun z => absurd z.2 (by assumption))], rfl⟩ | exact ⟨by rw [lkX, hld, if_pos ⟨by assumption, by assumption⟩, hpf]; rfl, rfl⟩
    · skip
      refine am_steps_r ok_S_lookup 1 (q' := (84, [some (.ref 0), some (.int (nI v)), some (.int (nI w)), some (.int (nI v))], [.int (-1)], wd C Y og)) rfl ?_
      refine am_iret_r ok_S_lookup rfl rfl rfl ?_
      first | exact ⟨by rw [lkX, hld, if_neg (fun z => absurd z.1 (by assumption))], rfl⟩ | exact ⟨by rw [lkX, hld, if_neg (fun z => absurd z.2 (by assumption))], rfl⟩ | exact ⟨by rw [lkX, hld, if_pos ⟨by assumption, by assumption⟩, hpf]; rfl, rfl⟩
set_option maxHeartbeats 4000000 in
set_option maxRecDepth 100000 in
theorem c_S_write_v (d : Nat) (C : wd_C) (Y : wd_Y) (og : Nat → Int64) (r : Bool) (hfm : fm = .null ∨ fm = .ref 3000) (nv u : Nat) (V : VT) (hS : vsC C nv u V) (ht : Nat → Nat) (hg : hG nv V ht) (v : Nat) (hv : v < nv) (hb : (wWh r.toNat V (0, []) v).2.length + 1000 < 2147483648) : am_Mt l D cA ad fm (d + 28) m_S_write [.ref 0, .int (nI v), .int (bz r), .int 0] (wd C Y og) (fun vr w' => vr = some (.int (if (wWh r.toNat V (0, []) v).2.length ≤ 4000 then nI (wWh r.toNat V (0, []) v).2.length else -1)) ∧ ∃ C', w' = wd C' Y og ∧ wrO C C' (wWh r.toNat V (0, []) v)) := by
  have hnv := hS.1.2.1
  refine am_mt ok_S_write (by simp [am_arg, Value.category, m_S_write, am_ml]) ?_
  refine am_eq_r (q' := (0, [some (.ref 0), some (.int (nI v)), some (.int (bz r)), some (.int 0)], [], wd C Y og)) rfl ?_
  refine am_steps_r ok_S_write 5 (q' := (9, [some (.ref 0), some (.int (nI v)), some (.int (bz r)), some (.int 0)], [.int (nI v), .ref 3], wd C Y og)) rfl ?_
  refine am_callV_r (As := [.int (nI v)]) (rest := []) ok_S_write rfl rfl ok_V_has oi_V_has lk_5_85 (Or.inl ⟨_, _, _, rfl, rfl, rfl⟩) rfl rfl (Nat.le_of_ble_eq_true rfl) (c_V_has_in _ C Y og nv u hS.1 v (by omega)) ?_
  rintro v_ w_ ⟨rfl, rfl⟩ -
  refine am_eq_r (q' := (12, [some (.ref 0), some (.int (nI v)), some (.int (bz r)), some (.int 0)], [.int 1], wd C Y og)) rfl ?_
  refine am_steps_r ok_S_write 6 (q' := (32, [some (.ref 0), some (.int (nI v)), some (.int (bz r)), some (.int 0)], [.int 0, .int (bz r), .int (nI v), .ref 17], wd C Y og)) rfl ?_
  refine am_callV_r (As := [.int (nI v), .int (bz r), .int 0]) (rest := []) ok_S_write rfl rfl ok_W_writeAnew oi_W_writeAnew lk_5_121 (Or.inl ⟨_, _, _, rfl, rfl, rfl⟩) rfl rfl (Nat.le_of_ble_eq_true rfl) (c_W_writeAnew_v _ C Y og r hfm nv u V hS ht hg v hv hb) ?_
  rintro v_ w_ ⟨rfl, C9, rfl, hq⟩ -
  refine am_eq_r (q' := (35, [some (.ref 0), some (.int (nI v)), some (.int (bz r)), some (.int 0)], [.int (if (wWh r.toNat V (0, []) v).2.length ≤ 4000 then nI (wWh r.toNat V (0, []) v).2.length else -1)], wd C9 Y og)) rfl ?_
  refine am_iret_r ok_S_write rfl rfl rfl ?_
  exact ⟨rfl, C9, rfl, hq⟩
set_option maxHeartbeats 4000000 in
set_option maxRecDepth 100000 in
theorem c_S_write_a (d : Nat) (C : wd_C) (Y : wd_Y) (og : Nat → Int64) (r : Bool) (hfm : fm = .null ∨ fm = .ref 3000) (nv u : Nat) (V : VT) (hS : vsC C nv u V) (ht : Nat → Nat) (hg : hG nv V ht) (no : Nat) (E : Nat → Nat → Int32) (hO : obC C no E) (hI : obI nv no E) (x0 : Int32) (hb : (wOs r.toNat V E no 0 (0, [])).2.length + 2000 < 2147483648) : am_Mt l D cA ad fm (d + 28) m_S_write [.ref 0, .int x0, .int (bz r), .int 1] (wd C Y og) (fun vr w' => vr = some (.int (if (wOs r.toNat V E no 0 (0, [])).2.length ≤ 4000 then nI (wOs r.toNat V E no 0 (0, [])).2.length else -1)) ∧ ∃ C', w' = wd C' Y og ∧ wrO C C' (wOs r.toNat V E no 0 (0, []))) := by
  have hnv := hS.1.2.1
  refine am_mt ok_S_write (by simp [am_arg, Value.category, m_S_write, am_ml]) ?_
  refine am_eq_r (q' := (0, [some (.ref 0), some (.int x0), some (.int (bz r)), some (.int 1)], [], wd C Y og)) rfl ?_
  refine am_steps_r ok_S_write 7 (q' := (32, [some (.ref 0), some (.int x0), some (.int (bz r)), some (.int 1)], [.int 1, .int (bz r), .int x0, .ref 17], wd C Y og)) rfl ?_
  refine am_callV_r (As := [.int x0, .int (bz r), .int 1]) (rest := []) ok_S_write rfl rfl ok_W_writeAnew oi_W_writeAnew lk_5_121 (Or.inl ⟨_, _, _, rfl, rfl, rfl⟩) rfl rfl (Nat.le_of_ble_eq_true rfl) (c_W_writeAnew_a _ C Y og r hfm nv u V hS ht hg no E hO hI x0 hb) ?_
  rintro v_ w_ ⟨rfl, C9, rfl, hq⟩ -
  refine am_eq_r (q' := (35, [some (.ref 0), some (.int x0), some (.int (bz r)), some (.int 1)], [.int (if (wOs r.toNat V E no 0 (0, [])).2.length ≤ 4000 then nI (wOs r.toNat V E no 0 (0, [])).2.length else -1)], wd C9 Y og)) rfl ?_
  refine am_iret_r ok_S_write rfl rfl rfl ?_
  exact ⟨rfl, C9, rfl, hq⟩
/-- the tape alone is another -/
def tpO (C C' : wd_C) : Prop := (∀ j, j ≠ 0 → C'.1 j = C.1 j) ∧ (∀ j, j ≠ 0 → C'.2.1 j = C.2.1 j) ∧ C'.2.2 = C.2.2
theorem tpO_rf (C : wd_C) : tpO C C := ⟨fun _ _ => rfl, fun _ _ => rfl, rfl⟩
theorem tpO_add {C C1 : wd_C} (h : tpO C C1) (x : Int32) (f : Nat → Int32) : tpO C (upd C1.1 0 x, wd_u C1.2.1 0 f, C1.2.2) := ⟨fun j hj => by show upd C1.1 0 x j = _; rw [upd, if_neg hj]; exact h.1 j hj, fun j hj => by show wd_u C1.2.1 0 f j = _; rw [wd_u, if_neg hj]; exact h.2.1 j hj, h.2.2⟩
theorem tpO_cl {C : wd_C} : tpO C (upd C.1 0 0, C.2) := ⟨fun j hj => by show upd C.1 0 0 j = _; rw [upd, if_neg hj], fun _ _ => rfl, rfl⟩
theorem tpC_add {C1 : wd_C} {n : Nat} {b b' : Nat → Int32} {x : Int32} {j : Nat} (h : tpC C1 n b) (hn : n < 1600) (hj : j < 256) (hx : x = nI j) (hb : ∀ k, k < n → b' k = b k) (hb1 : b' n = x) (hb2 : ∀ k, n + 1 ≤ k → b' k = -1) : tpC (upd C1.1 0 (nI (n + 1)), wd_u C1.2.1 0 (upd (C1.2.1 0) n (vp_nar .byte x.toInt8.toInt32)), C1.2.2) (n + 1) b' := by
  refine ⟨rfl, by omega, fun k hk => ?_, hb2⟩
  by_cases e : k = n
  · subst e
    refine ⟨j, hj, hb1.trans hx, ?_⟩
    show upd (C1.2.1 0) k (vp_nar .byte x.toInt8.toInt32) k = _
    rw [upd, if_pos rfl, hx]
    exact nar_by j hj
  · obtain ⟨i, i1, i2, i3⟩ := h.2.2.1 k (by omega)
    refine ⟨i, i1, (hb k (by omega)).trans i2, ?_⟩
    show upd (C1.2.1 0) n _ k = _
    rw [upd, if_neg e]
    exact i3
theorem tpC_any {C1 : wd_C} {n : Nat} {b b' : Nat → Int32} (h : tpC C1 n b) (hb : ∀ k, k < n → b' k = b k) (hb2 : ∀ k, n ≤ k → b' k = -1) : tpC C1 n b' := ⟨h.1, h.2.1, fun k hk => by obtain ⟨i, i1, i2, i3⟩ := h.2.2.1 k hk; exact ⟨i, i1, (hb k hk).trans i2, i3⟩, hb2⟩
def tkP (O : List Int32) (i : Nat) : Nat → Int32 := fun k => if k < i ∧ k < O.length then O.getD k 0 else -1
set_option maxHeartbeats 4000000 in
set_option maxRecDepth 100000 in
theorem lp_S_take_26 (d : Nat) (C : wd_C) (Y : wd_Y) (og : Nat → Int64) (O : List Int32) (hU : ouC C O) (ho16 : O.length ≤ 1600)  : ∀ (fu : Nat) (post : Option Value → am_W → Prop) (i : Nat) (C1 : wd_C), (i ≤ O.length) → (tpC C1 i (tkP O i)) → (tpO C C1) → (∀ C2, tpC C2 O.length (tkP O O.length) → tpO C C2 → post (some (.int (nI O.length))) (wd C2 Y og)) → O.length - i < fu → am_Rn l D cA ad fm (d + 1) m_S_take (wd C Y og).length post (26, [some (.ref 0), some (.int (nI O.length)), some (.int (nI i))], [], wd C1 Y og) := by
  intro fu
  induction fu with
  | zero => intro post i C1 hil hT1 hF hpo hfu; exact absurd hfu (Nat.not_lt_zero _)
  | succ fu ih =>
    intro post i C1 hil hT1 hF hpo hfu
    have ho4 := hU.2.1
    have hU1 : ouC C1 O := ⟨(hF.1 11 (by decide)).trans hU.1, hU.2.1, fun k hk => by rw [hF.2.1 11 (by decide)]; exact hU.2.2 k hk⟩
    refine am_steps_r ok_S_take 3 (q' := (bif decide ((nI O.length) ≤ (nI i)) then 52 else 31, [some (.ref 0), some (.int (nI O.length)), some (.int (nI i))], [], wd C1 Y og)) rfl ?_
    refine am_br_r (fun h_1 => ?_) (fun h_1 => ?_)
    · skip
      have h_1 : O.length ≤ i := (nI_leI (show O.length < 2 ^ 31 by omega) (show i < 2 ^ 31 by omega)).mp h_1
      refine am_steps_r ok_S_take 1 (q' := (53, [some (.ref 0), some (.int (nI O.length)), some (.int (nI i))], [.int (nI O.length)], wd C1 Y og)) rfl ?_
      refine am_iret_r ok_S_take rfl rfl rfl ?_
      exact hpo _ (by rw [show O.length = i by omega]; rw [show tkP O i = tkP O i from rfl]; exact hT1) hF
    · skip
      have h_1 : ¬ O.length ≤ i := fun z => h_1 ((nI_leI (show O.length < 2 ^ 31 by omega) (show i < 2 ^ 31 by omega)).mpr z)
      refine am_steps_r ok_S_take 5 (q' := (40, [some (.ref 0), some (.int (nI O.length)), some (.int (nI i))], [.int (nI i), .ref 17, .ref 1], wd C1 Y og)) rfl ?_
      refine am_callV_r (As := [.int (nI i)]) (rest := [.ref 1]) ok_S_take rfl rfl ok_W_at oi_W_at lk_5_125 (Or.inl ⟨_, _, _, rfl, rfl, rfl⟩) rfl rfl (Nat.le_of_ble_eq_true rfl) (c_W_at_k _ C1 Y og O hU1 i (by omega)) ?_
      rintro v_ w_ ⟨rfl, rfl⟩ -
      rw [if_pos (show i < O.length by omega)]
      refine am_eq_r (q' := (43, [some (.ref 0), some (.int (nI O.length)), some (.int (nI i))], [.int (O.getD i 0), .ref 1], wd C1 Y og)) rfl ?_
      obtain ⟨j9, hj9, hx9⟩ := (show ∃ j, j < 256 ∧ O.getD i 0 = nI j by obtain ⟨j, j1, j2, j3⟩ := hU.2.2 i (by omega); exact ⟨j, j1, j2⟩)
      refine am_callV_r (As := [.int (O.getD i 0)]) (rest := []) ok_S_take rfl rfl ok_T_add oi_T_add lk_5_59 (Or.inl ⟨_, _, _, rfl, rfl, rfl⟩) rfl rfl (Nat.le_of_ble_eq_true rfl) (c_T_add _ C1 Y og i hT1.1 (by omega) (O.getD i 0)) ?_
      rintro v_ w_ ⟨rfl, rfl⟩ -
      refine am_eq_r (q' := (46, [some (.ref 0), some (.int (nI O.length)), some (.int (nI i))], [], wd (upd C1.1 0 (nI (i + 1)), wd_u C1.2.1 0 (upd (C1.2.1 0) i (vp_nar .byte (O.getD i 0).toInt8.toInt32)), C1.2.2) Y og)) rfl ?_
      refine am_steps_r ok_S_take 2 (q' := (26, [some (.ref 0), some (.int (nI O.length)), some (.int ((nI i) + 1))], [], wd (upd C1.1 0 (nI (i + 1)), wd_u C1.2.1 0 (upd (C1.2.1 0) i (vp_nar .byte (O.getD i 0).toInt8.toInt32)), C1.2.2) Y og)) rfl ?_
      rw [show ((nI i) + 1 : Int32) = nI (i + 1) from nI_add i 1]
      exact ih post (i + 1) _ (by omega) (tpC_add (j := j9) hT1 (by omega) hj9 hx9 (fun k hk => by simp only [tkP]; rw [if_pos ⟨by omega, by omega⟩, if_pos ⟨by omega, by omega⟩]) (by simp only [tkP]; rw [if_pos ⟨by omega, by omega⟩]) (fun k hk => by simp only [tkP]; rw [if_neg (by omega)])) (tpO_add hF _ _) hpo (by omega)
set_option maxHeartbeats 4000000 in
set_option maxRecDepth 100000 in
theorem c_S_take (d : Nat) (C : wd_C) (Y : wd_Y) (og : Nat → Int64) (O : List Int32) (hU : ouC C O)  : am_Mt l D cA ad fm (d + 1) m_S_take [.ref 0] (wd C Y og) (fun vr w' => vr = some (.int (if O.length ≤ 1600 then nI O.length else -1)) ∧ ∃ C', w' = wd C' Y og ∧ tpO C C' ∧ (O.length ≤ 1600 → tpC C' O.length (tkP O O.length)) ∧ (¬ O.length ≤ 1600 → C' = C)) := by
  have ho4 := hU.2.1
  refine am_mt ok_S_take (by simp [am_arg, Value.category, m_S_take, am_ml]) ?_
  refine am_eq_r (q' := (0, [some (.ref 0), none, none], [], wd C Y og)) rfl ?_
  refine am_steps_r ok_S_take 2 (q' := (4, [some (.ref 0), none, none], [.ref 17], wd C Y og)) rfl ?_
  refine am_callV_r (As := []) (rest := []) ok_S_take rfl rfl ok_W_size oi_W_size lk_5_128 (Or.inl ⟨_, _, _, rfl, rfl, rfl⟩) rfl rfl (Nat.le_of_ble_eq_true rfl) (c_W_size _ C Y og O hU) ?_
  rintro v_ w_ ⟨rfl, rfl⟩ -
  refine am_eq_r (q' := (7, [some (.ref 0), none, none], [.int (nI O.length)], wd C Y og)) rfl ?_
  refine am_steps_r ok_S_take 4 (q' := (bif decide ((nI O.length) ≤ 1600) then 17 else 15, [some (.ref 0), some (.int (nI O.length)), none], [], wd C Y og)) rfl ?_
  refine am_br_r (fun h_2 => ?_) (fun h_2 => ?_)
  · skip
    have h_2 : O.length ≤ 1600 := (nI_leI (show O.length < 2 ^ 31 by omega) (show 1600 < 2 ^ 31 by omega)).mp h_2
    refine am_steps_r ok_S_take 2 (q' := (21, [some (.ref 0), some (.int (nI O.length)), none], [.ref 1], wd C Y og)) rfl ?_
    refine am_callV_r (As := []) (rest := []) ok_S_take rfl rfl ok_T_clear oi_T_clear lk_5_63 (Or.inl ⟨_, _, _, rfl, rfl, rfl⟩) rfl rfl (Nat.le_of_ble_eq_true rfl) (c_T_clear _ C Y og) ?_
    rintro v_ w_ ⟨rfl, rfl⟩ -
    refine am_eq_r (q' := (24, [some (.ref 0), some (.int (nI O.length)), none], [], wd (upd C.1 0 0, C.2) Y og)) rfl ?_
    refine am_steps_r ok_S_take 2 (q' := (26, [some (.ref 0), some (.int (nI O.length)), some (.int 0)], [], wd (upd C.1 0 0, C.2) Y og)) rfl ?_
    refine am_eq_r (q' := (26, [some (.ref 0), some (.int (nI O.length)), some (.int (nI 0))], [], wd (upd C.1 0 0, C.2) Y og)) rfl ?_
    refine lp_S_take_26 d C Y og O hU (by omega) (O.length + 1) _ 0 _ (Nat.zero_le _) ⟨rfl, by omega, fun k hk => by omega, fun k hk => by simp [tkP]⟩ tpO_cl (fun C2 h2 h3 => ⟨by rw [if_pos (by omega)], C2, rfl, h3, fun _ => h2, fun z => absurd (show O.length ≤ 1600 by omega) z⟩) (by omega)
  · skip
    have h_2 : ¬ O.length ≤ 1600 := fun z => h_2 ((nI_leI (show O.length < 2 ^ 31 by omega) (show 1600 < 2 ^ 31 by omega)).mpr z)
    refine am_steps_r ok_S_take 1 (q' := (16, [some (.ref 0), some (.int (nI O.length)), none], [.int (-1)], wd C Y og)) rfl ?_
    refine am_iret_r ok_S_take rfl rfl rfl ?_
    exact ⟨by rw [if_neg (by omega)], C, rfl, tpO_rf C, fun z => absurd z (by omega), fun _ => rfl⟩
set_option maxHeartbeats 4000000 in
set_option maxRecDepth 100000 in
theorem lp_S_feed_41 (d : Nat) (C : wd_C) (Y : wd_Y) (og : Nat → Int64) (n : Nat) (b : Nat → Int32) (hT : tpC C n b) (kk : Nat) (hk8 : kk ≤ 8) (hnk : n + kk ≤ 1600) (B : Int64)  : ∀ (fu : Nat) (post : Option Value → am_W → Prop) (i : Nat) (C1 : wd_C), (i ≤ kk) → (tpC C1 (n + i) (fdB b n i B)) → (tpO C C1) → (∀ C2, tpC C2 (n + kk) (fdB b n kk B) → tpO C C2 → post (some (.int (nI (n + kk)))) (wd C2 Y og)) → kk - i < fu → am_Rn l D cA ad fm (d + 1) m_S_feed (wd C Y og).length post (41, [some (.ref 0), some (.int (nI kk)), some (.long B), none, some (.int (nI i))], [], wd C1 Y og) := by
  intro fu
  induction fu with
  | zero => intro post i C1 hil hT1 hF hpo hfu; exact absurd hfu (Nat.not_lt_zero _)
  | succ fu ih =>
    intro post i C1 hil hT1 hF hpo hfu
    have hn16 := hT.2.1
    refine am_steps_r ok_S_feed 3 (q' := (bif decide ((nI kk) ≤ (nI i)) then 72 else 47, [some (.ref 0), some (.int (nI kk)), some (.long B), none, some (.int (nI i))], [], wd C1 Y og)) rfl ?_
    refine am_br_r (fun h_1 => ?_) (fun h_1 => ?_)
    · skip
      have h_1 : kk ≤ i := (nI_leI (show kk < 2 ^ 31 by omega) (show i < 2 ^ 31 by omega)).mp h_1
      refine am_steps_r ok_S_feed 2 (q' := (76, [some (.ref 0), some (.int (nI kk)), some (.long B), none, some (.int (nI i))], [.ref 1], wd C1 Y og)) rfl ?_
      refine am_callV_r (As := []) (rest := []) ok_S_feed rfl rfl ok_T_size oi_T_size lk_5_55 (Or.inl ⟨_, _, _, rfl, rfl, rfl⟩) rfl rfl (Nat.le_of_ble_eq_true rfl) (c_T_size _ C1 Y og (n + i) (fdB b n i B) hT1) ?_
      rintro v_ w_ ⟨rfl, rfl⟩ -
      refine am_eq_r (q' := (79, [some (.ref 0), some (.int (nI kk)), some (.long B), none, some (.int (nI i))], [.int (nI (n + i))], wd C1 Y og)) rfl ?_
      refine am_iret_r ok_S_feed rfl rfl rfl ?_
      have hki : kk = i := by omega
      rw [hki] at hpo
      exact hpo _ hT1 hF
    · skip
      have h_1 : ¬ kk ≤ i := fun z => h_1 ((nI_leI (show kk < 2 ^ 31 by omega) (show i < 2 ^ 31 by omega)).mpr z)
      refine am_steps_r ok_S_feed 10 (q' := (63, [some (.ref 0), some (.int (nI kk)), some (.long B), none, some (.int (nI i))], [.int (((B.toUInt64 >>> ((8 * (nI i)).toInt64.toUInt64 &&& Int64.toUInt64 63)).toInt64).toInt32 &&& 255), .ref 1], wd C1 Y og)) rfl ?_
      rw [show (8 * (nI i) : Int32) = nI (8 * i) from pk_mul 8 i]
      obtain ⟨j9, hj9, hx9⟩ := and255 (((B.toUInt64 >>> ((nI (8 * i)).toInt64.toUInt64 &&& Int64.toUInt64 63)).toInt64).toInt32)
      refine am_callV_r (As := [.int (((B.toUInt64 >>> ((nI (8 * i)).toInt64.toUInt64 &&& Int64.toUInt64 63)).toInt64).toInt32 &&& 255)]) (rest := []) ok_S_feed rfl rfl ok_T_add oi_T_add lk_5_59 (Or.inl ⟨_, _, _, rfl, rfl, rfl⟩) rfl rfl (Nat.le_of_ble_eq_true rfl) (c_T_add _ C1 Y og (n + i) hT1.1 (by omega) (((B.toUInt64 >>> ((nI (8 * i)).toInt64.toUInt64 &&& Int64.toUInt64 63)).toInt64).toInt32 &&& 255)) ?_
      rintro v_ w_ ⟨rfl, rfl⟩ -
      refine am_eq_r (q' := (66, [some (.ref 0), some (.int (nI kk)), some (.long B), none, some (.int (nI i))], [], wd (upd C1.1 0 (nI (n + i + 1)), wd_u C1.2.1 0 (upd (C1.2.1 0) (n + i) (vp_nar .byte (((B.toUInt64 >>> ((nI (8 * i)).toInt64.toUInt64 &&& Int64.toUInt64 63)).toInt64).toInt32 &&& 255).toInt8.toInt32)), C1.2.2) Y og)) rfl ?_
      refine am_steps_r ok_S_feed 2 (q' := (41, [some (.ref 0), some (.int (nI kk)), some (.long B), none, some (.int ((nI i) + 1))], [], wd (upd C1.1 0 (nI (n + i + 1)), wd_u C1.2.1 0 (upd (C1.2.1 0) (n + i) (vp_nar .byte (((B.toUInt64 >>> ((nI (8 * i)).toInt64.toUInt64 &&& Int64.toUInt64 63)).toInt64).toInt32 &&& 255).toInt8.toInt32)), C1.2.2) Y og)) rfl ?_
      rw [show ((nI i) + 1 : Int32) = nI (i + 1) from nI_add i 1]
      exact ih post (i + 1) _ (by omega) (by have q := tpC_add (j := j9) (b' := fdB b n (i + 1) B) hT1 (by omega) hj9 hx9 (fun k hk => by simp only [fdB]; by_cases hz : n ≤ k; rw [if_pos ⟨hz, by omega⟩, if_pos ⟨hz, by omega⟩]; rw [if_neg (by omega), if_neg (by omega)]) (by simp only [fdB]; rw [if_pos ⟨by omega, by omega⟩, show n + i - n = i by omega]; rfl) (fun k hk => by simp only [fdB]; rw [if_neg (by omega)]; exact hT.2.2.2 k (by omega)); exact q) (tpO_add hF _ _) hpo (by omega)
set_option maxHeartbeats 4000000 in
set_option maxRecDepth 100000 in
theorem c_S_feed (d : Nat) (C : wd_C) (Y : wd_Y) (og : Nat → Int64) (n : Nat) (b : Nat → Int32) (hT : tpC C n b) (kk : Nat) (hk1 : 1 ≤ kk) (hk8 : kk ≤ 8) (B : Int64) : am_Mt l D cA ad fm (d + 1) m_S_feed [.ref 0, .int (nI kk), .long B] (wd C Y og) (fun vr w' => vr = some (.int (if n + kk ≤ 1600 then nI (n + kk) else -1)) ∧ ∃ C', w' = wd C' Y og ∧ tpO C C' ∧ (n + kk ≤ 1600 → tpC C' (n + kk) (fdB b n kk B)) ∧ (¬ n + kk ≤ 1600 → C' = C)) := by
  have hn16 := hT.2.1
  refine am_mt ok_S_feed (by simp [am_arg, Value.category, m_S_feed, am_ml]) ?_
  refine am_eq_r (q' := (0, [some (.ref 0), some (.int (nI kk)), some (.long B), none, none], [], wd C Y og)) rfl ?_
  refine am_steps_r ok_S_feed 3 (q' := (bif decide ((nI kk) < 1) then 11 else 5, [some (.ref 0), some (.int (nI kk)), some (.long B), none, none], [], wd C Y og)) rfl ?_
  refine am_br_r (fun h_1 => ?_) (fun h_1 => ?_)
  · skip
    have h_1 : kk < 1 := (nI_ltI (show kk < 2 ^ 31 by omega) (show 1 < 2 ^ 31 by omega)).mp h_1
    exfalso; omega
  · skip
    have h_1 : ¬ kk < 1 := fun z => h_1 ((nI_ltI (show kk < 2 ^ 31 by omega) (show 1 < 2 ^ 31 by omega)).mpr z)
    refine am_steps_r ok_S_feed 3 (q' := (bif decide ((nI kk) ≤ 8) then 21 else 11, [some (.ref 0), some (.int (nI kk)), some (.long B), none, none], [], wd C Y og)) rfl ?_
    refine am_br_r (fun h_2 => ?_) (fun h_2 => ?_)
    · skip
      have h_2 : kk ≤ 8 := (nI_leI (show kk < 2 ^ 31 by omega) (show 8 < 2 ^ 31 by omega)).mp h_2
      refine am_steps_r ok_S_feed 2 (q' := (25, [some (.ref 0), some (.int (nI kk)), some (.long B), none, none], [.ref 1], wd C Y og)) rfl ?_
      refine am_callV_r (As := []) (rest := []) ok_S_feed rfl rfl ok_T_size oi_T_size lk_5_55 (Or.inl ⟨_, _, _, rfl, rfl, rfl⟩) rfl rfl (Nat.le_of_ble_eq_true rfl) (c_T_size _ C Y og n b hT) ?_
      rintro v_ w_ ⟨rfl, rfl⟩ -
      refine am_eq_r (q' := (28, [some (.ref 0), some (.int (nI kk)), some (.long B), none, none], [.int (nI n)], wd C Y og)) rfl ?_
      refine am_steps_r ok_S_feed 4 (q' := (bif decide (((nI n) + (nI kk)) ≤ 1600) then 38 else 36, [some (.ref 0), some (.int (nI kk)), some (.long B), none, none], [], wd C Y og)) rfl ?_
      rw [show ((nI n) + (nI kk) : Int32) = nI (n + kk) from nI_add n kk]
      refine am_br_r (fun h_4 => ?_) (fun h_4 => ?_)
      · skip
        have h_4 : (n + kk) ≤ 1600 := (nI_leI (show (n + kk) < 2 ^ 31 by omega) (show 1600 < 2 ^ 31 by omega)).mp h_4
        refine am_steps_r ok_S_feed 2 (q' := (41, [some (.ref 0), some (.int (nI kk)), some (.long B), none, some (.int 0)], [], wd C Y og)) rfl ?_
        refine am_eq_r (q' := (41, [some (.ref 0), some (.int (nI kk)), some (.long B), none, some (.int (nI 0))], [], wd C Y og)) rfl ?_
        refine lp_S_feed_41 d C Y og n b hT kk hk8 (by omega) B (kk + 1) _ 0 C (Nat.zero_le _) (by rw [show fdB b n 0 B = b from funext (fun j => by simp only [fdB]; rw [if_neg (by omega)])]; exact hT) (tpO_rf C) (fun C2 h2 h3 => ⟨by rw [if_pos (by omega)], C2, rfl, h3, fun _ => h2, fun z => absurd (show n + kk ≤ 1600 by omega) z⟩) (by omega)
      · skip
        have h_4 : ¬ (n + kk) ≤ 1600 := fun z => h_4 ((nI_leI (show (n + kk) < 2 ^ 31 by omega) (show 1600 < 2 ^ 31 by omega)).mpr z)
        refine am_steps_r ok_S_feed 1 (q' := (37, [some (.ref 0), some (.int (nI kk)), some (.long B), none, none], [.int (-1)], wd C Y og)) rfl ?_
        refine am_iret_r ok_S_feed rfl rfl rfl ?_
        exact ⟨by rw [if_neg (by omega)], C, rfl, tpO_rf C, fun z => absurd z (by omega), fun _ => rfl⟩
    · skip
      have h_2 : ¬ kk ≤ 8 := fun z => h_2 ((nI_leI (show kk < 2 ^ 31 by omega) (show 8 < 2 ^ 31 by omega)).mpr z)
      exfalso; omega
set_option maxHeartbeats 4000000 in
set_option maxRecDepth 100000 in
theorem c_R_strayBytes (d : Nat) (C : wd_C) (Y : wd_Y) (og : Nat → Int64)  : am_Mt l D cA ad fm (d + 0) m_R_strayBytes [.ref 16] (wd C Y og) (fun vr w' => vr = some (.int (C.1 8)) ∧ w' = wd C Y og) := by
  refine am_mt ok_R_strayBytes (by simp [am_arg, Value.category, m_R_strayBytes, am_ml]) ?_
  refine am_eq_r (q' := (0, [some (.ref 16)], [], wd C Y og)) rfl ?_
  refine am_steps_r ok_R_strayBytes 2 (q' := (4, [some (.ref 16)], [.int (C.1 8)], wd C Y og)) rfl ?_
  refine am_iret_r ok_R_strayBytes rfl rfl rfl ?_
  exact ⟨rfl, rfl⟩
set_option maxHeartbeats 4000000 in
set_option maxRecDepth 100000 in
theorem c_S_told_0 (d : Nat) (C : wd_C) (Y : wd_Y) (og : Nat → Int64) (n : Nat) (b : Nat → Int32) (hT : tpC C n b)  : am_Mt l D cA ad fm (d + 1) m_S_told [.ref 0, .int 0] (wd C Y og) (fun vr w' => vr = some (.int (nI n)) ∧ w' = wd C Y og) := by
  refine am_mt ok_S_told (by simp [am_arg, Value.category, m_S_told, am_ml]) ?_
  refine am_eq_r (q' := (0, [some (.ref 0), some (.int 0)], [], wd C Y og)) rfl ?_
  refine am_steps_r ok_S_told 1 (q' := (1, [some (.ref 0), some (.int 0)], [.int 0], wd C Y og)) rfl ?_
  refine am_tsw_r ok_S_told rfl (by first | rfl | decide | decide +kernel | simp) ?_
  refine am_eq_r (q' := (36, [some (.ref 0), some (.int 0)], [], wd C Y og)) rfl ?_
  refine am_steps_r ok_S_told 2 (q' := (40, [some (.ref 0), some (.int 0)], [.ref 1], wd C Y og)) rfl ?_
  refine am_callV_r (As := []) (rest := []) ok_S_told rfl rfl ok_T_size oi_T_size lk_5_55 (Or.inl ⟨_, _, _, rfl, rfl, rfl⟩) rfl rfl (Nat.le_of_ble_eq_true rfl) (c_T_size _ C Y og n b hT) ?_
  rintro v_ w_ ⟨rfl, rfl⟩ -
  refine am_eq_r (q' := (43, [some (.ref 0), some (.int 0)], [.int (nI n)], wd C Y og)) rfl ?_
  refine am_iret_r ok_S_told rfl rfl rfl ?_
  exact ⟨rfl, rfl⟩
set_option maxHeartbeats 4000000 in
set_option maxRecDepth 100000 in
theorem c_S_told_1 (d : Nat) (C : wd_C) (Y : wd_Y) (og : Nat → Int64) (O : List Int32) (hU : ouC C O)  : am_Mt l D cA ad fm (d + 1) m_S_told [.ref 0, .int 1] (wd C Y og) (fun vr w' => vr = some (.int (nI O.length)) ∧ w' = wd C Y og) := by
  refine am_mt ok_S_told (by simp [am_arg, Value.category, m_S_told, am_ml]) ?_
  refine am_eq_r (q' := (0, [some (.ref 0), some (.int 1)], [], wd C Y og)) rfl ?_
  refine am_steps_r ok_S_told 1 (q' := (1, [some (.ref 0), some (.int 1)], [.int 1], wd C Y og)) rfl ?_
  refine am_tsw_r ok_S_told rfl (by first | rfl | decide | decide +kernel | simp) ?_
  refine am_eq_r (q' := (44, [some (.ref 0), some (.int 1)], [], wd C Y og)) rfl ?_
  refine am_steps_r ok_S_told 2 (q' := (48, [some (.ref 0), some (.int 1)], [.ref 17], wd C Y og)) rfl ?_
  refine am_callV_r (As := []) (rest := []) ok_S_told rfl rfl ok_W_size oi_W_size lk_5_128 (Or.inl ⟨_, _, _, rfl, rfl, rfl⟩) rfl rfl (Nat.le_of_ble_eq_true rfl) (c_W_size _ C Y og O hU) ?_
  rintro v_ w_ ⟨rfl, rfl⟩ -
  refine am_eq_r (q' := (51, [some (.ref 0), some (.int 1)], [.int (nI O.length)], wd C Y og)) rfl ?_
  refine am_iret_r ok_S_told rfl rfl rfl ?_
  exact ⟨rfl, rfl⟩
set_option maxHeartbeats 4000000 in
set_option maxRecDepth 100000 in
theorem c_S_told_2 (d : Nat) (C : wd_C) (Y : wd_Y) (og : Nat → Int64) (no : Nat) (E : Nat → Nat → Int32) (hO : obC C no E)  : am_Mt l D cA ad fm (d + 1) m_S_told [.ref 0, .int 2] (wd C Y og) (fun vr w' => vr = some (.int (nI no)) ∧ w' = wd C Y og) := by
  refine am_mt ok_S_told (by simp [am_arg, Value.category, m_S_told, am_ml]) ?_
  refine am_eq_r (q' := (0, [some (.ref 0), some (.int 2)], [], wd C Y og)) rfl ?_
  refine am_steps_r ok_S_told 1 (q' := (1, [some (.ref 0), some (.int 2)], [.int 2], wd C Y og)) rfl ?_
  refine am_tsw_r ok_S_told rfl (by first | rfl | decide | decide +kernel | simp) ?_
  refine am_eq_r (q' := (52, [some (.ref 0), some (.int 2)], [], wd C Y og)) rfl ?_
  refine am_steps_r ok_S_told 2 (q' := (56, [some (.ref 0), some (.int 2)], [.ref 14], wd C Y og)) rfl ?_
  refine am_callV_r (As := []) (rest := []) ok_S_told rfl rfl ok_O_size oi_O_size lk_5_129 (Or.inl ⟨_, _, _, rfl, rfl, rfl⟩) rfl rfl (Nat.le_of_ble_eq_true rfl) (c_O_size _ C Y og no hO.1 hO.2.1) ?_
  rintro v_ w_ ⟨rfl, rfl⟩ -
  refine am_eq_r (q' := (59, [some (.ref 0), some (.int 2)], [.int (nI no)], wd C Y og)) rfl ?_
  refine am_iret_r ok_S_told rfl rfl rfl ?_
  exact ⟨rfl, rfl⟩
set_option maxHeartbeats 4000000 in
set_option maxRecDepth 100000 in
theorem c_S_told_3 (d : Nat) (C : wd_C) (Y : wd_Y) (og : Nat → Int64) (nv u : Nat) (V : VT) (hS : vsC C nv u V)  : am_Mt l D cA ad fm (d + 1) m_S_told [.ref 0, .int 3] (wd C Y og) (fun vr w' => vr = some (.int (nI nv)) ∧ w' = wd C Y og) := by
  refine am_mt ok_S_told (by simp [am_arg, Value.category, m_S_told, am_ml]) ?_
  refine am_eq_r (q' := (0, [some (.ref 0), some (.int 3)], [], wd C Y og)) rfl ?_
  refine am_steps_r ok_S_told 1 (q' := (1, [some (.ref 0), some (.int 3)], [.int 3], wd C Y og)) rfl ?_
  refine am_tsw_r ok_S_told rfl (by first | rfl | decide | decide +kernel | simp) ?_
  refine am_eq_r (q' := (60, [some (.ref 0), some (.int 3)], [], wd C Y og)) rfl ?_
  refine am_steps_r ok_S_told 2 (q' := (64, [some (.ref 0), some (.int 3)], [.ref 3], wd C Y og)) rfl ?_
  refine am_callV_r (As := []) (rest := []) ok_S_told rfl rfl ok_V_size oi_V_size lk_5_130 (Or.inl ⟨_, _, _, rfl, rfl, rfl⟩) rfl rfl (Nat.le_of_ble_eq_true rfl) (c_V_size _ C Y og nv u hS.1) ?_
  rintro v_ w_ ⟨rfl, rfl⟩ -
  refine am_eq_r (q' := (67, [some (.ref 0), some (.int 3)], [.int (nI nv)], wd C Y og)) rfl ?_
  refine am_iret_r ok_S_told rfl rfl rfl ?_
  exact ⟨rfl, rfl⟩
set_option maxHeartbeats 4000000 in
set_option maxRecDepth 100000 in
theorem c_S_told_4 (d : Nat) (C : wd_C) (Y : wd_Y) (og : Nat → Int64)  : am_Mt l D cA ad fm (d + 1) m_S_told [.ref 0, .int 4] (wd C Y og) (fun vr w' => vr = some (.int (C.1 8)) ∧ w' = wd C Y og) := by
  refine am_mt ok_S_told (by simp [am_arg, Value.category, m_S_told, am_ml]) ?_
  refine am_eq_r (q' := (0, [some (.ref 0), some (.int 4)], [], wd C Y og)) rfl ?_
  refine am_steps_r ok_S_told 1 (q' := (1, [some (.ref 0), some (.int 4)], [.int 4], wd C Y og)) rfl ?_
  refine am_tsw_r ok_S_told rfl (by first | rfl | decide | decide +kernel | simp) ?_
  refine am_eq_r (q' := (68, [some (.ref 0), some (.int 4)], [], wd C Y og)) rfl ?_
  refine am_steps_r ok_S_told 2 (q' := (72, [some (.ref 0), some (.int 4)], [.ref 16], wd C Y og)) rfl ?_
  refine am_callV_r (As := []) (rest := []) ok_S_told rfl rfl ok_R_strayBytes oi_R_strayBytes lk_5_131 (Or.inl ⟨_, _, _, rfl, rfl, rfl⟩) rfl rfl (Nat.le_of_ble_eq_true rfl) (c_R_strayBytes _ C Y og) ?_
  rintro v_ w_ ⟨rfl, rfl⟩ -
  refine am_eq_r (q' := (75, [some (.ref 0), some (.int 4)], [.int (C.1 8)], wd C Y og)) rfl ?_
  refine am_iret_r ok_S_told rfl rfl rfl ?_
  exact ⟨rfl, rfl⟩
end C108
