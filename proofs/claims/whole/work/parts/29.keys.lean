/-! the component's bytes of values, keys; printed by wip/gen/g29.py -/
theorem byR_and {x y : Int32} (h : byR x y) : x &&& 255 = y := by
  obtain ⟨j, h1, rfl, rfl⟩ := h
  exact (by_all j h1).1
theorem gD_out {bs : List Int32} {k : Nat} {e : Int32} (h : bs.length ≤ k) : bs.getD k e = e := by
  rw [List.getD_eq_getElem?_getD, List.getElem?_eq_none h]
  rfl
theorem gD_in {bs : List Int32} {k : Nat} {e e' : Int32} (h : k < bs.length) : bs.getD k e = bs.getD k e' := by
  rw [List.getD_eq_getElem?_getD, List.getD_eq_getElem?_getD, List.getElem?_eq_getElem h]
  rfl
theorem dr_eq {b1 b2 : List Int32} {j : Nat} (h1 : j < b1.length) (h2 : j < b2.length) : (b1.drop j = b2.drop j) ↔ (b1.getD j (-1) = b2.getD j (-1) ∧ b1.drop (j + 1) = b2.drop (j + 1)) := by
  rw [List.drop_eq_getElem_cons h1, List.drop_eq_getElem_cons h2, List.cons.injEq]
  simp [List.getD_eq_getElem?_getD, List.getElem?_eq_getElem h1, List.getElem?_eq_getElem h2]
theorem dr_end {b1 b2 : List Int32} {j : Nat} (h1 : b1.length ≤ j) (h2 : b2.length ≤ j) : b1.drop j = b2.drop j := by
  rw [List.drop_eq_nil_of_le h1, List.drop_eq_nil_of_le h2]
section C29
variable {l : Launch} {D : va_G} {cA : Nat → ClassId} {ad : Nat → Nat} {fm : Value}
set_option maxHeartbeats 4000000 in
set_option maxRecDepth 100000 in
theorem c_V_byteAt_in (d : Nat) (C : wd_C) (Y : wd_Y) (og : Nat → Int64) (nv u : Nat) (hV : vsz C nv u) (v k : Nat) (hv : v < nv) (hk : k < 1073741824) (bs : List Int32) (hb : vbt C u bs v) : am_Mt l D cA ad fm (d + 0) m_V_byteAt [.ref 3, .int (nI v), .int (nI k)] (wd C Y og) (fun vr w' => vr = some (.int (bs.getD k (-1))) ∧ w' = wd C Y og) := by
  have hv1 := hV.2.1
  have hv2 := hV.2.2.2
  obtain ⟨s, s1, s2, s3, s4⟩ := hb
  refine am_mt ok_V_byteAt (by simp [am_arg, Value.category, m_V_byteAt, am_ml]) ?_
  refine am_eq_r (q' := (0, [some (.ref 3), some (.int (nI v)), some (.int (nI k)), none], [], wd C Y og)) rfl ?_
  refine am_steps_r ok_V_byteAt 2 (q' := (bif decide ((nI v) < 0) then 26 else 4, [some (.ref 3), some (.int (nI v)), some (.int (nI k)), none], [], wd C Y og)) rfl ?_
  refine am_br_r (fun h_1 => ?_) (fun h_1 => ?_)
  · skip
    have h_1 : v < 0 := (nI_ltI (show v < 2 ^ 31 by omega) (show 0 < 2 ^ 31 by omega)).mp h_1
    refine am_steps_r ok_V_byteAt 1 (q' := (27, [some (.ref 3), some (.int (nI v)), some (.int (nI k)), none], [.int (-1)], wd C Y og)) rfl ?_
    refine am_iret_r ok_V_byteAt rfl rfl rfl ?_
    first | (exfalso; omega) | exact ⟨by rw [gD_out (by omega)], rfl⟩ | exact ⟨by rw [byR_and (s4 k (by omega)), gD_in (e' := -1) (by omega)], rfl⟩
  · skip
    have h_1 : ¬ v < 0 := fun z => h_1 ((nI_ltI (show v < 2 ^ 31 by omega) (show 0 < 2 ^ 31 by omega)).mpr z)
    refine am_steps_r ok_V_byteAt 4 (q' := (bif decide ((C.1 1) ≤ (nI v)) then 26 else 12, [some (.ref 3), some (.int (nI v)), some (.int (nI k)), none], [], wd C Y og)) rfl ?_
    rw [show (C.1 1 : Int32) = nI nv from hV.1]
    refine am_br_r (fun h_2 => ?_) (fun h_2 => ?_)
    · skip
      have h_2 : nv ≤ v := (nI_leI (show nv < 2 ^ 31 by omega) (show v < 2 ^ 31 by omega)).mp h_2
      refine am_steps_r ok_V_byteAt 1 (q' := (27, [some (.ref 3), some (.int (nI v)), some (.int (nI k)), none], [.int (-1)], wd C Y og)) rfl ?_
      refine am_iret_r ok_V_byteAt rfl rfl rfl ?_
      first | (exfalso; omega) | exact ⟨by rw [gD_out (by omega)], rfl⟩ | exact ⟨by rw [byR_and (s4 k (by omega)), gD_in (e' := -1) (by omega)], rfl⟩
    · skip
      have h_2 : ¬ nv ≤ v := fun z => h_2 ((nI_leI (show nv < 2 ^ 31 by omega) (show v < 2 ^ 31 by omega)).mpr z)
      refine am_steps_r ok_V_byteAt 2 (q' := (bif decide ((nI k) < 0) then 26 else 16, [some (.ref 3), some (.int (nI v)), some (.int (nI k)), none], [], wd C Y og)) rfl ?_
      refine am_br_r (fun h_3 => ?_) (fun h_3 => ?_)
      · skip
        have h_3 : k < 0 := (nI_ltI (show k < 2 ^ 31 by omega) (show 0 < 2 ^ 31 by omega)).mp h_3
        refine am_steps_r ok_V_byteAt 1 (q' := (27, [some (.ref 3), some (.int (nI v)), some (.int (nI k)), none], [.int (-1)], wd C Y og)) rfl ?_
        refine am_iret_r ok_V_byteAt rfl rfl rfl ?_
        first | (exfalso; omega) | exact ⟨by rw [gD_out (by omega)], rfl⟩ | exact ⟨by rw [byR_and (s4 k (by omega)), gD_in (e' := -1) (by omega)], rfl⟩
      · skip
        have h_3 : ¬ k < 0 := fun z => h_3 ((nI_ltI (show k < 2 ^ 31 by omega) (show 0 < 2 ^ 31 by omega)).mpr z)
        refine am_steps_r ok_V_byteAt 4 (q' := (22, [some (.ref 3), some (.int (nI v)), some (.int (nI k)), none], [.int (nI v), .ref 7, .int (nI k)], wd C Y og)) rfl ?_
        refine am_iald_r ok_V_byteAt rfl (w := wd C Y og) (f := C.2.1 3) rfl rfl (pk_in v 300 (by omega)) ?_
        rw [nI_clamp (show v < 2 ^ 31 by omega)]
        rw [s2]
        refine am_steps_r ok_V_byteAt 1 (q' := (bif decide ((nI k) < (nI bs.length)) then 28 else 26, [some (.ref 3), some (.int (nI v)), some (.int (nI k)), none], [], wd C Y og)) rfl ?_
        refine am_br_r (fun h_4 => ?_) (fun h_4 => ?_)
        · skip
          have h_4 : k < bs.length := (nI_ltI (show k < 2 ^ 31 by omega) (show bs.length < 2 ^ 31 by omega)).mp h_4
          refine am_steps_r ok_V_byteAt 3 (q' := (33, [some (.ref 3), some (.int (nI v)), some (.int (nI k)), none], [.int (nI v), .ref 6], wd C Y og)) rfl ?_
          refine am_iald_r ok_V_byteAt rfl (w := wd C Y og) (f := C.2.1 2) rfl rfl (pk_in v 300 (by omega)) ?_
          rw [nI_clamp (show v < 2 ^ 31 by omega)]
          rw [s1]
          refine am_steps_r ok_V_byteAt 5 (q' := (bif decide (((nI s) + (nI k)) < 0) then 49 else 41, [some (.ref 3), some (.int (nI v)), some (.int (nI k)), some (.int ((nI s) + (nI k)))], [], wd C Y og)) rfl ?_
          rw [show ((nI s) + (nI k) : Int32) = nI (s + k) from nI_add s k]
          refine am_br_r (fun h_5 => ?_) (fun h_5 => ?_)
          · skip
            have h_5 : (s + k) < 0 := (nI_ltI (show (s + k) < 2 ^ 31 by omega) (show 0 < 2 ^ 31 by omega)).mp h_5
            refine am_steps_r ok_V_byteAt 2 (q' := (63, [some (.ref 3), some (.int (nI v)), some (.int (nI k)), some (.int (nI (s + k)))], [.int (-1)], wd C Y og)) rfl ?_
            refine am_iret_r ok_V_byteAt rfl rfl rfl ?_
            first | (exfalso; omega) | exact ⟨by rw [gD_out (by omega)], rfl⟩ | exact ⟨by rw [byR_and (s4 k (by omega)), gD_in (e' := -1) (by omega)], rfl⟩
          · skip
            have h_5 : ¬ (s + k) < 0 := fun z => h_5 ((nI_ltI (show (s + k) < 2 ^ 31 by omega) (show 0 < 2 ^ 31 by omega)).mpr z)
            refine am_steps_r ok_V_byteAt 4 (q' := (bif decide ((nI (s + k)) < (C.1 2)) then 53 else 49, [some (.ref 3), some (.int (nI v)), some (.int (nI k)), some (.int (nI (s + k)))], [], wd C Y og)) rfl ?_
            rw [show (C.1 2 : Int32) = nI u from hV.2.2.1]
            refine am_br_r (fun h_6 => ?_) (fun h_6 => ?_)
            · skip
              have h_6 : (s + k) < u := (nI_ltI (show (s + k) < 2 ^ 31 by omega) (show u < 2 ^ 31 by omega)).mp h_6
              refine am_steps_r ok_V_byteAt 3 (q' := (58, [some (.ref 3), some (.int (nI v)), some (.int (nI k)), some (.int (nI (s + k)))], [.int (nI (s + k)), .ref 13], wd C Y og)) rfl ?_
              refine am_bald_r ok_V_byteAt rfl (w := wd C Y og) (f := C.2.1 9) rfl rfl (pk_in (s + k) 2000 (by omega)) ?_
              rw [nI_clamp (show (s + k) < 2 ^ 31 by omega)]
              refine am_steps_r ok_V_byteAt 2 (q' := (63, [some (.ref 3), some (.int (nI v)), some (.int (nI k)), some (.int (nI (s + k)))], [.int ((C.2.1 9 (s + k)) &&& 255)], wd C Y og)) rfl ?_
              refine am_iret_r ok_V_byteAt rfl rfl rfl ?_
              first | (exfalso; omega) | exact ⟨by rw [gD_out (by omega)], rfl⟩ | exact ⟨by rw [byR_and (s4 k (by omega)), gD_in (e' := -1) (by omega)], rfl⟩
            · skip
              have h_6 : ¬ (s + k) < u := fun z => h_6 ((nI_ltI (show (s + k) < 2 ^ 31 by omega) (show u < 2 ^ 31 by omega)).mpr z)
              refine am_steps_r ok_V_byteAt 2 (q' := (63, [some (.ref 3), some (.int (nI v)), some (.int (nI k)), some (.int (nI (s + k)))], [.int (-1)], wd C Y og)) rfl ?_
              refine am_iret_r ok_V_byteAt rfl rfl rfl ?_
              first | (exfalso; omega) | exact ⟨by rw [gD_out (by omega)], rfl⟩ | exact ⟨by rw [byR_and (s4 k (by omega)), gD_in (e' := -1) (by omega)], rfl⟩
        · skip
          have h_4 : ¬ k < bs.length := fun z => h_4 ((nI_ltI (show k < 2 ^ 31 by omega) (show bs.length < 2 ^ 31 by omega)).mpr z)
          refine am_steps_r ok_V_byteAt 1 (q' := (27, [some (.ref 3), some (.int (nI v)), some (.int (nI k)), none], [.int (-1)], wd C Y og)) rfl ?_
          refine am_iret_r ok_V_byteAt rfl rfl rfl ?_
          first | (exfalso; omega) | exact ⟨by rw [gD_out (by omega)], rfl⟩ | exact ⟨by rw [byR_and (s4 k (by omega)), gD_in (e' := -1) (by omega)], rfl⟩
set_option maxHeartbeats 4000000 in
set_option maxRecDepth 100000 in
theorem lp_V_sameBytes_17 (d : Nat) (C : wd_C) (Y : wd_Y) (og : Nat → Int64) (nv u : Nat) (hV : vsz C nv u) (v w : Nat) (hv : v < nv) (hw : w < nv) (b1 b2 : List Int32) (hb1 : vbt C u b1 v) (hb2 : vbt C u b2 w) (hl1 : b1.length < 3000) (hl2 : b2.length < 3000) (he : b1.length = b2.length) : ∀ (fu : Nat) (post : Option Value → am_W → Prop) (j : Nat), (j ≤ b1.length) →  post (some (.int (bz (decide (b1.drop j = b2.drop j))))) (wd C Y og) → b1.length - j < fu → am_Rn l D cA ad fm (d + 1) m_V_sameBytes (wd C Y og).length post (17, [some (.ref 3), some (.int (nI v)), some (.int (nI w)), some (.int (nI j))], [], wd C Y og) := by
  intro fu
  induction fu with
  | zero => intro post j hj hp hfu; exact absurd hfu (Nat.not_lt_zero _)
  | succ fu ih =>
    intro post j hj hp hfu
    have hv1 := hV.2.1
    have hv2 := hV.2.2.2
    refine am_steps_r ok_V_sameBytes 3 (q' := (20, [some (.ref 3), some (.int (nI v)), some (.int (nI w)), some (.int (nI j))], [.int (nI v), .ref 3, .int (nI j)], wd C Y og)) rfl ?_
    refine am_callV_r (As := [.int (nI v)]) (rest := [.int (nI j)]) ok_V_sameBytes rfl rfl ok_V_lengthOf oi_V_lengthOf lk_3_86 (Or.inl ⟨_, _, _, rfl, rfl, rfl⟩) rfl rfl (Nat.le_of_ble_eq_true rfl) (c_V_lengthOf_in _ C Y og nv u hV v (by omega)) ?_
    rintro v_ w_ ⟨rfl, rfl⟩ -
    rw [show C.2.1 3 v = nI b1.length from by obtain ⟨_, _, q, _⟩ := hb1; exact q]
    refine am_eq_r (q' := (23, [some (.ref 3), some (.int (nI v)), some (.int (nI w)), some (.int (nI j))], [.int (nI b1.length), .int (nI j)], wd C Y og)) rfl ?_
    refine am_steps_r ok_V_sameBytes 1 (q' := (bif decide ((nI b1.length) ≤ (nI j)) then 49 else 26, [some (.ref 3), some (.int (nI v)), some (.int (nI w)), some (.int (nI j))], [], wd C Y og)) rfl ?_
    refine am_br_r (fun h_1 => ?_) (fun h_1 => ?_)
    · skip
      have h_1 : b1.length ≤ j := (nI_leI (show b1.length < 2 ^ 31 by omega) (show j < 2 ^ 31 by omega)).mp h_1
      refine am_steps_r ok_V_sameBytes 1 (q' := (50, [some (.ref 3), some (.int (nI v)), some (.int (nI w)), some (.int (nI j))], [.int 1], wd C Y og)) rfl ?_
      refine am_zret_r ok_V_sameBytes rfl rfl rfl rfl ?_
      rw [decide_eq_true (dr_end (b1 := b1) (b2 := b2) (j := j) (by omega) (by omega))] at hp
      exact hp
    · skip
      have h_1 : ¬ b1.length ≤ j := fun z => h_1 ((nI_leI (show b1.length < 2 ^ 31 by omega) (show j < 2 ^ 31 by omega)).mpr z)
      refine am_steps_r ok_V_sameBytes 3 (q' := (29, [some (.ref 3), some (.int (nI v)), some (.int (nI w)), some (.int (nI j))], [.int (nI j), .int (nI v), .ref 3], wd C Y og)) rfl ?_
      refine am_callV_r (As := [.int (nI v), .int (nI j)]) (rest := []) ok_V_sameBytes rfl rfl ok_V_byteAt oi_V_byteAt lk_3_89 (Or.inl ⟨_, _, _, rfl, rfl, rfl⟩) rfl rfl (Nat.le_of_ble_eq_true rfl) (c_V_byteAt_in _ C Y og nv u hV v j (by omega) (by omega) b1 hb1) ?_
      rintro v_ w_ ⟨rfl, rfl⟩ -
      refine am_eq_r (q' := (32, [some (.ref 3), some (.int (nI v)), some (.int (nI w)), some (.int (nI j))], [.int (b1.getD j (-1))], wd C Y og)) rfl ?_
      refine am_steps_r ok_V_sameBytes 3 (q' := (35, [some (.ref 3), some (.int (nI v)), some (.int (nI w)), some (.int (nI j))], [.int (nI j), .int (nI w), .ref 3, .int (b1.getD j (-1))], wd C Y og)) rfl ?_
      refine am_callV_r (As := [.int (nI w), .int (nI j)]) (rest := [.int (b1.getD j (-1))]) ok_V_sameBytes rfl rfl ok_V_byteAt oi_V_byteAt lk_3_89 (Or.inl ⟨_, _, _, rfl, rfl, rfl⟩) rfl rfl (Nat.le_of_ble_eq_true rfl) (c_V_byteAt_in _ C Y og nv u hV w j (by omega) (by omega) b2 hb2) ?_
      rintro v_ w_ ⟨rfl, rfl⟩ -
      refine am_eq_r (q' := (38, [some (.ref 3), some (.int (nI v)), some (.int (nI w)), some (.int (nI j))], [.int (b2.getD j (-1)), .int (b1.getD j (-1))], wd C Y og)) rfl ?_
      refine am_steps_r ok_V_sameBytes 1 (q' := (bif decide ((b1.getD j (-1)) = (b2.getD j (-1))) then 43 else 41, [some (.ref 3), some (.int (nI v)), some (.int (nI w)), some (.int (nI j))], [], wd C Y og)) rfl ?_
      refine am_br_r (fun h_4 => ?_) (fun h_4 => ?_)
      · skip
        refine am_steps_r ok_V_sameBytes 2 (q' := (17, [some (.ref 3), some (.int (nI v)), some (.int (nI w)), some (.int ((nI j) + 1))], [], wd C Y og)) rfl ?_
        rw [show ((nI j) + 1 : Int32) = nI (j + 1) from nI_add j 1]
        refine ih post (j + 1) (by omega) ?_ (by omega)
        rw [show decide (b1.drop j = b2.drop j) = decide (b1.drop (j + 1) = b2.drop (j + 1)) from decide_eq_decide.mpr ((dr_eq (by omega) (by omega)).trans ⟨fun z => z.2, fun z => ⟨h_4, z⟩⟩)] at hp
        exact hp
      · skip
        refine am_steps_r ok_V_sameBytes 1 (q' := (42, [some (.ref 3), some (.int (nI v)), some (.int (nI w)), some (.int (nI j))], [.int 0], wd C Y og)) rfl ?_
        refine am_zret_r ok_V_sameBytes rfl rfl rfl rfl ?_
        rw [decide_eq_false (fun z => h_4 ((dr_eq (by omega) (by omega)).mp z).1)] at hp
        exact hp
set_option maxHeartbeats 4000000 in
set_option maxRecDepth 100000 in
theorem c_V_sameBytes (d : Nat) (C : wd_C) (Y : wd_Y) (og : Nat → Int64) (nv u : Nat) (hV : vsz C nv u) (v w : Nat) (hv : v < nv) (hw : w < nv) (b1 b2 : List Int32) (hb1 : vbt C u b1 v) (hb2 : vbt C u b2 w) (hl1 : b1.length < 3000) (hl2 : b2.length < 3000)  : am_Mt l D cA ad fm (d + 1) m_V_sameBytes [.ref 3, .int (nI v), .int (nI w)] (wd C Y og) (fun vr w' => vr = some (.int (bz (decide (b1 = b2)))) ∧ w' = wd C Y og) := by
  have hv1 := hV.2.1
  have hv2 := hV.2.2.2
  refine am_mt ok_V_sameBytes (by simp [am_arg, Value.category, m_V_sameBytes, am_ml]) ?_
  refine am_eq_r (q' := (0, [some (.ref 3), some (.int (nI v)), some (.int (nI w)), none], [], wd C Y og)) rfl ?_
  refine am_steps_r ok_V_sameBytes 2 (q' := (2, [some (.ref 3), some (.int (nI v)), some (.int (nI w)), none], [.int (nI v), .ref 3], wd C Y og)) rfl ?_
  refine am_callV_r (As := [.int (nI v)]) (rest := []) ok_V_sameBytes rfl rfl ok_V_lengthOf oi_V_lengthOf lk_3_86 (Or.inl ⟨_, _, _, rfl, rfl, rfl⟩) rfl rfl (Nat.le_of_ble_eq_true rfl) (c_V_lengthOf_in _ C Y og nv u hV v (by omega)) ?_
  rintro v_ w_ ⟨rfl, rfl⟩ -
  rw [show C.2.1 3 v = nI b1.length from by obtain ⟨_, _, q, _⟩ := hb1; exact q]
  refine am_eq_r (q' := (5, [some (.ref 3), some (.int (nI v)), some (.int (nI w)), none], [.int (nI b1.length)], wd C Y og)) rfl ?_
  refine am_steps_r ok_V_sameBytes 2 (q' := (7, [some (.ref 3), some (.int (nI v)), some (.int (nI w)), none], [.int (nI w), .ref 3, .int (nI b1.length)], wd C Y og)) rfl ?_
  refine am_callV_r (As := [.int (nI w)]) (rest := [.int (nI b1.length)]) ok_V_sameBytes rfl rfl ok_V_lengthOf oi_V_lengthOf lk_3_86 (Or.inl ⟨_, _, _, rfl, rfl, rfl⟩) rfl rfl (Nat.le_of_ble_eq_true rfl) (c_V_lengthOf_in _ C Y og nv u hV w (by omega)) ?_
  rintro v_ w_ ⟨rfl, rfl⟩ -
  rw [show C.2.1 3 w = nI b2.length from by obtain ⟨_, _, q, _⟩ := hb2; exact q]
  refine am_eq_r (q' := (10, [some (.ref 3), some (.int (nI v)), some (.int (nI w)), none], [.int (nI b2.length), .int (nI b1.length)], wd C Y og)) rfl ?_
  refine am_steps_r ok_V_sameBytes 1 (q' := (bif decide ((nI b1.length) = (nI b2.length)) then 15 else 13, [some (.ref 3), some (.int (nI v)), some (.int (nI w)), none], [], wd C Y og)) rfl ?_
  refine am_br_r (fun h_1 => ?_) (fun h_1 => ?_)
  · skip
    have h_1 : b1.length = b2.length := (nI_eq (show b1.length < 2 ^ 31 by omega) (show b2.length < 2 ^ 31 by omega)).mp h_1
    refine am_steps_r ok_V_sameBytes 2 (q' := (17, [some (.ref 3), some (.int (nI v)), some (.int (nI w)), some (.int 0)], [], wd C Y og)) rfl ?_
    exact lp_V_sameBytes_17 d C Y og nv u hV v w hv hw b1 b2 hb1 hb2 hl1 hl2 h_1 (b1.length + 1) _ 0 (Nat.zero_le _) ⟨rfl, rfl⟩ (by omega)
  · skip
    have h_1 : ¬ b1.length = b2.length := fun z => h_1 ((nI_eq (show b1.length < 2 ^ 31 by omega) (show b2.length < 2 ^ 31 by omega)).mpr z)
    refine am_steps_r ok_V_sameBytes 1 (q' := (14, [some (.ref 3), some (.int (nI v)), some (.int (nI w)), none], [.int 0], wd C Y og)) rfl ?_
    refine am_zret_r ok_V_sameBytes rfl rfl rfl rfl ?_
    exact ⟨by rw [decide_eq_false (fun z => h_1 (by rw [z]))]; rfl, rfl⟩
set_option maxHeartbeats 4000000 in
set_option maxRecDepth 100000 in
theorem lp_V_isSpelled_16 (d : Nat) (C : wd_C) (Y : wd_Y) (og : Nat → Int64) (nv u : Nat) (hV : vsz C nv u) (v : Nat) (hv : v < nv) (b1 : List Int32) (hb1 : vbt C u b1 v) (hl1 : b1.length < 3000) (i co ix : Nat) (tx : String) (b2 : List Int32) (hi : pr_st[i]? = some (co, ix, tx, b2)) (hl : b2.length < 1000) (hfm : fm = .null ∨ fm = .ref 3000) (he : b1.length = b2.length) : ∀ (fu : Nat) (post : Option Value → am_W → Prop) (j : Nat), (j ≤ b1.length) →  post (some (.int (bz (decide (b1.drop j = b2.drop j))))) (wd C Y og) → b1.length - j < fu → am_Rn l D cA ad fm (d + 4) m_V_isSpelled (wd C Y og).length post (16, [some (.ref 3), some (.int (nI v)), some (.ref (1000 + i)), some (.int (nI j))], [], wd C Y og) := by
  intro fu
  induction fu with
  | zero => intro post j hj hp hfu; exact absurd hfu (Nat.not_lt_zero _)
  | succ fu ih =>
    intro post j hj hp hfu
    have hv1 := hV.2.1
    have hv2 := hV.2.2.2
    refine am_steps_r ok_V_isSpelled 2 (q' := (18, [some (.ref 3), some (.int (nI v)), some (.ref (1000 + i)), some (.int (nI j))], [.ref (1000 + i), .int (nI j)], wd C Y og)) rfl ?_
    refine am_callV_r (As := []) (rest := [.int (nI j)]) ok_V_isSpelled rfl rfl ok_J_length oi_J_length lk_3_92 (Or.inr ⟨rfl, i, _, rfl, hi⟩) rfl rfl (Nat.le_of_ble_eq_true rfl) (c_J_length _ C Y og i co ix tx b2 hi hl) ?_
    rintro v_ w_ ⟨rfl, rfl⟩ -
    refine am_eq_r (q' := (21, [some (.ref 3), some (.int (nI v)), some (.ref (1000 + i)), some (.int (nI j))], [.int (nI b2.length), .int (nI j)], wd C Y og)) rfl ?_
    refine am_steps_r ok_V_isSpelled 1 (q' := (bif decide ((nI b2.length) ≤ (nI j)) then 46 else 24, [some (.ref 3), some (.int (nI v)), some (.ref (1000 + i)), some (.int (nI j))], [], wd C Y og)) rfl ?_
    refine am_br_r (fun h_2 => ?_) (fun h_2 => ?_)
    · skip
      have h_2 : b2.length ≤ j := (nI_leI (show b2.length < 2 ^ 31 by omega) (show j < 2 ^ 31 by omega)).mp h_2
      refine am_steps_r ok_V_isSpelled 1 (q' := (47, [some (.ref 3), some (.int (nI v)), some (.ref (1000 + i)), some (.int (nI j))], [.int 1], wd C Y og)) rfl ?_
      refine am_zret_r ok_V_isSpelled rfl rfl rfl rfl ?_
      rw [decide_eq_true (dr_end (b1 := b1) (b2 := b2) (j := j) (by omega) (by omega))] at hp
      exact hp
    · skip
      have h_2 : ¬ b2.length ≤ j := fun z => h_2 ((nI_leI (show b2.length < 2 ^ 31 by omega) (show j < 2 ^ 31 by omega)).mpr z)
      refine am_steps_r ok_V_isSpelled 3 (q' := (27, [some (.ref 3), some (.int (nI v)), some (.ref (1000 + i)), some (.int (nI j))], [.int (nI j), .int (nI v), .ref 3], wd C Y og)) rfl ?_
      refine am_callV_r (As := [.int (nI v), .int (nI j)]) (rest := []) ok_V_isSpelled rfl rfl ok_V_byteAt oi_V_byteAt lk_3_89 (Or.inl ⟨_, _, _, rfl, rfl, rfl⟩) rfl rfl (Nat.le_of_ble_eq_true rfl) (c_V_byteAt_in _ C Y og nv u hV v j (by omega) (by omega) b1 hb1) ?_
      rintro v_ w_ ⟨rfl, rfl⟩ -
      refine am_eq_r (q' := (30, [some (.ref 3), some (.int (nI v)), some (.ref (1000 + i)), some (.int (nI j))], [.int (b1.getD j (-1))], wd C Y og)) rfl ?_
      refine am_steps_r ok_V_isSpelled 2 (q' := (32, [some (.ref 3), some (.int (nI v)), some (.ref (1000 + i)), some (.int (nI j))], [.int (nI j), .ref (1000 + i), .int (b1.getD j (-1))], wd C Y og)) rfl ?_
      refine am_callV_r (As := [.int (nI j)]) (rest := [.int (b1.getD j (-1))]) ok_V_isSpelled rfl rfl ok_J_charAt oi_J_charAt lk_3_98 (Or.inr ⟨rfl, i, _, rfl, hi⟩) rfl rfl (Nat.le_of_ble_eq_true rfl) (c_J_charAt _ C Y og i co ix tx b2 hi hl j (by omega) hfm) ?_
      rintro v_ w_ ⟨rfl, rfl⟩ -
      refine am_eq_r (q' := (35, [some (.ref 3), some (.int (nI v)), some (.ref (1000 + i)), some (.int (nI j))], [.int (b2.getD j 0), .int (b1.getD j (-1))], wd C Y og)) rfl ?_
      refine am_steps_r ok_V_isSpelled 1 (q' := (bif decide ((b1.getD j (-1)) = (b2.getD j 0)) then 40 else 38, [some (.ref 3), some (.int (nI v)), some (.ref (1000 + i)), some (.int (nI j))], [], wd C Y og)) rfl ?_
      refine am_br_r (fun h_5 => ?_) (fun h_5 => ?_)
      · skip
        refine am_steps_r ok_V_isSpelled 2 (q' := (16, [some (.ref 3), some (.int (nI v)), some (.ref (1000 + i)), some (.int ((nI j) + 1))], [], wd C Y og)) rfl ?_
        rw [show ((nI j) + 1 : Int32) = nI (j + 1) from nI_add j 1]
        refine ih post (j + 1) (by omega) ?_ (by omega)
        rw [show decide (b1.drop j = b2.drop j) = decide (b1.drop (j + 1) = b2.drop (j + 1)) from decide_eq_decide.mpr ((dr_eq (by omega) (by omega)).trans ⟨fun z => z.2, fun z => ⟨by rw [gD_in (bs := b2) (e := -1) (e' := 0) (by omega)]; exact h_5, z⟩⟩)] at hp
        exact hp
      · skip
        refine am_steps_r ok_V_isSpelled 1 (q' := (39, [some (.ref 3), some (.int (nI v)), some (.ref (1000 + i)), some (.int (nI j))], [.int 0], wd C Y og)) rfl ?_
        refine am_zret_r ok_V_isSpelled rfl rfl rfl rfl ?_
        rw [decide_eq_false (fun z => h_5 (by rw [gD_in (bs := b2) (e := 0) (e' := -1) (by omega)]; exact ((dr_eq (by omega) (by omega)).mp z).1))] at hp
        exact hp
set_option maxHeartbeats 4000000 in
set_option maxRecDepth 100000 in
theorem c_V_isSpelled (d : Nat) (C : wd_C) (Y : wd_Y) (og : Nat → Int64) (nv u : Nat) (hV : vsz C nv u) (v : Nat) (hv : v < nv) (b1 : List Int32) (hb1 : vbt C u b1 v) (hl1 : b1.length < 3000) (i co ix : Nat) (tx : String) (b2 : List Int32) (hi : pr_st[i]? = some (co, ix, tx, b2)) (hl : b2.length < 1000) (hfm : fm = .null ∨ fm = .ref 3000)  : am_Mt l D cA ad fm (d + 4) m_V_isSpelled [.ref 3, .int (nI v), .ref (1000 + i)] (wd C Y og) (fun vr w' => vr = some (.int (bz (decide (b1 = b2)))) ∧ w' = wd C Y og) := by
  have hv1 := hV.2.1
  have hv2 := hV.2.2.2
  refine am_mt ok_V_isSpelled (by simp [am_arg, Value.category, m_V_isSpelled, am_ml]) ?_
  refine am_eq_r (q' := (0, [some (.ref 3), some (.int (nI v)), some (.ref (1000 + i)), none], [], wd C Y og)) rfl ?_
  refine am_steps_r ok_V_isSpelled 2 (q' := (2, [some (.ref 3), some (.int (nI v)), some (.ref (1000 + i)), none], [.int (nI v), .ref 3], wd C Y og)) rfl ?_
  refine am_callV_r (As := [.int (nI v)]) (rest := []) ok_V_isSpelled rfl rfl ok_V_lengthOf oi_V_lengthOf lk_3_86 (Or.inl ⟨_, _, _, rfl, rfl, rfl⟩) rfl rfl (Nat.le_of_ble_eq_true rfl) (c_V_lengthOf_in _ C Y og nv u hV v (by omega)) ?_
  rintro v_ w_ ⟨rfl, rfl⟩ -
  rw [show C.2.1 3 v = nI b1.length from by obtain ⟨_, _, q, _⟩ := hb1; exact q]
  refine am_eq_r (q' := (5, [some (.ref 3), some (.int (nI v)), some (.ref (1000 + i)), none], [.int (nI b1.length)], wd C Y og)) rfl ?_
  refine am_steps_r ok_V_isSpelled 1 (q' := (6, [some (.ref 3), some (.int (nI v)), some (.ref (1000 + i)), none], [.ref (1000 + i), .int (nI b1.length)], wd C Y og)) rfl ?_
  refine am_callV_r (As := []) (rest := [.int (nI b1.length)]) ok_V_isSpelled rfl rfl ok_J_length oi_J_length lk_3_92 (Or.inr ⟨rfl, i, _, rfl, hi⟩) rfl rfl (Nat.le_of_ble_eq_true rfl) (c_J_length _ C Y og i co ix tx b2 hi hl) ?_
  rintro v_ w_ ⟨rfl, rfl⟩ -
  refine am_eq_r (q' := (9, [some (.ref 3), some (.int (nI v)), some (.ref (1000 + i)), none], [.int (nI b2.length), .int (nI b1.length)], wd C Y og)) rfl ?_
  refine am_steps_r ok_V_isSpelled 1 (q' := (bif decide ((nI b1.length) = (nI b2.length)) then 14 else 12, [some (.ref 3), some (.int (nI v)), some (.ref (1000 + i)), none], [], wd C Y og)) rfl ?_
  refine am_br_r (fun h_2 => ?_) (fun h_2 => ?_)
  · skip
    have h_2 : b1.length = b2.length := (nI_eq (show b1.length < 2 ^ 31 by omega) (show b2.length < 2 ^ 31 by omega)).mp h_2
    refine am_steps_r ok_V_isSpelled 2 (q' := (16, [some (.ref 3), some (.int (nI v)), some (.ref (1000 + i)), some (.int 0)], [], wd C Y og)) rfl ?_
    exact lp_V_isSpelled_16 d C Y og nv u hV v hv b1 hb1 hl1 i co ix tx b2 hi hl hfm h_2 (b1.length + 1) _ 0 (Nat.zero_le _) ⟨rfl, rfl⟩ (by omega)
  · skip
    have h_2 : ¬ b1.length = b2.length := fun z => h_2 ((nI_eq (show b1.length < 2 ^ 31 by omega) (show b2.length < 2 ^ 31 by omega)).mpr z)
    refine am_steps_r ok_V_isSpelled 1 (q' := (13, [some (.ref 3), some (.int (nI v)), some (.ref (1000 + i)), none], [.int 0], wd C Y og)) rfl ?_
    refine am_zret_r ok_V_isSpelled rfl rfl rfl rfl ?_
    exact ⟨by rw [decide_eq_false (fun z => h_2 (by rw [z]))]; rfl, rfl⟩
set_option maxHeartbeats 4000000 in
set_option maxRecDepth 100000 in
theorem lp_V_keyLike_9 (d : Nat) (C : wd_C) (Y : wd_Y) (og : Nat → Int64) (nv u : Nat) (hV : vsz C nv u) (bt : Nat → List Int32) (dc nm : Nat) (hnm : nm < nv) (bn : List Int32) (hbn : vbt C u bn nm) (hln : bn.length < 3000) : ∀ (rest : List Nat) (post : Option Value → am_W → Prop) (i0 : Nat) (x : Int32), (∀ a ∈ rest, a < nv ∧ vbt C u (bt a) a ∧ (bt a).length < 3000) → rest.length + i0 ≤ 300 → lkd (C.2.1 7) x rest → post (some (.int (oN (rest.find? (fun a => decide (bt a = bn)))))) (wd C Y og) → am_Rn l D cA ad fm (d + 2) m_V_keyLike (wd C Y og).length post (9, [some (.ref 3), some (.int (nI dc)), some (.int (nI nm)), some (.int x), some (.int (nI i0))], [], wd C Y og) := by
  have hv1 := hV.2.1
  have hv2 := hV.2.2.2
  intro rest
  induction rest with
  | nil =>
    intro post i0 x hr hlen hx hp
    have hx1 : x = -1 := hx
    subst hx1
    refine am_steps_r ok_V_keyLike 3 (q' := (bif decide (300 ≤ (nI i0)) then 48 else 17, [some (.ref 3), some (.int (nI dc)), some (.int (nI nm)), some (.int (-1)), some (.int (nI i0))], [], wd C Y og)) rfl ?_
    refine am_br_r (fun h_1 => ?_) (fun h_1 => ?_)
    · skip
      have h_1 : 300 ≤ i0 := (nI_leI (show 300 < 2 ^ 31 by omega) (show i0 < 2 ^ 31 by omega)).mp h_1
      refine am_steps_r ok_V_keyLike 1 (q' := (49, [some (.ref 3), some (.int (nI dc)), some (.int (nI nm)), some (.int (-1)), some (.int (nI i0))], [.int (-1)], wd C Y og)) rfl ?_
      refine am_iret_r ok_V_keyLike rfl rfl rfl ?_
      exact hp
    · skip
      have h_1 : ¬ 300 ≤ i0 := fun z => h_1 ((nI_leI (show 300 < 2 ^ 31 by omega) (show i0 < 2 ^ 31 by omega)).mpr z)
      refine am_steps_r ok_V_keyLike 2 (q' := (19, [some (.ref 3), some (.int (nI dc)), some (.int (nI nm)), some (.int (-1)), some (.int (nI i0))], [.int (-1), .ref 3], wd C Y og)) rfl ?_
      refine am_callV_r (As := [.int (-1)]) (rest := []) ok_V_keyLike rfl rfl ok_V_has oi_V_has lk_3_60 (Or.inl ⟨_, _, _, rfl, rfl, rfl⟩) rfl rfl (Nat.le_of_ble_eq_true rfl) (c_V_has_m _ C Y og nv u hV) ?_
      rintro v_ w_ ⟨rfl, rfl⟩ -
      refine am_eq_r (q' := (22, [some (.ref 3), some (.int (nI dc)), some (.int (nI nm)), some (.int (-1)), some (.int (nI i0))], [.int 0], wd C Y og)) rfl ?_
      refine am_steps_r ok_V_keyLike 2 (q' := (49, [some (.ref 3), some (.int (nI dc)), some (.int (nI nm)), some (.int (-1)), some (.int (nI i0))], [.int (-1)], wd C Y og)) rfl ?_
      refine am_iret_r ok_V_keyLike rfl rfl rfl ?_
      exact hp
  | cons a r ih =>
    intro post i0 x hr hlen hx hp
    obtain ⟨rfl, hx2⟩ := hx
    obtain ⟨ha1, ha2, ha3⟩ := hr a List.mem_cons_self
    have hlen2 : r.length + (i0 + 1) ≤ 300 := by simp at hlen; omega
    refine am_steps_r ok_V_keyLike 3 (q' := (bif decide (300 ≤ (nI i0)) then 48 else 17, [some (.ref 3), some (.int (nI dc)), some (.int (nI nm)), some (.int (nI a)), some (.int (nI i0))], [], wd C Y og)) rfl ?_
    refine am_br_r (fun h_3 => ?_) (fun h_3 => ?_)
    · skip
      have h_3 : 300 ≤ i0 := (nI_leI (show 300 < 2 ^ 31 by omega) (show i0 < 2 ^ 31 by omega)).mp h_3
      refine am_steps_r ok_V_keyLike 1 (q' := (49, [some (.ref 3), some (.int (nI dc)), some (.int (nI nm)), some (.int (nI a)), some (.int (nI i0))], [.int (-1)], wd C Y og)) rfl ?_
      refine am_iret_r ok_V_keyLike rfl rfl rfl ?_
      first | (exfalso; simp at hlen; omega) | (rw [List.find?_cons_of_pos (by simpa using h_3)] at hp; exact hp)
    · skip
      have h_3 : ¬ 300 ≤ i0 := fun z => h_3 ((nI_leI (show 300 < 2 ^ 31 by omega) (show i0 < 2 ^ 31 by omega)).mpr z)
      refine am_steps_r ok_V_keyLike 2 (q' := (19, [some (.ref 3), some (.int (nI dc)), some (.int (nI nm)), some (.int (nI a)), some (.int (nI i0))], [.int (nI a), .ref 3], wd C Y og)) rfl ?_
      refine am_callV_r (As := [.int (nI a)]) (rest := []) ok_V_keyLike rfl rfl ok_V_has oi_V_has lk_3_60 (Or.inl ⟨_, _, _, rfl, rfl, rfl⟩) rfl rfl (Nat.le_of_ble_eq_true rfl) (c_V_has_in _ C Y og nv u hV a (by omega)) ?_
      rintro v_ w_ ⟨rfl, rfl⟩ -
      refine am_eq_r (q' := (22, [some (.ref 3), some (.int (nI dc)), some (.int (nI nm)), some (.int (nI a)), some (.int (nI i0))], [.int 1], wd C Y og)) rfl ?_
      refine am_steps_r ok_V_keyLike 4 (q' := (28, [some (.ref 3), some (.int (nI dc)), some (.int (nI nm)), some (.int (nI a)), some (.int (nI i0))], [.int (nI nm), .int (nI a), .ref 3], wd C Y og)) rfl ?_
      refine am_callV_r (As := [.int (nI a), .int (nI nm)]) (rest := []) ok_V_keyLike rfl rfl ok_V_sameBytes oi_V_sameBytes lk_3_78 (Or.inl ⟨_, _, _, rfl, rfl, rfl⟩) rfl rfl (Nat.le_of_ble_eq_true rfl) (c_V_sameBytes _ C Y og nv u hV a nm (by omega) (by omega) (bt a) bn ha2 hbn ha3 hln) ?_
      rintro v_ w_ ⟨rfl, rfl⟩ -
      refine am_eq_r (q' := (31, [some (.ref 3), some (.int (nI dc)), some (.int (nI nm)), some (.int (nI a)), some (.int (nI i0))], [.int (bz (decide (bt a = bn)))], wd C Y og)) rfl ?_
      refine am_steps_r ok_V_keyLike 1 (q' := (bif decide ((bz (decide (bt a = bn))) = 0) then 36 else 34, [some (.ref 3), some (.int (nI dc)), some (.int (nI nm)), some (.int (nI a)), some (.int (nI i0))], [], wd C Y og)) rfl ?_
      refine am_bz_r (fun h_6 => ?_) (fun h_6 => ?_)
      · skip
        refine am_steps_r ok_V_keyLike 1 (q' := (35, [some (.ref 3), some (.int (nI dc)), some (.int (nI nm)), some (.int (nI a)), some (.int (nI i0))], [.int (nI a)], wd C Y og)) rfl ?_
        refine am_iret_r ok_V_keyLike rfl rfl rfl ?_
        first | (exfalso; simp at hlen; omega) | (rw [List.find?_cons_of_pos (by simpa using h_6)] at hp; exact hp)
      · skip
        refine am_steps_r ok_V_keyLike 2 (q' := (38, [some (.ref 3), some (.int (nI dc)), some (.int (nI nm)), some (.int (nI a)), some (.int (nI i0))], [.int (nI a), .ref 3], wd C Y og)) rfl ?_
        refine am_callV_r (As := [.int (nI a)]) (rest := []) ok_V_keyLike rfl rfl ok_V_nextOf oi_V_nextOf lk_3_68 (Or.inl ⟨_, _, _, rfl, rfl, rfl⟩) rfl rfl (Nat.le_of_ble_eq_true rfl) (c_V_nextOf_in _ C Y og nv u hV a (by omega)) ?_
        rintro v_ w_ ⟨rfl, rfl⟩ -
        refine am_eq_r (q' := (41, [some (.ref 3), some (.int (nI dc)), some (.int (nI nm)), some (.int (nI a)), some (.int (nI i0))], [.int (C.2.1 7 a)], wd C Y og)) rfl ?_
        refine am_steps_r ok_V_keyLike 3 (q' := (9, [some (.ref 3), some (.int (nI dc)), some (.int (nI nm)), some (.int (C.2.1 7 a)), some (.int ((nI i0) + 1))], [], wd C Y og)) rfl ?_
        rw [show ((nI i0) + 1 : Int32) = nI (i0 + 1) from nI_add i0 1]
        refine ih post (i0 + 1) _ (fun z hz => hr z (List.mem_cons_of_mem _ hz)) hlen2 hx2 ?_
        rw [List.find?_cons_of_neg (by simpa using h_6)] at hp
        exact hp
set_option maxHeartbeats 4000000 in
set_option maxRecDepth 100000 in
theorem lp_V_keySpelled_9 (d : Nat) (C : wd_C) (Y : wd_Y) (og : Nat → Int64) (nv u : Nat) (hV : vsz C nv u) (bt : Nat → List Int32) (dc : Nat) (i co ix : Nat) (tx : String) (b2 : List Int32) (hi : pr_st[i]? = some (co, ix, tx, b2)) (hl : b2.length < 1000) (hfm : fm = .null ∨ fm = .ref 3000)  : ∀ (rest : List Nat) (post : Option Value → am_W → Prop) (i0 : Nat) (x : Int32), (∀ a ∈ rest, a < nv ∧ vbt C u (bt a) a ∧ (bt a).length < 3000) → rest.length + i0 ≤ 300 → lkd (C.2.1 7) x rest → post (some (.int (oN (rest.find? (fun a => decide (bt a = b2)))))) (wd C Y og) → am_Rn l D cA ad fm (d + 5) m_V_keySpelled (wd C Y og).length post (9, [some (.ref 3), some (.int (nI dc)), some (.ref (1000 + i)), some (.int x), some (.int (nI i0))], [], wd C Y og) := by
  have hv1 := hV.2.1
  have hv2 := hV.2.2.2
  intro rest
  induction rest with
  | nil =>
    intro post i0 x hr hlen hx hp
    have hx1 : x = -1 := hx
    subst hx1
    refine am_steps_r ok_V_keySpelled 3 (q' := (bif decide (300 ≤ (nI i0)) then 48 else 17, [some (.ref 3), some (.int (nI dc)), some (.ref (1000 + i)), some (.int (-1)), some (.int (nI i0))], [], wd C Y og)) rfl ?_
    refine am_br_r (fun h_1 => ?_) (fun h_1 => ?_)
    · skip
      have h_1 : 300 ≤ i0 := (nI_leI (show 300 < 2 ^ 31 by omega) (show i0 < 2 ^ 31 by omega)).mp h_1
      refine am_steps_r ok_V_keySpelled 1 (q' := (49, [some (.ref 3), some (.int (nI dc)), some (.ref (1000 + i)), some (.int (-1)), some (.int (nI i0))], [.int (-1)], wd C Y og)) rfl ?_
      refine am_iret_r ok_V_keySpelled rfl rfl rfl ?_
      exact hp
    · skip
      have h_1 : ¬ 300 ≤ i0 := fun z => h_1 ((nI_leI (show 300 < 2 ^ 31 by omega) (show i0 < 2 ^ 31 by omega)).mpr z)
      refine am_steps_r ok_V_keySpelled 2 (q' := (19, [some (.ref 3), some (.int (nI dc)), some (.ref (1000 + i)), some (.int (-1)), some (.int (nI i0))], [.int (-1), .ref 3], wd C Y og)) rfl ?_
      refine am_callV_r (As := [.int (-1)]) (rest := []) ok_V_keySpelled rfl rfl ok_V_has oi_V_has lk_3_60 (Or.inl ⟨_, _, _, rfl, rfl, rfl⟩) rfl rfl (Nat.le_of_ble_eq_true rfl) (c_V_has_m _ C Y og nv u hV) ?_
      rintro v_ w_ ⟨rfl, rfl⟩ -
      refine am_eq_r (q' := (22, [some (.ref 3), some (.int (nI dc)), some (.ref (1000 + i)), some (.int (-1)), some (.int (nI i0))], [.int 0], wd C Y og)) rfl ?_
      refine am_steps_r ok_V_keySpelled 2 (q' := (49, [some (.ref 3), some (.int (nI dc)), some (.ref (1000 + i)), some (.int (-1)), some (.int (nI i0))], [.int (-1)], wd C Y og)) rfl ?_
      refine am_iret_r ok_V_keySpelled rfl rfl rfl ?_
      exact hp
  | cons a r ih =>
    intro post i0 x hr hlen hx hp
    obtain ⟨rfl, hx2⟩ := hx
    obtain ⟨ha1, ha2, ha3⟩ := hr a List.mem_cons_self
    have hlen2 : r.length + (i0 + 1) ≤ 300 := by simp at hlen; omega
    refine am_steps_r ok_V_keySpelled 3 (q' := (bif decide (300 ≤ (nI i0)) then 48 else 17, [some (.ref 3), some (.int (nI dc)), some (.ref (1000 + i)), some (.int (nI a)), some (.int (nI i0))], [], wd C Y og)) rfl ?_
    refine am_br_r (fun h_3 => ?_) (fun h_3 => ?_)
    · skip
      have h_3 : 300 ≤ i0 := (nI_leI (show 300 < 2 ^ 31 by omega) (show i0 < 2 ^ 31 by omega)).mp h_3
      refine am_steps_r ok_V_keySpelled 1 (q' := (49, [some (.ref 3), some (.int (nI dc)), some (.ref (1000 + i)), some (.int (nI a)), some (.int (nI i0))], [.int (-1)], wd C Y og)) rfl ?_
      refine am_iret_r ok_V_keySpelled rfl rfl rfl ?_
      first | (exfalso; simp at hlen; omega) | (rw [List.find?_cons_of_pos (by simpa using h_3)] at hp; exact hp)
    · skip
      have h_3 : ¬ 300 ≤ i0 := fun z => h_3 ((nI_leI (show 300 < 2 ^ 31 by omega) (show i0 < 2 ^ 31 by omega)).mpr z)
      refine am_steps_r ok_V_keySpelled 2 (q' := (19, [some (.ref 3), some (.int (nI dc)), some (.ref (1000 + i)), some (.int (nI a)), some (.int (nI i0))], [.int (nI a), .ref 3], wd C Y og)) rfl ?_
      refine am_callV_r (As := [.int (nI a)]) (rest := []) ok_V_keySpelled rfl rfl ok_V_has oi_V_has lk_3_60 (Or.inl ⟨_, _, _, rfl, rfl, rfl⟩) rfl rfl (Nat.le_of_ble_eq_true rfl) (c_V_has_in _ C Y og nv u hV a (by omega)) ?_
      rintro v_ w_ ⟨rfl, rfl⟩ -
      refine am_eq_r (q' := (22, [some (.ref 3), some (.int (nI dc)), some (.ref (1000 + i)), some (.int (nI a)), some (.int (nI i0))], [.int 1], wd C Y og)) rfl ?_
      refine am_steps_r ok_V_keySpelled 4 (q' := (28, [some (.ref 3), some (.int (nI dc)), some (.ref (1000 + i)), some (.int (nI a)), some (.int (nI i0))], [.ref (1000 + i), .int (nI a), .ref 3], wd C Y og)) rfl ?_
      refine am_callV_r (As := [.int (nI a), .ref (1000 + i)]) (rest := []) ok_V_keySpelled rfl rfl ok_V_isSpelled oi_V_isSpelled lk_3_82 (Or.inl ⟨_, _, _, rfl, rfl, rfl⟩) rfl rfl (Nat.le_of_ble_eq_true rfl) (c_V_isSpelled _ C Y og nv u hV a (by omega) (bt a) ha2 ha3 i co ix tx b2 hi hl hfm) ?_
      rintro v_ w_ ⟨rfl, rfl⟩ -
      refine am_eq_r (q' := (31, [some (.ref 3), some (.int (nI dc)), some (.ref (1000 + i)), some (.int (nI a)), some (.int (nI i0))], [.int (bz (decide (bt a = b2)))], wd C Y og)) rfl ?_
      refine am_steps_r ok_V_keySpelled 1 (q' := (bif decide ((bz (decide (bt a = b2))) = 0) then 36 else 34, [some (.ref 3), some (.int (nI dc)), some (.ref (1000 + i)), some (.int (nI a)), some (.int (nI i0))], [], wd C Y og)) rfl ?_
      refine am_bz_r (fun h_6 => ?_) (fun h_6 => ?_)
      · skip
        refine am_steps_r ok_V_keySpelled 1 (q' := (35, [some (.ref 3), some (.int (nI dc)), some (.ref (1000 + i)), some (.int (nI a)), some (.int (nI i0))], [.int (nI a)], wd C Y og)) rfl ?_
        refine am_iret_r ok_V_keySpelled rfl rfl rfl ?_
        first | (exfalso; simp at hlen; omega) | (rw [List.find?_cons_of_pos (by simpa using h_6)] at hp; exact hp)
      · skip
        refine am_steps_r ok_V_keySpelled 2 (q' := (38, [some (.ref 3), some (.int (nI dc)), some (.ref (1000 + i)), some (.int (nI a)), some (.int (nI i0))], [.int (nI a), .ref 3], wd C Y og)) rfl ?_
        refine am_callV_r (As := [.int (nI a)]) (rest := []) ok_V_keySpelled rfl rfl ok_V_nextOf oi_V_nextOf lk_3_68 (Or.inl ⟨_, _, _, rfl, rfl, rfl⟩) rfl rfl (Nat.le_of_ble_eq_true rfl) (c_V_nextOf_in _ C Y og nv u hV a (by omega)) ?_
        rintro v_ w_ ⟨rfl, rfl⟩ -
        refine am_eq_r (q' := (41, [some (.ref 3), some (.int (nI dc)), some (.ref (1000 + i)), some (.int (nI a)), some (.int (nI i0))], [.int (C.2.1 7 a)], wd C Y og)) rfl ?_
        refine am_steps_r ok_V_keySpelled 3 (q' := (9, [some (.ref 3), some (.int (nI dc)), some (.ref (1000 + i)), some (.int (C.2.1 7 a)), some (.int ((nI i0) + 1))], [], wd C Y og)) rfl ?_
        rw [show ((nI i0) + 1 : Int32) = nI (i0 + 1) from nI_add i0 1]
        refine ih post (i0 + 1) _ (fun z hz => hr z (List.mem_cons_of_mem _ hz)) hlen2 hx2 ?_
        rw [List.find?_cons_of_neg (by simpa using h_6)] at hp
        exact hp
end C29
