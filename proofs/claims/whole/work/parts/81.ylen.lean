/-! the reference: Length, and what it tells; printed by wip/gen/g81.py -/
theorem cmp_0 {x y : Int64} : lg_cmp x y = 0 ↔ x = y := by
  unfold lg_cmp
  constructor
  · intro h
    by_cases h1 : y < x
    · rw [if_pos h1] at h
      exact absurd h (by decide)
    · rw [if_neg h1] at h
      by_cases h2 : x = y
      · exact h2
      · rw [if_neg h2] at h
        exact absurd h (by decide)
  · intro h
    subst h
    rw [if_neg Int64.lt_irrefl, if_pos rfl]
theorem i64_inj {x y : Int32} (h : x.toInt64 = y.toInt64) : x = y := by
  have := congrArg Int64.toInt32 h
  simpa using this
section C81
variable {l : Launch} {D : va_G} {cA : Nat → ClassId} {ad : Nat → Nat} {fm : Value}
set_option maxHeartbeats 1000000 in
set_option maxRecDepth 100000 in
theorem lp_M_isLength_15 (d : Nat) (C : wd_C) (Y : wd_Y) (og : Nat → Int64) (nv u : Nat) (V : VT) (hY : vsY Y nv u V) (v : Nat) (hv : v < nv) (bs : List Int32) (s : Nat) (s1 : Y.2.1 7 v = nI s) (s2 : Y.2.1 8 v = nI bs.length) (s3 : s + bs.length ≤ u) (s4 : ∀ j, j < bs.length → Y.2.1 9 (s + j) = bs.getD j 0) (hl : bs.length = 6) : ∀ (fu : Nat) (post : Option Value → am_W → Prop) (j : Nat), (j ≤ 6) →  post (some (.int (bz (decide (bs.drop j = st_8.drop j))))) (wd C Y og) → 6 - j < fu → am_Rn l D cA ad fm (d + 1) m_M_isLength (wd C Y og).length post (15, [some (.ref 19), some (.int (nI v)), some (.int (nI j))], [], wd C Y og) := by
  intro fu
  induction fu with
  | zero => intro post j hj hp hfu; exact absurd hfu (Nat.not_lt_zero _)
  | succ fu ih =>
    intro post j hj hp hfu
    have hv1 := hY.1.2.1
    have hv2 := hY.1.2.2.2
    refine am_steps_r ok_M_isLength 3 (q' := (bif decide (6 ≤ (nI j)) then 51 else 21, [some (.ref 19), some (.int (nI v)), some (.int (nI j))], [], wd C Y og)) rfl ?_
    refine am_br_r (fun h_1 => ?_) (fun h_1 => ?_)
    · skip
      have h_1 : 6 ≤ j := (nI_leI (show 6 < 2 ^ 31 by omega) (show j < 2 ^ 31 by omega)).mp h_1
      refine am_steps_r ok_M_isLength 1 (q' := (52, [some (.ref 19), some (.int (nI v)), some (.int (nI j))], [.int 1], wd C Y og)) rfl ?_
      refine am_zret_r ok_M_isLength rfl rfl rfl rfl ?_
      rw [decide_eq_true (dr_end (b1 := bs) (b2 := st_8) (j := j) (by omega) (by rw [show st_8.length = 6 from rfl]; omega))] at hp
      exact hp
    · skip
      have h_1 : ¬ 6 ≤ j := fun z => h_1 ((nI_leI (show 6 < 2 ^ 31 by omega) (show j < 2 ^ 31 by omega)).mpr z)
      refine am_steps_r ok_M_isLength 5 (q' := (30, [some (.ref 19), some (.int (nI v)), some (.int (nI j))], [.int (nI v), .ref 28, .ref 30], wd C Y og)) rfl ?_
      refine am_iald_r ok_M_isLength rfl (w := wd C Y og) (f := Y.2.1 7) rfl rfl (pk_in v 300 (by omega)) ?_
      rw [nI_clamp (show v < 2 ^ 31 by omega)]
      rw [s1]
      refine am_steps_r ok_M_isLength 2 (q' := (33, [some (.ref 19), some (.int (nI v)), some (.int (nI j))], [.int ((nI s) + (nI j)), .ref 30], wd C Y og)) rfl ?_
      rw [show ((nI s) + (nI j) : Int32) = nI (s + j) from nI_add s j]
      refine am_iald_r ok_M_isLength rfl (w := wd C Y og) (f := Y.2.1 9) rfl rfl (pk_in (s + j) 2000 (by omega)) ?_
      rw [nI_clamp (show (s + j) < 2 ^ 31 by omega)]
      rw [s4 j (by omega)]
      refine am_steps_r ok_M_isLength 2 (q' := (37, [some (.ref 19), some (.int (nI v)), some (.int (nI j))], [.int (nI j), .int 7, .int (bs.getD j 0)], wd C Y og)) rfl ?_
      refine am_callS_r (As := [.int 7, .int (nI j)]) (rest := [.int (bs.getD j 0)]) ok_M_isLength rfl rfl ok_M_letter os_M_letter lk_6_106 rfl rfl (Nat.le_of_ble_eq_true rfl) (c_M_letter_7 _ C Y og j (by omega)) ?_
      rintro v_ w_ ⟨rfl, rfl⟩ -
      refine am_eq_r (q' := (40, [some (.ref 19), some (.int (nI v)), some (.int (nI j))], [.int (st_8.getD j 0), .int (bs.getD j 0)], wd C Y og)) rfl ?_
      refine am_steps_r ok_M_isLength 1 (q' := (bif decide ((bs.getD j 0) = (st_8.getD j 0)) then 45 else 43, [some (.ref 19), some (.int (nI v)), some (.int (nI j))], [], wd C Y og)) rfl ?_
      refine am_br_r (fun h_3 => ?_) (fun h_3 => ?_)
      · skip
        refine am_steps_r ok_M_isLength 2 (q' := (15, [some (.ref 19), some (.int (nI v)), some (.int ((nI j) + 1))], [], wd C Y og)) rfl ?_
        rw [show ((nI j) + 1 : Int32) = nI (j + 1) from nI_add j 1]
        refine ih post (j + 1) (by omega) ?_ (by omega)
        rw [show decide (bs.drop j = st_8.drop j) = decide (bs.drop (j + 1) = st_8.drop (j + 1)) from decide_eq_decide.mpr ((dr_eq (by omega) (by rw [show st_8.length = 6 from rfl]; omega)).trans ⟨fun z => z.2, fun z => ⟨by rw [gD_in (e := -1) (e' := 0) (by omega), gD_in (bs := st_8) (e := -1) (e' := 0) (by rw [show st_8.length = 6 from rfl]; omega)]; exact h_3, z⟩⟩)] at hp
        exact hp
      · skip
        refine am_steps_r ok_M_isLength 1 (q' := (44, [some (.ref 19), some (.int (nI v)), some (.int (nI j))], [.int 0], wd C Y og)) rfl ?_
        refine am_zret_r ok_M_isLength rfl rfl rfl rfl ?_
        rw [decide_eq_false (fun z => h_3 (by have z2 := ((dr_eq (by omega) (by rw [show st_8.length = 6 from rfl]; omega)).mp z).1; rw [gD_in (e := 0) (e' := -1) (by omega), gD_in (bs := st_8) (e := 0) (e' := -1) (by rw [show st_8.length = 6 from rfl]; omega)]; exact z2))] at hp
        exact hp
set_option maxHeartbeats 1000000 in
set_option maxRecDepth 100000 in
theorem c_M_isLength (d : Nat) (C : wd_C) (Y : wd_Y) (og : Nat → Int64) (nv u : Nat) (V : VT) (hY : vsY Y nv u V) (v : Nat) (hv : v < nv) (bs : List Int32) (s : Nat) (s1 : Y.2.1 7 v = nI s) (s2 : Y.2.1 8 v = nI bs.length) (s3 : s + bs.length ≤ u) (s4 : ∀ j, j < bs.length → Y.2.1 9 (s + j) = bs.getD j 0)  : am_Mt l D cA ad fm (d + 1) m_M_isLength [.ref 19, .int (nI v)] (wd C Y og) (fun vr w' => vr = some (.int (bz (decide (bs = st_8)))) ∧ w' = wd C Y og) := by
  have hv1 := hY.1.2.1
  have hv2 := hY.1.2.2.2
  refine am_mt ok_M_isLength (by simp [am_arg, Value.category, m_M_isLength, am_ml]) ?_
  refine am_eq_r (q' := (0, [some (.ref 19), some (.int (nI v)), none], [], wd C Y og)) rfl ?_
  refine am_steps_r ok_M_isLength 3 (q' := (5, [some (.ref 19), some (.int (nI v)), none], [.int (nI v), .ref 29], wd C Y og)) rfl ?_
  refine am_iald_r ok_M_isLength rfl (w := wd C Y og) (f := Y.2.1 8) rfl rfl (pk_in v 300 (by omega)) ?_
  rw [nI_clamp (show v < 2 ^ 31 by omega)]
  rw [s2]
  refine am_steps_r ok_M_isLength 2 (q' := (bif decide ((nI bs.length) = 6) then 13 else 11, [some (.ref 19), some (.int (nI v)), none], [], wd C Y og)) rfl ?_
  refine am_br_r (fun h_1 => ?_) (fun h_1 => ?_)
  · skip
    have h_1 : bs.length = 6 := (nI_eq (show bs.length < 2 ^ 31 by omega) (show 6 < 2 ^ 31 by omega)).mp h_1
    refine am_steps_r ok_M_isLength 2 (q' := (15, [some (.ref 19), some (.int (nI v)), some (.int 0)], [], wd C Y og)) rfl ?_
    exact lp_M_isLength_15 d C Y og nv u V hY v hv bs s s1 s2 s3 s4 h_1 8 _ 0 (Nat.zero_le _) ⟨rfl, rfl⟩ (by omega)
  · skip
    have h_1 : ¬ bs.length = 6 := fun z => h_1 ((nI_eq (show bs.length < 2 ^ 31 by omega) (show 6 < 2 ^ 31 by omega)).mpr z)
    refine am_steps_r ok_M_isLength 1 (q' := (12, [some (.ref 19), some (.int (nI v)), none], [.int 0], wd C Y og)) rfl ?_
    refine am_zret_r ok_M_isLength rfl rfl rfl rfl ?_
    exact ⟨by rw [decide_eq_false (fun z => h_1 (by rw [z]; rfl))]; rfl, rfl⟩
set_option maxHeartbeats 1000000 in
set_option maxRecDepth 100000 in
theorem lp_M_lengthOf_7 (d : Nat) (C : wd_C) (Y : wd_Y) (og : Nat → Int64) (nv u : Nat) (V : VT) (hY : vsY Y nv u V) (dc : Nat) (hdc : dc < nv) : ∀ (m : Nat) (ks : List Nat) (post : Option Value → am_W → Prop) (xp : Int32), ks.length = 2 * m → lkd (Y.2.1 5) xp ks → (∀ a ∈ ks, a < nv) → post (some (.int (oN ((prF (isLn V) ks).map (fun z => z.2))))) (wd C Y og) → am_Rn l D cA ad fm (d + 2) m_M_lengthOf (wd C Y og).length post (7, [some (.ref 19), some (.int (nI dc)), some (.int xp)], [], wd C Y og) := by
  have hv1 := hY.1.2.1
  have hv2 := hY.1.2.2.2
  intro m
  induction m with
  | zero =>
    intro ks post xp hl hc hin hp
    have e0 : ks = [] := List.length_eq_zero_iff.mp (by omega)
    subst e0
    have e1 : xp = -1 := hc
    subst e1
    refine am_steps_r ok_M_lengthOf 4 (q' := (43, [some (.ref 19), some (.int (nI dc)), some (.int (-1))], [.int (-1)], wd C Y og)) rfl ?_
    refine am_iret_r ok_M_lengthOf rfl rfl rfl ?_
    exact hp
  | succ m ih =>
    intro ks post xp hl hc hin hp
    match ks, hl, hc, hin, hp with
    | [], hl, _, _, _ => exact absurd hl (by simp only [List.length_nil]; omega)
    | [_], hl, _, _, _ => exact absurd hl (by simp only [List.length_cons, List.length_nil]; omega)
    | kk :: vv :: r, hl, hc, hin, hp =>
      obtain ⟨rfl, hc2, hc3⟩ := hc
      have hkn := hin kk List.mem_cons_self
      have hvn := hin vv (List.mem_cons_of_mem _ List.mem_cons_self)
      refine am_steps_r ok_M_lengthOf 3 (q' := (bif decide ((nI kk) = (-1)) then 42 else 12, [some (.ref 19), some (.int (nI dc)), some (.int (nI kk))], [], wd C Y og)) rfl ?_
      refine am_br_r (fun h_1 => ?_) (fun h_1 => ?_)
      · skip
        exact absurd h_1 (nI_nm (show kk < 2 ^ 31 by omega))
      · skip
        refine am_steps_r ok_M_lengthOf 2 (q' := (14, [some (.ref 19), some (.int (nI dc)), some (.int (nI kk))], [.int (nI kk), .ref 19], wd C Y og)) rfl ?_
        obtain ⟨s, s1, s2, s3, s4⟩ := (hY.2 kk hkn).2.2.2.1
        refine am_callV_r (As := [.int (nI kk)]) (rest := []) ok_M_lengthOf rfl rfl ok_M_isLength oi_M_isLength lk_6_233 (Or.inl ⟨_, _, _, rfl, rfl, rfl⟩) rfl rfl (Nat.le_of_ble_eq_true rfl) (c_M_isLength _ C Y og nv u V hY kk hkn (V.2.2.2 kk) s s1 s2 s3 s4) ?_
        rintro v_ w_ ⟨rfl, rfl⟩ -
        refine am_eq_r (q' := (17, [some (.ref 19), some (.int (nI dc)), some (.int (nI kk))], [.int (bz (decide (V.2.2.2 kk = st_8)))], wd C Y og)) rfl ?_
        refine am_steps_r ok_M_lengthOf 1 (q' := (bif decide ((bz (decide (V.2.2.2 kk = st_8))) = 0) then 27 else 20, [some (.ref 19), some (.int (nI dc)), some (.int (nI kk))], [], wd C Y og)) rfl ?_
        refine am_bz_r (fun h_3 => ?_) (fun h_3 => ?_)
        · skip
          refine am_steps_r ok_M_lengthOf 3 (q' := (25, [some (.ref 19), some (.int (nI dc)), some (.int (nI kk))], [.int (nI kk), .ref 26], wd C Y og)) rfl ?_
          refine am_iald_r ok_M_lengthOf rfl (w := wd C Y og) (f := Y.2.1 5) rfl rfl (pk_in kk 300 (by omega)) ?_
          rw [nI_clamp (show kk < 2 ^ 31 by omega)]
          rw [hc2]
          refine am_iret_r ok_M_lengthOf rfl rfl rfl ?_
          have hpos : isLn V kk = true := h_3
          rw [prF, if_pos hpos] at hp
          exact hp
        · skip
          refine am_steps_r ok_M_lengthOf 5 (q' := (36, [some (.ref 19), some (.int (nI dc)), some (.int (nI kk))], [.int (nI kk), .ref 26, .ref 26], wd C Y og)) rfl ?_
          refine am_iald_r ok_M_lengthOf rfl (w := wd C Y og) (f := Y.2.1 5) rfl rfl (pk_in kk 300 (by omega)) ?_
          rw [nI_clamp (show kk < 2 ^ 31 by omega)]
          rw [hc2]
          refine am_iald_r ok_M_lengthOf rfl (w := wd C Y og) (f := Y.2.1 5) rfl rfl (pk_in vv 300 (by omega)) ?_
          rw [nI_clamp (show vv < 2 ^ 31 by omega)]
          refine am_steps_r ok_M_lengthOf 2 (q' := (7, [some (.ref 19), some (.int (nI dc)), some (.int (Y.2.1 5 vv))], [], wd C Y og)) rfl ?_
          have hneg : ¬ isLn V kk = true := by unfold isLn; rw [h_3]; decide
          refine ih r post _ (by simp only [List.length_cons] at hl; omega) hc3 (fun z hz => hin z (List.mem_cons_of_mem _ (List.mem_cons_of_mem _ hz))) ?_
          rw [prF, if_neg hneg] at hp
          exact hp
set_option maxHeartbeats 1000000 in
set_option maxRecDepth 100000 in
theorem c_M_lengthOf (d : Nat) (C : wd_C) (Y : wd_Y) (og : Nat → Int64) (nv u : Nat) (V : VT) (hY : vsY Y nv u V) (hok : vok nv V) (dc : Nat) (hdc : dc < nv) (m : Nat) (hm : (V.2.2.1 dc).length = 2 * m) : am_Mt l D cA ad fm (d + 2) m_M_lengthOf [.ref 19, .int (nI dc)] (wd C Y og) (fun vr w' => vr = some (.int (oN ((prF (isLn V) (V.2.2.1 dc)).map (fun z => z.2)))) ∧ w' = wd C Y og) := by
  have hv1 := hY.1.2.1
  have hv2 := hY.1.2.2.2
  refine am_mt ok_M_lengthOf (by simp [am_arg, Value.category, m_M_lengthOf, am_ml]) ?_
  refine am_eq_r (q' := (0, [some (.ref 19), some (.int (nI dc)), none], [], wd C Y og)) rfl ?_
  refine am_steps_r ok_M_lengthOf 3 (q' := (5, [some (.ref 19), some (.int (nI dc)), none], [.int (nI dc), .ref 24], wd C Y og)) rfl ?_
  refine am_iald_r ok_M_lengthOf rfl (w := wd C Y og) (f := Y.2.1 3) rfl rfl (pk_in dc 300 (by omega)) ?_
  rw [nI_clamp (show dc < 2 ^ 31 by omega)]
  refine am_steps_r ok_M_lengthOf 1 (q' := (7, [some (.ref 19), some (.int (nI dc)), some (.int (Y.2.1 3 dc))], [], wd C Y og)) rfl ?_
  exact lp_M_lengthOf_7 d C Y og nv u V hY dc hdc m (V.2.2.1 dc) _ _ hm (hY.2 dc hdc).2.2.2.2.1 (hok.1 dc hdc).1 ⟨rfl, rfl⟩
set_option maxHeartbeats 1000000 in
set_option maxRecDepth 100000 in
theorem lp_M_keyOfLength_7 (d : Nat) (C : wd_C) (Y : wd_Y) (og : Nat → Int64) (nv u : Nat) (V : VT) (hY : vsY Y nv u V) (dc : Nat) (hdc : dc < nv) : ∀ (m : Nat) (ks : List Nat) (post : Option Value → am_W → Prop) (xp : Int32), ks.length = 2 * m → lkd (Y.2.1 5) xp ks → (∀ a ∈ ks, a < nv) → post (some (.int (oN ((prF (isLn V) ks).map (fun z => z.1))))) (wd C Y og) → am_Rn l D cA ad fm (d + 2) m_M_keyOfLength (wd C Y og).length post (7, [some (.ref 19), some (.int (nI dc)), some (.int xp)], [], wd C Y og) := by
  have hv1 := hY.1.2.1
  have hv2 := hY.1.2.2.2
  intro m
  induction m with
  | zero =>
    intro ks post xp hl hc hin hp
    have e0 : ks = [] := List.length_eq_zero_iff.mp (by omega)
    subst e0
    have e1 : xp = -1 := hc
    subst e1
    refine am_steps_r ok_M_keyOfLength 4 (q' := (38, [some (.ref 19), some (.int (nI dc)), some (.int (-1))], [.int (-1)], wd C Y og)) rfl ?_
    refine am_iret_r ok_M_keyOfLength rfl rfl rfl ?_
    exact hp
  | succ m ih =>
    intro ks post xp hl hc hin hp
    match ks, hl, hc, hin, hp with
    | [], hl, _, _, _ => exact absurd hl (by simp only [List.length_nil]; omega)
    | [_], hl, _, _, _ => exact absurd hl (by simp only [List.length_cons, List.length_nil]; omega)
    | kk :: vv :: r, hl, hc, hin, hp =>
      obtain ⟨rfl, hc2, hc3⟩ := hc
      have hkn := hin kk List.mem_cons_self
      have hvn := hin vv (List.mem_cons_of_mem _ List.mem_cons_self)
      refine am_steps_r ok_M_keyOfLength 3 (q' := (bif decide ((nI kk) = (-1)) then 37 else 12, [some (.ref 19), some (.int (nI dc)), some (.int (nI kk))], [], wd C Y og)) rfl ?_
      refine am_br_r (fun h_1 => ?_) (fun h_1 => ?_)
      · skip
        exact absurd h_1 (nI_nm (show kk < 2 ^ 31 by omega))
      · skip
        refine am_steps_r ok_M_keyOfLength 2 (q' := (14, [some (.ref 19), some (.int (nI dc)), some (.int (nI kk))], [.int (nI kk), .ref 19], wd C Y og)) rfl ?_
        obtain ⟨s, s1, s2, s3, s4⟩ := (hY.2 kk hkn).2.2.2.1
        refine am_callV_r (As := [.int (nI kk)]) (rest := []) ok_M_keyOfLength rfl rfl ok_M_isLength oi_M_isLength lk_6_233 (Or.inl ⟨_, _, _, rfl, rfl, rfl⟩) rfl rfl (Nat.le_of_ble_eq_true rfl) (c_M_isLength _ C Y og nv u V hY kk hkn (V.2.2.2 kk) s s1 s2 s3 s4) ?_
        rintro v_ w_ ⟨rfl, rfl⟩ -
        refine am_eq_r (q' := (17, [some (.ref 19), some (.int (nI dc)), some (.int (nI kk))], [.int (bz (decide (V.2.2.2 kk = st_8)))], wd C Y og)) rfl ?_
        refine am_steps_r ok_M_keyOfLength 1 (q' := (bif decide ((bz (decide (V.2.2.2 kk = st_8))) = 0) then 22 else 20, [some (.ref 19), some (.int (nI dc)), some (.int (nI kk))], [], wd C Y og)) rfl ?_
        refine am_bz_r (fun h_3 => ?_) (fun h_3 => ?_)
        · skip
          refine am_steps_r ok_M_keyOfLength 1 (q' := (21, [some (.ref 19), some (.int (nI dc)), some (.int (nI kk))], [.int (nI kk)], wd C Y og)) rfl ?_
          refine am_iret_r ok_M_keyOfLength rfl rfl rfl ?_
          have hpos : isLn V kk = true := h_3
          rw [prF, if_pos hpos] at hp
          exact hp
        · skip
          refine am_steps_r ok_M_keyOfLength 5 (q' := (31, [some (.ref 19), some (.int (nI dc)), some (.int (nI kk))], [.int (nI kk), .ref 26, .ref 26], wd C Y og)) rfl ?_
          refine am_iald_r ok_M_keyOfLength rfl (w := wd C Y og) (f := Y.2.1 5) rfl rfl (pk_in kk 300 (by omega)) ?_
          rw [nI_clamp (show kk < 2 ^ 31 by omega)]
          rw [hc2]
          refine am_iald_r ok_M_keyOfLength rfl (w := wd C Y og) (f := Y.2.1 5) rfl rfl (pk_in vv 300 (by omega)) ?_
          rw [nI_clamp (show vv < 2 ^ 31 by omega)]
          refine am_steps_r ok_M_keyOfLength 2 (q' := (7, [some (.ref 19), some (.int (nI dc)), some (.int (Y.2.1 5 vv))], [], wd C Y og)) rfl ?_
          have hneg : ¬ isLn V kk = true := by unfold isLn; rw [h_3]; decide
          refine ih r post _ (by simp only [List.length_cons] at hl; omega) hc3 (fun z hz => hin z (List.mem_cons_of_mem _ (List.mem_cons_of_mem _ hz))) ?_
          rw [prF, if_neg hneg] at hp
          exact hp
set_option maxHeartbeats 1000000 in
set_option maxRecDepth 100000 in
theorem c_M_keyOfLength (d : Nat) (C : wd_C) (Y : wd_Y) (og : Nat → Int64) (nv u : Nat) (V : VT) (hY : vsY Y nv u V) (hok : vok nv V) (dc : Nat) (hdc : dc < nv) (m : Nat) (hm : (V.2.2.1 dc).length = 2 * m) : am_Mt l D cA ad fm (d + 2) m_M_keyOfLength [.ref 19, .int (nI dc)] (wd C Y og) (fun vr w' => vr = some (.int (oN ((prF (isLn V) (V.2.2.1 dc)).map (fun z => z.1)))) ∧ w' = wd C Y og) := by
  have hv1 := hY.1.2.1
  have hv2 := hY.1.2.2.2
  refine am_mt ok_M_keyOfLength (by simp [am_arg, Value.category, m_M_keyOfLength, am_ml]) ?_
  refine am_eq_r (q' := (0, [some (.ref 19), some (.int (nI dc)), none], [], wd C Y og)) rfl ?_
  refine am_steps_r ok_M_keyOfLength 3 (q' := (5, [some (.ref 19), some (.int (nI dc)), none], [.int (nI dc), .ref 24], wd C Y og)) rfl ?_
  refine am_iald_r ok_M_keyOfLength rfl (w := wd C Y og) (f := Y.2.1 3) rfl rfl (pk_in dc 300 (by omega)) ?_
  rw [nI_clamp (show dc < 2 ^ 31 by omega)]
  refine am_steps_r ok_M_keyOfLength 1 (q' := (7, [some (.ref 19), some (.int (nI dc)), some (.int (Y.2.1 3 dc))], [], wd C Y og)) rfl ?_
  exact lp_M_keyOfLength_7 d C Y og nv u V hY dc hdc m (V.2.2.1 dc) _ _ hm (hY.2 dc hdc).2.2.2.2.1 (hok.1 dc hdc).1 ⟨rfl, rfl⟩
set_option maxHeartbeats 1000000 in
set_option maxRecDepth 100000 in
theorem lp_M_findObject_8 (d : Nat) (C : wd_C) (Y : wd_Y) (og : Nat → Int64) (no : Nat) (E : Nat → Nat → Int32) (hO : obY Y no E) (nv : Nat) (hob : obI nv no E) (hnv : nv ≤ 300) (a g : Int32) : ∀ (m : Nat) (post : Option Value → am_W → Prop), m ≤ no → post (some (.int (oN (fnO E a g m)))) (wd C Y og) → am_Rn l D cA ad fm (d + 0) m_M_findObject (wd C Y og).length post (8, [some (.ref 19), some (.long a.toInt64), none, some (.long g.toInt64), none, some (.int (nI m - 1))], [], wd C Y og) := by
  have hn := hO.1
  have hn2 := hO.2.1
  have hE := hO.2.2
  intro m
  induction m with
  | zero =>
    intro post hm hp
    refine am_eq_r (q' := (8, [some (.ref 19), some (.long a.toInt64), none, some (.long g.toInt64), none, some (.int (-1))], [], wd C Y og)) rfl ?_
    refine am_steps_r ok_M_findObject 3 (q' := (72, [some (.ref 19), some (.long a.toInt64), none, some (.long g.toInt64), none, some (.int (-1))], [.int (-1)], wd C Y og)) rfl ?_
    refine am_iret_r ok_M_findObject rfl rfl rfl ?_
    exact hp
  | succ m ih =>
    intro post hm hp
    have e3 := hE m (by omega) 3 (by omega)
    have e0 := hE m (by omega) 0 (by omega)
    have e1 := hE m (by omega) 1 (by omega)
    rw [Nat.add_zero] at e0
    have hv3 : E m 3 = 0 ↔ ¬ E m 2 = -1 := by
      rcases (hob m (by omega)).1 with ⟨z1, z2⟩ | ⟨w, w1, w2, w3⟩
      · exact ⟨fun z => absurd z z2, fun z => absurd z1 z⟩
      · exact ⟨fun _ z => absurd (w2.symm.trans z) (nI_nm (by omega)), fun _ => w3⟩
    refine am_eq_r (q' := (8, [some (.ref 19), some (.long a.toInt64), none, some (.long g.toInt64), none, some (.int (nI m))], [], wd C Y og)) (by rw [nI_pred]) ?_
    refine am_steps_r ok_M_findObject 2 (q' := (bif decide ((nI m) < 0) then 71 else 13, [some (.ref 19), some (.long a.toInt64), none, some (.long g.toInt64), none, some (.int (nI m))], [], wd C Y og)) rfl ?_
    refine am_br_r (fun h_1 => ?_) (fun h_1 => ?_)
    · skip
      have h_1 : m < 0 := (nI_ltI (show m < 2 ^ 31 by omega) (show 0 < 2 ^ 31 by omega)).mp h_1
      refine am_steps_r ok_M_findObject 1 (q' := (72, [some (.ref 19), some (.long a.toInt64), none, some (.long g.toInt64), none, some (.int (nI m))], [.int (-1)], wd C Y og)) rfl ?_
      refine am_iret_r ok_M_findObject rfl rfl rfl ?_
      exfalso; omega
    · skip
      have h_1 : ¬ m < 0 := fun z => h_1 ((nI_ltI (show m < 2 ^ 31 by omega) (show 0 < 2 ^ 31 by omega)).mpr z)
      refine am_steps_r ok_M_findObject 7 (q' := (24, [some (.ref 19), some (.long a.toInt64), none, some (.long g.toInt64), none, some (.int (nI m))], [.int ((8 * (nI m)) + 3), .ref 21], wd C Y og)) rfl ?_
      rw [show (8 * (nI m) : Int32) = nI (8 * m) from pk_mul 8 m]
      rw [show ((nI (8 * m)) + 3 : Int32) = nI ((8 * m) + 3) from nI_add (8 * m) 3]
      refine am_iald_r ok_M_findObject rfl (w := wd C Y og) (f := Y.2.1 1) rfl rfl (pk_in ((8 * m) + 3) 160 (by omega)) ?_
      rw [nI_clamp (show ((8 * m) + 3) < 2 ^ 31 by omega)]
      rw [e3]
      refine am_steps_r ok_M_findObject 1 (q' := (bif decide ((E m 3) = 0) then 28 else 65, [some (.ref 19), some (.long a.toInt64), none, some (.long g.toInt64), none, some (.int (nI m))], [], wd C Y og)) rfl ?_
      refine am_br_r (fun h_2 => ?_) (fun h_2 => ?_)
      · skip
        refine am_steps_r ok_M_findObject 5 (q' := (37, [some (.ref 19), some (.long a.toInt64), none, some (.long g.toInt64), none, some (.int (nI m))], [.int (8 * (nI m)), .ref 21], wd C Y og)) rfl ?_
        rw [show (8 * (nI m) : Int32) = nI (8 * m) from pk_mul 8 m]
        refine am_iald_r ok_M_findObject rfl (w := wd C Y og) (f := Y.2.1 1) rfl rfl (pk_in (8 * m) 160 (by omega)) ?_
        rw [nI_clamp (show (8 * m) < 2 ^ 31 by omega)]
        rw [e0]
        refine am_steps_r ok_M_findObject 4 (q' := (bif decide ((lg_cmp ((E m 0).toInt64) a.toInt64) = 0) then 44 else 65, [some (.ref 19), some (.long a.toInt64), none, some (.long g.toInt64), none, some (.int (nI m))], [], wd C Y og)) rfl ?_
        refine am_br_r (fun h_3 => ?_) (fun h_3 => ?_)
        · skip
          refine am_steps_r ok_M_findObject 7 (q' := (55, [some (.ref 19), some (.long a.toInt64), none, some (.long g.toInt64), none, some (.int (nI m))], [.int ((8 * (nI m)) + 1), .ref 21], wd C Y og)) rfl ?_
          rw [show (8 * (nI m) : Int32) = nI (8 * m) from pk_mul 8 m]
          rw [show ((nI (8 * m)) + 1 : Int32) = nI ((8 * m) + 1) from nI_add (8 * m) 1]
          refine am_iald_r ok_M_findObject rfl (w := wd C Y og) (f := Y.2.1 1) rfl rfl (pk_in ((8 * m) + 1) 160 (by omega)) ?_
          rw [nI_clamp (show ((8 * m) + 1) < 2 ^ 31 by omega)]
          rw [e1]
          refine am_steps_r ok_M_findObject 4 (q' := (bif decide ((lg_cmp ((E m 1).toInt64) g.toInt64) = 0) then 62 else 65, [some (.ref 19), some (.long a.toInt64), none, some (.long g.toInt64), none, some (.int (nI m))], [], wd C Y og)) rfl ?_
          refine am_br_r (fun h_4 => ?_) (fun h_4 => ?_)
          · skip
            refine am_steps_r ok_M_findObject 1 (q' := (64, [some (.ref 19), some (.long a.toInt64), none, some (.long g.toInt64), none, some (.int (nI m))], [.int (nI m)], wd C Y og)) rfl ?_
            refine am_iret_r ok_M_findObject rfl rfl rfl ?_
            rw [fnO, if_pos ⟨i64_inj (cmp_0.mp (show lg_cmp (E m 0).toInt64 a.toInt64 = 0 by assumption)), i64_inj (cmp_0.mp (show lg_cmp (E m 1).toInt64 g.toInt64 = 0 by assumption)), hv3.mp (by assumption)⟩] at hp
            exact hp
          · skip
            refine am_steps_r ok_M_findObject 2 (q' := (8, [some (.ref 19), some (.long a.toInt64), none, some (.long g.toInt64), none, some (.int ((nI m) + (-1)))], [], wd C Y og)) rfl ?_
            refine am_eq_r (q' := (8, [some (.ref 19), some (.long a.toInt64), none, some (.long g.toInt64), none, some (.int (nI m - 1))], [], wd C Y og)) (by rw [nI_dec]) ?_
            refine ih post (by omega) ?_
            rw [fnO, if_neg (by rintro ⟨z1, z2, z3⟩; have z4 := hv3.mpr z3; first | exact absurd z4 (by assumption) | exact absurd (cmp_0.mpr (show (E m 0).toInt64 = a.toInt64 by rw [z1])) (by assumption) | exact absurd (cmp_0.mpr (show (E m 1).toInt64 = g.toInt64 by rw [z2])) (by assumption))] at hp
            exact hp
        · skip
          refine am_steps_r ok_M_findObject 2 (q' := (8, [some (.ref 19), some (.long a.toInt64), none, some (.long g.toInt64), none, some (.int ((nI m) + (-1)))], [], wd C Y og)) rfl ?_
          refine am_eq_r (q' := (8, [some (.ref 19), some (.long a.toInt64), none, some (.long g.toInt64), none, some (.int (nI m - 1))], [], wd C Y og)) (by rw [nI_dec]) ?_
          refine ih post (by omega) ?_
          rw [fnO, if_neg (by rintro ⟨z1, z2, z3⟩; have z4 := hv3.mpr z3; first | exact absurd z4 (by assumption) | exact absurd (cmp_0.mpr (show (E m 0).toInt64 = a.toInt64 by rw [z1])) (by assumption) | exact absurd (cmp_0.mpr (show (E m 1).toInt64 = g.toInt64 by rw [z2])) (by assumption))] at hp
          exact hp
      · skip
        refine am_steps_r ok_M_findObject 2 (q' := (8, [some (.ref 19), some (.long a.toInt64), none, some (.long g.toInt64), none, some (.int ((nI m) + (-1)))], [], wd C Y og)) rfl ?_
        refine am_eq_r (q' := (8, [some (.ref 19), some (.long a.toInt64), none, some (.long g.toInt64), none, some (.int (nI m - 1))], [], wd C Y og)) (by rw [nI_dec]) ?_
        refine ih post (by omega) ?_
        rw [fnO, if_neg (by rintro ⟨z1, z2, z3⟩; have z4 := hv3.mpr z3; first | exact absurd z4 (by assumption) | exact absurd (cmp_0.mpr (show (E m 0).toInt64 = a.toInt64 by rw [z1])) (by assumption) | exact absurd (cmp_0.mpr (show (E m 1).toInt64 = g.toInt64 by rw [z2])) (by assumption))] at hp
        exact hp
set_option maxHeartbeats 1000000 in
set_option maxRecDepth 100000 in
theorem c_M_findObject (d : Nat) (C : wd_C) (Y : wd_Y) (og : Nat → Int64) (no : Nat) (E : Nat → Nat → Int32) (hO : obY Y no E) (nv : Nat) (hob : obI nv no E) (hnv : nv ≤ 300) (a g : Int32) : am_Mt l D cA ad fm (d + 0) m_M_findObject [.ref 19, .long a.toInt64, .long g.toInt64] (wd C Y og) (fun vr w' => vr = some (.int (oN (fnO E a g no))) ∧ w' = wd C Y og) := by
  have hn := hO.1
  have hn2 := hO.2.1
  have hE := hO.2.2
  refine am_mt ok_M_findObject (by simp [am_arg, Value.category, m_M_findObject, am_ml]) ?_
  refine am_eq_r (q' := (0, [some (.ref 19), some (.long a.toInt64), none, some (.long g.toInt64), none, none], [], wd C Y og)) rfl ?_
  refine am_steps_r ok_M_findObject 5 (q' := (8, [some (.ref 19), some (.long a.toInt64), none, some (.long g.toInt64), none, some (.int ((Y.1 2) - 1))], [], wd C Y og)) rfl ?_
  rw [show (Y.1 2 : Int32) = nI no from hn]
  exact lp_M_findObject_8 d C Y og no E hO nv hob hnv a g no _ (Nat.le_refl _) ⟨rfl, rfl⟩
end C81
