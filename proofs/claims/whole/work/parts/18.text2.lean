/-! charAt; texts on the component's tape: printed by wip/gen/g18.py -/
theorem st_all : ∀ x ∈ pr_st, x.2.2.2.length < 1000 ∧ 0 < x.2.2.2.length ∧ ∀ v ∈ x.2.2.2, ((v &&& 255).toUInt32 % 65536).toInt32 = v ∧ narrow .char (.int v) = .int v ∧ ∃ k, k < 128 ∧ v = nI k := by
  have h : ∀ x ∈ pr_st, x.2.2.2.length < 1000 ∧ 0 < x.2.2.2.length ∧ ∀ v ∈ x.2.2.2, (((v &&& 255).toUInt32 % 65536).toInt32 = v ∧ (v &&& 65535 = v)) ∧ (0 ≤ v ∧ v < 128) := by decide +kernel
  intro x hx
  obtain ⟨h1, h2, h3⟩ := h x hx
  refine ⟨h1, h2, fun v hv => ?_⟩
  obtain ⟨⟨g1, g2⟩, g3, g4⟩ := h3 v hv
  refine ⟨g1, ?_, ?_⟩
  · rw [← g1]; exact pk_nc _
  · obtain ⟨k, hk, rfl⟩ := nI_of (x := v) (fun z => absurd g3 (Int32.not_le.mpr z))
    exact ⟨k, (nI_ltI (b := 128) hk (by omega)).mp g4, rfl⟩
theorem st_at {i co ix : Nat} {tx : String} {bs : List Int32} (hi : pr_st[i]? = some (co, ix, tx, bs)) : bs.length < 1000 ∧ 0 < bs.length ∧ ∀ j, j < bs.length → ((bs.getD j 0 &&& 255).toUInt32 % 65536).toInt32 = bs.getD j 0 ∧ narrow .char (.int (bs.getD j 0)) = .int (bs.getD j 0) ∧ ∃ k, k < 128 ∧ bs.getD j 0 = nI k := by
  obtain ⟨h1, h2, h3⟩ := st_all _ (List.mem_of_getElem? hi)
  refine ⟨h1, h2, fun j hj => ?_⟩
  have hm : bs.getD j 0 ∈ bs := by
    rw [List.getD_eq_getElem?_getD, List.getElem?_eq_getElem hj]
    exact List.getElem_mem hj
  exact h3 _ hm
theorem txA_drop {b : Nat → Int32} {bs : List Int32} {k j : Nat} (h : j < bs.length) : txA b (bs.drop j) (k + j) = (decide (b (k + j) = bs.getD j 0) && txA b (bs.drop (j + 1)) (k + (j + 1))) := by
  rw [List.drop_eq_getElem_cons h, txA]
  simp [List.getD_eq_getElem?_getD, List.getElem?_eq_getElem h, Nat.add_assoc]
theorem txA_end {b : Nat → Int32} {bs : List Int32} {k j : Nat} (h : bs.length ≤ j) : txA b (bs.drop j) k = true := by
  rw [List.drop_eq_nil_of_le h]
  rfl
theorem txA_out {b : Nat → Int32} {n : Nat} (hb : ∀ k, n ≤ k → b k = -1) : ∀ (bs : List Int32) (k : Nat), (∀ v ∈ bs, ∃ x, x < 128 ∧ v = nI x) → n < k + bs.length → 0 < bs.length → txA b bs k = false
  | [], k, hv, h, h0 => absurd h0 (by simp)
  | x :: r, k, hv, h, h0 => by
    rw [txA]
    cases r with
    | nil =>
      simp at h
      have : b k = -1 := hb k (by omega)
      obtain ⟨z, hz, rfl⟩ := hv x List.mem_cons_self
      have : ¬ (-1 : Int32) = nI z := fun e => by
        have := nI_pos (n := z) (by omega)
        rw [← e] at this
        exact this (by decide)
      simp [*]
    | cons y r =>
      rw [txA_out hb (y :: r) (k + 1) (fun v h => hv v (List.mem_cons_of_mem _ h)) (by simp at h ⊢; omega) (by simp)]
      simp
theorem sub_le {k n m : Nat} (hk : k < 1073741824) (hn : n ≤ 1600) (hm : m < 1000) : nI k ≤ nI n - nI m ↔ k + m ≤ n := by
  rw [Int32.le_iff_toInt_le, pk_sub_toInt (by omega) (by omega), nI_toInt (by omega)]
  omega
section C18
variable {l : Launch} {D : va_G} {cA : Nat → ClassId} {ad : Nat → Nat} {fm : Value}
set_option maxHeartbeats 4000000 in
set_option maxRecDepth 100000 in
theorem c_P_checkIndex_n (d : Nat) (C : wd_C) (Y : wd_Y) (og : Nat → Int64) (j m : Nat) (hj : j < m) (hm : m < 1000) : am_Mt l D cA ad fm (d + 0) m_P_checkIndex [.int (nI j), .int (nI m), .null] (wd C Y og) (fun v w' => v = some (.int (nI j)) ∧ w' = wd C Y og) := by
  refine am_mt ok_P_checkIndex (by simp [am_arg, Value.category, m_P_checkIndex, am_ml]) ?_
  refine am_eq_r (q' := (0, [some (.int (nI j)), some (.int (nI m)), some (.null)], [], wd C Y og)) rfl ?_
  refine am_steps_r ok_P_checkIndex 2 (q' := (bif decide ((nI j) < 0) then 9 else 4, [some (.int (nI j)), some (.int (nI m)), some (.null)], [], wd C Y og)) rfl ?_
  refine am_br_r (fun h_1 => ?_) (fun h_1 => ?_)
  · skip
    have h_1 : j < 0 := (nI_ltI (show j < 2 ^ 31 by omega) (show 0 < 2 ^ 31 by omega)).mp h_1
    exfalso; omega
  · skip
    have h_1 : ¬ j < 0 := fun z => h_1 ((nI_ltI (show j < 2 ^ 31 by omega) (show 0 < 2 ^ 31 by omega)).mpr z)
    refine am_steps_r ok_P_checkIndex 3 (q' := (bif decide ((nI j) < (nI m)) then 16 else 9, [some (.int (nI j)), some (.int (nI m)), some (.null)], [], wd C Y og)) rfl ?_
    refine am_br_r (fun h_2 => ?_) (fun h_2 => ?_)
    · skip
      have h_2 : j < m := (nI_ltI (show j < 2 ^ 31 by omega) (show m < 2 ^ 31 by omega)).mp h_2
      refine am_steps_r ok_P_checkIndex 1 (q' := (17, [some (.int (nI j)), some (.int (nI m)), some (.null)], [.int (nI j)], wd C Y og)) rfl ?_
      refine am_iret_r ok_P_checkIndex rfl rfl rfl ?_
      exact ⟨rfl, rfl⟩
    · skip
      have h_2 : ¬ j < m := fun z => h_2 ((nI_ltI (show j < 2 ^ 31 by omega) (show m < 2 ^ 31 by omega)).mpr z)
      exfalso; omega
set_option maxHeartbeats 4000000 in
set_option maxRecDepth 100000 in
theorem c_P_checkIndex_r (d : Nat) (C : wd_C) (Y : wd_Y) (og : Nat → Int64) (j m : Nat) (hj : j < m) (hm : m < 1000) : am_Mt l D cA ad fm (d + 0) m_P_checkIndex [.int (nI j), .int (nI m), .ref 3000] (wd C Y og) (fun v w' => v = some (.int (nI j)) ∧ w' = wd C Y og) := by
  refine am_mt ok_P_checkIndex (by simp [am_arg, Value.category, m_P_checkIndex, am_ml]) ?_
  refine am_eq_r (q' := (0, [some (.int (nI j)), some (.int (nI m)), some (.ref 3000)], [], wd C Y og)) rfl ?_
  refine am_steps_r ok_P_checkIndex 2 (q' := (bif decide ((nI j) < 0) then 9 else 4, [some (.int (nI j)), some (.int (nI m)), some (.ref 3000)], [], wd C Y og)) rfl ?_
  refine am_br_r (fun h_1 => ?_) (fun h_1 => ?_)
  · skip
    have h_1 : j < 0 := (nI_ltI (show j < 2 ^ 31 by omega) (show 0 < 2 ^ 31 by omega)).mp h_1
    exfalso; omega
  · skip
    have h_1 : ¬ j < 0 := fun z => h_1 ((nI_ltI (show j < 2 ^ 31 by omega) (show 0 < 2 ^ 31 by omega)).mpr z)
    refine am_steps_r ok_P_checkIndex 3 (q' := (bif decide ((nI j) < (nI m)) then 16 else 9, [some (.int (nI j)), some (.int (nI m)), some (.ref 3000)], [], wd C Y og)) rfl ?_
    refine am_br_r (fun h_2 => ?_) (fun h_2 => ?_)
    · skip
      have h_2 : j < m := (nI_ltI (show j < 2 ^ 31 by omega) (show m < 2 ^ 31 by omega)).mp h_2
      refine am_steps_r ok_P_checkIndex 1 (q' := (17, [some (.int (nI j)), some (.int (nI m)), some (.ref 3000)], [.int (nI j)], wd C Y og)) rfl ?_
      refine am_iret_r ok_P_checkIndex rfl rfl rfl ?_
      exact ⟨rfl, rfl⟩
    · skip
      have h_2 : ¬ j < m := fun z => h_2 ((nI_ltI (show j < 2 ^ 31 by omega) (show m < 2 ^ 31 by omega)).mpr z)
      exfalso; omega
theorem c_P_checkIndex (d : Nat) (C : wd_C) (Y : wd_Y) (og : Nat → Int64) (j m : Nat) (hj : j < m) (hm : m < 1000) (hfm : fm = .null ∨ fm = .ref 3000) : am_Mt l D cA ad fm d m_P_checkIndex [.int (nI j), .int (nI m), fm] (wd C Y og) (fun v w' => v = some (.int (nI j)) ∧ w' = wd C Y og) := by
  have h1 := c_P_checkIndex_n (l := l) (D := D) (cA := cA) (ad := ad) (fm := fm) d C Y og j m hj hm
  have h2 := c_P_checkIndex_r (l := l) (D := D) (cA := cA) (ad := ad) (fm := fm) d C Y og j m hj hm
  rcases hfm with e | e <;> rw [e] at h1 h2 ⊢ <;> assumption
set_option maxHeartbeats 4000000 in
set_option maxRecDepth 100000 in
theorem c_J_checkIndex (d : Nat) (C : wd_C) (Y : wd_Y) (og : Nat → Int64) (j m : Nat) (hj : j < m) (hm : m < 1000) (hfm : fm = .null ∨ fm = .ref 3000) : am_Mt l D cA ad fm (d + 1) m_J_checkIndex [.int (nI j), .int (nI m)] (wd C Y og) (fun v w' => v = none ∧ w' = wd C Y og) := by
  refine am_mt ok_J_checkIndex (by simp [am_arg, Value.category, m_J_checkIndex, am_ml]) ?_
  refine am_eq_r (q' := (0, [some (.int (nI j)), some (.int (nI m))], [], wd C Y og)) rfl ?_
  refine am_steps_r ok_J_checkIndex 2 (q' := (2, [some (.int (nI j)), some (.int (nI m))], [.int (nI m), .int (nI j)], wd C Y og)) rfl ?_
  refine am_format_r ok_J_checkIndex rfl rfl ?_
  refine am_callS_r (As := [.int (nI j), .int (nI m), fm]) (rest := []) ok_J_checkIndex rfl rfl ok_P_checkIndex os_P_checkIndex lk_7_1059 rfl rfl (Nat.le_of_ble_eq_true rfl) (c_P_checkIndex _ C Y og j m (by omega) (by omega) hfm) ?_
  rintro v_ w_ ⟨rfl, rfl⟩ -
  refine am_eq_r (q' := (8, [some (.int (nI j)), some (.int (nI m))], [.int (nI j)], wd C Y og)) rfl ?_
  refine am_steps_r ok_J_checkIndex 1 (q' := (9, [some (.int (nI j)), some (.int (nI m))], [], wd C Y og)) rfl ?_
  refine am_vret_r ok_J_checkIndex rfl rfl rfl ?_
  exact ⟨rfl, rfl⟩
set_option maxHeartbeats 4000000 in
set_option maxRecDepth 100000 in
theorem c_L_charAt (d : Nat) (C : wd_C) (Y : wd_Y) (og : Nat → Int64) (i co ix : Nat) (tx : String) (bs : List Int32) (hi : pr_st[i]? = some (co, ix, tx, bs)) (hl : bs.length < 1000) (j : Nat) (hj : j < bs.length) (hfm : fm = .null ∨ fm = .ref 3000) : am_Mt l D cA ad fm (d + 2) m_L_charAt [.ref (2000 + i), .int (nI j)] (wd C Y og) (fun v w' => v = some (.int (bs.getD j 0)) ∧ w' = wd C Y og) := by
  refine am_mt ok_L_charAt (by simp [am_arg, Value.category, m_L_charAt, am_ml]) ?_
  refine am_eq_r (q' := (0, [some (.ref (2000 + i)), some (.int (nI j))], [], wd C Y og)) rfl ?_
  refine am_steps_r ok_L_charAt 2 (q' := (2, [some (.ref (2000 + i)), some (.int (nI j))], [.ref (2000 + i), .int (nI j)], wd C Y og)) rfl ?_
  refine am_slen_r ok_L_charAt (i := i) rfl hi ?_
  refine am_eq_r (q' := (3, [some (.ref (2000 + i)), some (.int (nI j))], [.int (nI bs.length), .int (nI j)], wd C Y og)) rfl ?_
  refine am_callS_r (As := [.int (nI j), .int (nI bs.length)]) (rest := []) ok_L_charAt rfl rfl ok_J_checkIndex os_J_checkIndex lk_8_9 rfl rfl (Nat.le_of_ble_eq_true rfl) (c_J_checkIndex _ C Y og j bs.length (by omega) (by omega) hfm) ?_
  rintro v_ w_ ⟨rfl, rfl⟩ -
  refine am_eq_r (q' := (6, [some (.ref (2000 + i)), some (.int (nI j))], [], wd C Y og)) rfl ?_
  refine am_steps_r ok_L_charAt 2 (q' := (8, [some (.ref (2000 + i)), some (.int (nI j))], [.int (nI j), .ref (2000 + i)], wd C Y og)) rfl ?_
  refine am_sbyt_r ok_L_charAt (i := i) rfl hi (pk_in j bs.length (by omega) rfl (by omega)) ?_
  rw [nI_clamp (show j < 2 ^ 31 by omega)]
  refine am_eq_r (q' := (9, [some (.ref (2000 + i)), some (.int (nI j))], [.int (bs.getD j 0)], wd C Y og)) rfl ?_
  refine am_steps_r ok_L_charAt 3 (q' := (14, [some (.ref (2000 + i)), some (.int (nI j))], [.int ((((bs.getD j 0) &&& 255).toUInt32 % 65536).toInt32)], wd C Y og)) rfl ?_
  refine am_zret_r ok_L_charAt rfl rfl (pk_nc _) rfl ?_
  exact ⟨by rw [((st_at hi).2.2 j hj).1], rfl⟩
set_option maxHeartbeats 4000000 in
set_option maxRecDepth 100000 in
theorem c_J_charAt (d : Nat) (C : wd_C) (Y : wd_Y) (og : Nat → Int64) (i co ix : Nat) (tx : String) (bs : List Int32) (hi : pr_st[i]? = some (co, ix, tx, bs)) (hl : bs.length < 1000) (j : Nat) (hj : j < bs.length) (hfm : fm = .null ∨ fm = .ref 3000) : am_Mt l D cA ad fm (d + 3) m_J_charAt [.ref (1000 + i), .int (nI j)] (wd C Y og) (fun v w' => v = some (.int (bs.getD j 0)) ∧ w' = wd C Y og) := by
  refine am_mt ok_J_charAt (by simp [am_arg, Value.category, m_J_charAt, am_ml]) ?_
  refine am_eq_r (q' := (0, [some (.ref (1000 + i)), some (.int (nI j))], [], wd C Y og)) rfl ?_
  refine am_steps_r ok_J_charAt 1 (q' := (1, [some (.ref (1000 + i)), some (.int (nI j))], [.ref (1000 + i)], wd C Y og)) rfl ?_
  refine am_callV_r (As := []) (rest := []) ok_J_charAt rfl rfl ok_J_isLatin1 oi_J_isLatin1 lk_7_492 (Or.inr ⟨rfl, i, _, rfl, hi⟩) rfl rfl (Nat.le_of_ble_eq_true rfl) (c_J_isLatin1 _ C Y og i co ix tx bs hi hl) ?_
  rintro v_ w_ ⟨rfl, rfl⟩ -
  refine am_eq_r (q' := (4, [some (.ref (1000 + i)), some (.int (nI j))], [.int 1], wd C Y og)) rfl ?_
  refine am_steps_r ok_J_charAt 2 (q' := (8, [some (.ref (1000 + i)), some (.int (nI j))], [.ref (1000 + i)], wd C Y og)) rfl ?_
  refine am_sval_r ok_J_charAt (i := i) rfl rfl hi ?_
  refine am_steps_r ok_J_charAt 1 (q' := (12, [some (.ref (1000 + i)), some (.int (nI j))], [.int (nI j), .ref (2000 + i)], wd C Y og)) rfl ?_
  refine am_callS_r (As := [.ref (2000 + i), .int (nI j)]) (rest := []) ok_J_charAt rfl rfl ok_L_charAt os_L_charAt lk_7_495 rfl rfl (Nat.le_of_ble_eq_true rfl) (c_L_charAt _ C Y og i co ix tx bs hi hl j (by omega) hfm) ?_
  rintro v_ w_ ⟨rfl, rfl⟩ -
  refine am_eq_r (q' := (15, [some (.ref (1000 + i)), some (.int (nI j))], [.int (bs.getD j 0)], wd C Y og)) rfl ?_
  refine am_zret_r ok_J_charAt rfl rfl ((st_at hi).2.2 j hj).2.1 rfl ?_
  exact ⟨rfl, rfl⟩
set_option maxHeartbeats 4000000 in
set_option maxRecDepth 100000 in
theorem lp_T_textStands_21 (d : Nat) (C : wd_C) (Y : wd_Y) (og : Nat → Int64) (n : Nat) (b : Nat → Int32) (hT : tpC C n b) (i co ix : Nat) (tx : String) (bs : List Int32) (hi : pr_st[i]? = some (co, ix, tx, bs)) (hl : bs.length < 1000) (hfm : fm = .null ∨ fm = .ref 3000) (k : Nat) (hk : k + bs.length ≤ n) : ∀ (fu : Nat) (post : Option Value → am_W → Prop) (j : Nat), (j ≤ bs.length) →  post (some (.int (bz (txA b (bs.drop j) (k + j))))) (wd C Y og) → bs.length - j < fu → am_Rn l D cA ad fm (d + 4) m_T_textStands (wd C Y og).length post (21, [some (.ref 1), some (.int (nI k)), some (.ref (1000 + i)), some (.int (nI j))], [], wd C Y og) := by
  intro fu
  induction fu with
  | zero => intro post j hj hp hfu; exact absurd hfu (Nat.not_lt_zero _)
  | succ fu ih =>
    intro post j hj hp hfu
    have hn := hT.2.1
    refine am_steps_r ok_T_textStands 2 (q' := (23, [some (.ref 1), some (.int (nI k)), some (.ref (1000 + i)), some (.int (nI j))], [.ref (1000 + i), .int (nI j)], wd C Y og)) rfl ?_
    refine am_callV_r (As := []) (rest := [.int (nI j)]) ok_T_textStands rfl rfl ok_J_length oi_J_length lk_2_33 (Or.inr ⟨rfl, i, _, rfl, hi⟩) rfl rfl (Nat.le_of_ble_eq_true rfl) (c_J_length _ C Y og i co ix tx bs hi hl) ?_
    rintro v_ w_ ⟨rfl, rfl⟩ -
    refine am_eq_r (q' := (26, [some (.ref 1), some (.int (nI k)), some (.ref (1000 + i)), some (.int (nI j))], [.int (nI bs.length), .int (nI j)], wd C Y og)) rfl ?_
    refine am_steps_r ok_T_textStands 1 (q' := (bif decide ((nI bs.length) ≤ (nI j)) then 53 else 29, [some (.ref 1), some (.int (nI k)), some (.ref (1000 + i)), some (.int (nI j))], [], wd C Y og)) rfl ?_
    refine am_br_r (fun h_2 => ?_) (fun h_2 => ?_)
    · skip
      have h_2 : bs.length ≤ j := (nI_leI (show bs.length < 2 ^ 31 by omega) (show j < 2 ^ 31 by omega)).mp h_2
      refine am_steps_r ok_T_textStands 1 (q' := (54, [some (.ref 1), some (.int (nI k)), some (.ref (1000 + i)), some (.int (nI j))], [.int 1], wd C Y og)) rfl ?_
      refine am_zret_r ok_T_textStands rfl rfl rfl rfl ?_
      rw [txA_end (by omega)] at hp
      exact hp
    · skip
      have h_2 : ¬ bs.length ≤ j := fun z => h_2 ((nI_leI (show bs.length < 2 ^ 31 by omega) (show j < 2 ^ 31 by omega)).mpr z)
      refine am_steps_r ok_T_textStands 5 (q' := (36, [some (.ref 1), some (.int (nI k)), some (.ref (1000 + i)), some (.int (nI j))], [.int ((nI k) + (nI j)), .ref 2], wd C Y og)) rfl ?_
      rw [show ((nI k) + (nI j) : Int32) = nI (k + j) from nI_add k j]
      refine am_bald_r ok_T_textStands rfl (w := wd C Y og) (f := C.2.1 0) rfl rfl (pk_in (k + j) 1600 (by omega)) ?_
      rw [nI_clamp (show (k + j) < 2 ^ 31 by omega)]
      refine am_steps_r ok_T_textStands 2 (q' := (39, [some (.ref 1), some (.int (nI k)), some (.ref (1000 + i)), some (.int (nI j))], [.int (nI j), .ref (1000 + i), .int (C.2.1 0 (k + j))], wd C Y og)) rfl ?_
      refine am_callV_r (As := [.int (nI j)]) (rest := [.int (C.2.1 0 (k + j))]) ok_T_textStands rfl rfl ok_J_charAt oi_J_charAt lk_2_39 (Or.inr ⟨rfl, i, _, rfl, hi⟩) rfl rfl (Nat.le_of_ble_eq_true rfl) (c_J_charAt _ C Y og i co ix tx bs hi hl j (by omega) hfm) ?_
      rintro v_ w_ ⟨rfl, rfl⟩ -
      refine am_eq_r (q' := (42, [some (.ref 1), some (.int (nI k)), some (.ref (1000 + i)), some (.int (nI j))], [.int (bs.getD j 0), .int (C.2.1 0 (k + j))], wd C Y og)) rfl ?_
      refine am_steps_r ok_T_textStands 1 (q' := (bif decide ((C.2.1 0 (k + j)) = (bs.getD j 0)) then 47 else 45, [some (.ref 1), some (.int (nI k)), some (.ref (1000 + i)), some (.int (nI j))], [], wd C Y og)) rfl ?_
      refine am_br_r (fun h_4 => ?_) (fun h_4 => ?_)
      · skip
        refine am_steps_r ok_T_textStands 2 (q' := (21, [some (.ref 1), some (.int (nI k)), some (.ref (1000 + i)), some (.int ((nI j) + 1))], [], wd C Y og)) rfl ?_
        rw [show ((nI j) + 1 : Int32) = nI (j + 1) from nI_add j 1]
        refine ih post (j + 1) (by omega) ?_ (by omega)
        obtain ⟨x_, hx1, hx2⟩ := ((st_at hi).2.2 j (by omega)).2.2
        rw [hx2] at h_4
        have hq := (tpC_raw hT (by omega) hx1).mp h_4
        rw [txA_drop (by omega), hx2, hq] at hp
        simpa using hp
      · skip
        refine am_steps_r ok_T_textStands 1 (q' := (46, [some (.ref 1), some (.int (nI k)), some (.ref (1000 + i)), some (.int (nI j))], [.int 0], wd C Y og)) rfl ?_
        refine am_zret_r ok_T_textStands rfl rfl rfl rfl ?_
        obtain ⟨x_, hx1, hx2⟩ := ((st_at hi).2.2 j (by omega)).2.2
        rw [hx2] at h_4
        have hq : ¬ b (k + j) = nI x_ := fun z => h_4 ((tpC_raw hT (by omega) hx1).mpr z)
        rw [txA_drop (by omega), hx2, decide_eq_false hq, Bool.false_and] at hp
        exact hp
set_option maxHeartbeats 4000000 in
set_option maxRecDepth 100000 in
theorem c_T_textStands (d : Nat) (C : wd_C) (Y : wd_Y) (og : Nat → Int64) (n : Nat) (b : Nat → Int32) (hT : tpC C n b) (i co ix : Nat) (tx : String) (bs : List Int32) (hi : pr_st[i]? = some (co, ix, tx, bs)) (hl : bs.length < 1000) (hfm : fm = .null ∨ fm = .ref 3000) (k : Nat) (hk : k < 1073741824) : am_Mt l D cA ad fm (d + 4) m_T_textStands [.ref 1, .int (nI k), .ref (1000 + i)] (wd C Y og) (fun v w' => v = some (.int (bz (txA b bs k))) ∧ w' = wd C Y og) := by
  have hn := hT.2.1
  refine am_mt ok_T_textStands (by simp [am_arg, Value.category, m_T_textStands, am_ml]) ?_
  refine am_eq_r (q' := (0, [some (.ref 1), some (.int (nI k)), some (.ref (1000 + i)), none], [], wd C Y og)) rfl ?_
  refine am_steps_r ok_T_textStands 2 (q' := (bif decide ((nI k) < 0) then 17 else 4, [some (.ref 1), some (.int (nI k)), some (.ref (1000 + i)), none], [], wd C Y og)) rfl ?_
  refine am_br_r (fun h_1 => ?_) (fun h_1 => ?_)
  · skip
    have h_1 : k < 0 := (nI_ltI (show k < 2 ^ 31 by omega) (show 0 < 2 ^ 31 by omega)).mp h_1
    refine am_steps_r ok_T_textStands 1 (q' := (18, [some (.ref 1), some (.int (nI k)), some (.ref (1000 + i)), none], [.int 0], wd C Y og)) rfl ?_
    refine am_zret_r ok_T_textStands rfl rfl rfl rfl ?_
    refine ⟨?_, rfl⟩
    rw [txA_out hT.2.2.2 bs k (fun v hv => by obtain ⟨h1, h2, h3⟩ := st_all _ (List.mem_of_getElem? hi); exact (h3 v hv).2.2) (by omega) (st_at hi).2.1]
    rfl
  · skip
    have h_1 : ¬ k < 0 := fun z => h_1 ((nI_ltI (show k < 2 ^ 31 by omega) (show 0 < 2 ^ 31 by omega)).mpr z)
    refine am_steps_r ok_T_textStands 4 (q' := (10, [some (.ref 1), some (.int (nI k)), some (.ref (1000 + i)), none], [.ref (1000 + i), .int (C.1 0), .int (nI k)], wd C Y og)) rfl ?_
    rw [show (C.1 0 : Int32) = nI n from hT.1]
    refine am_callV_r (As := []) (rest := [.int (nI n), .int (nI k)]) ok_T_textStands rfl rfl ok_J_length oi_J_length lk_2_33 (Or.inr ⟨rfl, i, _, rfl, hi⟩) rfl rfl (Nat.le_of_ble_eq_true rfl) (c_J_length _ C Y og i co ix tx bs hi hl) ?_
    rintro v_ w_ ⟨rfl, rfl⟩ -
    refine am_eq_r (q' := (13, [some (.ref 1), some (.int (nI k)), some (.ref (1000 + i)), none], [.int (nI bs.length), .int (nI n), .int (nI k)], wd C Y og)) rfl ?_
    refine am_steps_r ok_T_textStands 2 (q' := (bif decide ((nI k) ≤ ((nI n) - (nI bs.length))) then 19 else 17, [some (.ref 1), some (.int (nI k)), some (.ref (1000 + i)), none], [], wd C Y og)) rfl ?_
    refine am_br_r (fun h_3 => ?_) (fun h_3 => ?_)
    · skip
      have h_3 := (sub_le (by omega) hn hl).mp h_3
      refine am_steps_r ok_T_textStands 2 (q' := (21, [some (.ref 1), some (.int (nI k)), some (.ref (1000 + i)), some (.int 0)], [], wd C Y og)) rfl ?_
      exact lp_T_textStands_21 d C Y og n b hT i co ix tx bs hi hl hfm k (by omega) (bs.length + 1) _ 0 (Nat.zero_le _) ⟨rfl, rfl⟩ (by omega)
    · skip
      have h_3 : ¬ k + bs.length ≤ n := fun z => h_3 ((sub_le (by omega) hn hl).mpr z)
      refine am_steps_r ok_T_textStands 1 (q' := (18, [some (.ref 1), some (.int (nI k)), some (.ref (1000 + i)), none], [.int 0], wd C Y og)) rfl ?_
      refine am_zret_r ok_T_textStands rfl rfl rfl rfl ?_
      refine ⟨?_, rfl⟩
      rw [txA_out hT.2.2.2 bs k (fun v hv => by obtain ⟨h1, h2, h3⟩ := st_all _ (List.mem_of_getElem? hi); exact (h3 v hv).2.2) (by omega) (st_at hi).2.1]
      rfl
end C18
