/-! texts, and isRegular: printed by wip/gen/g16.py -/
/-- the first place of c in what is left of a text -/
def ixN (c : Int32) : List Int32 → Nat → Int32
  | [], _ => -1
  | x :: r, k => if x = c then nI k else ixN c r (k + 1)
theorem ixN_drop {c : Int32} {bs : List Int32} {k : Nat} (h : k < bs.length) : ixN c (bs.drop k) k = if bs.getD k 0 = c then nI k else ixN c (bs.drop (k + 1)) (k + 1) := by
  rw [List.drop_eq_getElem_cons h, ixN]
  simp [List.getD_eq_getElem?_getD, List.getElem?_eq_getElem h]
theorem ixN_out {c : Int32} {bs : List Int32} {k : Nat} (h : bs.length ≤ k) : ixN c (bs.drop k) k = -1 := by
  rw [List.drop_eq_nil_of_le h]
  rfl
section C16
variable {l : Launch} {D : va_G} {cA : Nat → ClassId} {ad : Nat → Nat} {fm : Value}
set_option maxHeartbeats 4000000 in
set_option maxRecDepth 100000 in
theorem c_J_isLatin1 (d : Nat) (C : wd_C) (Y : wd_Y) (og : Nat → Int64) (i co ix : Nat) (tx : String) (bs : List Int32) (hi : pr_st[i]? = some (co, ix, tx, bs)) (hl : bs.length < 1000)  : am_Mt l D cA ad fm (d + 0) m_J_isLatin1 [.ref (1000 + i)] (wd C Y og) (fun v w' => v = some (.int 1) ∧ w' = wd C Y og) := by
  refine am_mt ok_J_isLatin1 (by simp [am_arg, Value.category, m_J_isLatin1, am_ml]) ?_
  refine am_eq_r (q' := (0, [some (.ref (1000 + i))], [], wd C Y og)) rfl ?_
  refine am_compact_r ok_J_isLatin1 rfl rfl ?_
  refine am_steps_r ok_J_isLatin1 2 (q' := (7, [some (.ref (1000 + i))], [.ref (1000 + i)], wd C Y og)) rfl ?_
  refine am_scod_r ok_J_isLatin1 (i := i) rfl rfl hi ?_
  refine am_steps_r ok_J_isLatin1 3 (q' := (18, [some (.ref (1000 + i))], [.int 1], wd C Y og)) rfl ?_
  refine am_zret_r ok_J_isLatin1 rfl rfl rfl rfl ?_
  exact ⟨rfl, rfl⟩
set_option maxHeartbeats 4000000 in
set_option maxRecDepth 100000 in
theorem c_J_coder (d : Nat) (C : wd_C) (Y : wd_Y) (og : Nat → Int64) (i co ix : Nat) (tx : String) (bs : List Int32) (hi : pr_st[i]? = some (co, ix, tx, bs)) (hl : bs.length < 1000)  : am_Mt l D cA ad fm (d + 0) m_J_coder [.ref (1000 + i)] (wd C Y og) (fun v w' => v = some (.int 0) ∧ w' = wd C Y og) := by
  refine am_mt ok_J_coder (by simp [am_arg, Value.category, m_J_coder, am_ml]) ?_
  refine am_eq_r (q' := (0, [some (.ref (1000 + i))], [], wd C Y og)) rfl ?_
  refine am_compact_r ok_J_coder rfl rfl ?_
  refine am_steps_r ok_J_coder 2 (q' := (7, [some (.ref (1000 + i))], [.ref (1000 + i)], wd C Y og)) rfl ?_
  refine am_scod_r ok_J_coder (i := i) rfl rfl hi ?_
  refine am_steps_r ok_J_coder 1 (q' := (14, [some (.ref (1000 + i))], [.int 0], wd C Y og)) rfl ?_
  refine am_zret_r ok_J_coder rfl rfl rfl rfl ?_
  exact ⟨rfl, rfl⟩
set_option maxHeartbeats 4000000 in
set_option maxRecDepth 100000 in
theorem c_J_length (d : Nat) (C : wd_C) (Y : wd_Y) (og : Nat → Int64) (i co ix : Nat) (tx : String) (bs : List Int32) (hi : pr_st[i]? = some (co, ix, tx, bs)) (hl : bs.length < 1000)  : am_Mt l D cA ad fm (d + 1) m_J_length [.ref (1000 + i)] (wd C Y og) (fun v w' => v = some (.int (nI bs.length)) ∧ w' = wd C Y og) := by
  refine am_mt ok_J_length (by simp [am_arg, Value.category, m_J_length, am_ml]) ?_
  refine am_eq_r (q' := (0, [some (.ref (1000 + i))], [], wd C Y og)) rfl ?_
  refine am_steps_r ok_J_length 1 (q' := (1, [some (.ref (1000 + i))], [.ref (1000 + i)], wd C Y og)) rfl ?_
  refine am_sval_r ok_J_length (i := i) rfl rfl hi ?_
  refine am_slen_r ok_J_length (i := i) rfl hi ?_
  refine am_eq_r (q' := (5, [some (.ref (1000 + i))], [.int (nI bs.length)], wd C Y og)) rfl ?_
  refine am_steps_r ok_J_length 1 (q' := (6, [some (.ref (1000 + i))], [.ref (1000 + i), .int (nI bs.length)], wd C Y og)) rfl ?_
  refine am_callV_r (As := []) (rest := [.int (nI bs.length)]) ok_J_length rfl rfl ok_J_coder oi_J_coder lk_7_335 (Or.inr ⟨rfl, i, _, rfl, hi⟩) rfl rfl (Nat.le_of_ble_eq_true rfl) (c_J_coder _ C Y og i co ix tx bs hi hl) ?_
  rintro v_ w_ ⟨rfl, rfl⟩ -
  refine am_eq_r (q' := (9, [some (.ref (1000 + i))], [.int 0, .int (nI bs.length)], wd C Y og)) rfl ?_
  refine am_steps_r ok_J_length 1 (q' := (10, [some (.ref (1000 + i))], [.int ((nI bs.length) >>> (0 &&& 31))], wd C Y og)) rfl ?_
  refine am_iret_r ok_J_length rfl rfl rfl ?_
  exact ⟨by rw [sb_shr0], rfl⟩
set_option maxHeartbeats 4000000 in
set_option maxRecDepth 100000 in
theorem c_L_canEncode (d : Nat) (C : wd_C) (Y : wd_Y) (og : Nat → Int64) (c : Int32) : am_Mt l D cA ad fm (d + 0) m_L_canEncode [.int c] (wd C Y og) (fun v w' => v = some (.int (bz (decide (0 ≤ c) && decide (c ≤ 255)))) ∧ w' = wd C Y og) := by
  refine am_mt ok_L_canEncode (by simp [am_arg, Value.category, m_L_canEncode, am_ml]) ?_
  refine am_eq_r (q' := (0, [some (.int c)], [], wd C Y og)) rfl ?_
  refine am_steps_r ok_L_canEncode 2 (q' := (bif decide (c < 0) then 15 else 4, [some (.int c)], [], wd C Y og)) rfl ?_
  refine am_br_r (fun h_1 => ?_) (fun h_1 => ?_)
  · skip
    refine am_steps_r ok_L_canEncode 1 (q' := (16, [some (.int c)], [.int 0], wd C Y og)) rfl ?_
    refine am_zret_r ok_L_canEncode rfl rfl rfl rfl ?_
    refine ⟨?_, rfl⟩
    simp_all [bz, ← Int32.not_lt]
  · skip
    refine am_steps_r ok_L_canEncode 3 (q' := (bif decide (255 < c) then 15 else 11, [some (.int c)], [], wd C Y og)) rfl ?_
    refine am_br_r (fun h_2 => ?_) (fun h_2 => ?_)
    · skip
      refine am_steps_r ok_L_canEncode 1 (q' := (16, [some (.int c)], [.int 0], wd C Y og)) rfl ?_
      refine am_zret_r ok_L_canEncode rfl rfl rfl rfl ?_
      refine ⟨?_, rfl⟩
      simp_all [bz, ← Int32.not_lt]
    · skip
      refine am_steps_r ok_L_canEncode 2 (q' := (16, [some (.int c)], [.int 1], wd C Y og)) rfl ?_
      refine am_zret_r ok_L_canEncode rfl rfl rfl rfl ?_
      refine ⟨?_, rfl⟩
      simp_all [bz, ← Int32.not_lt]
set_option maxHeartbeats 4000000 in
set_option maxRecDepth 100000 in
theorem lp_L_indexOfChar_7 (d : Nat) (C : wd_C) (Y : wd_Y) (og : Nat → Int64) (i co ix : Nat) (tx : String) (bs : List Int32) (hi : pr_st[i]? = some (co, ix, tx, bs)) (hl : bs.length < 1000) (c : Int32) : ∀ (fu : Nat) (post : Option Value → am_W → Prop) (k : Nat), (k ≤ bs.length) →  post (some (.int (ixN c.toInt8.toInt32 (bs.drop k) k))) (wd C Y og) → bs.length - k < fu → am_Rn l D cA ad fm (d + 0) m_L_indexOfChar (wd C Y og).length post (7, [some (.ref (2000 + i)), some (.int c), some (.int (nI 0)), some (.int (nI bs.length)), some (.int c.toInt8.toInt32), some (.int (nI k))], [], wd C Y og) := by
  intro fu
  induction fu with
  | zero => intro post k hk hp hfu; exact absurd hfu (Nat.not_lt_zero _)
  | succ fu ih =>
    intro post k hk hp hfu
    refine am_steps_r ok_L_indexOfChar 3 (q' := (bif decide ((nI bs.length) ≤ (nI k)) then 31 else 13, [some (.ref (2000 + i)), some (.int c), some (.int (nI 0)), some (.int (nI bs.length)), some (.int c.toInt8.toInt32), some (.int (nI k))], [], wd C Y og)) rfl ?_
    refine am_br_r (fun h_1 => ?_) (fun h_1 => ?_)
    · skip
      have h_1 : bs.length ≤ k := (nI_leI (show bs.length < 2 ^ 31 by omega) (show k < 2 ^ 31 by omega)).mp h_1
      refine am_steps_r ok_L_indexOfChar 1 (q' := (32, [some (.ref (2000 + i)), some (.int c), some (.int (nI 0)), some (.int (nI bs.length)), some (.int c.toInt8.toInt32), some (.int (nI k))], [.int (-1)], wd C Y og)) rfl ?_
      refine am_iret_r ok_L_indexOfChar rfl rfl rfl ?_
      first | (rw [ixN_out (by omega)] at hp; exact hp) | (rw [ixN_drop (by omega), if_pos h_2] at hp; exact hp)
    · skip
      have h_1 : ¬ bs.length ≤ k := fun z => h_1 ((nI_leI (show bs.length < 2 ^ 31 by omega) (show k < 2 ^ 31 by omega)).mpr z)
      refine am_steps_r ok_L_indexOfChar 2 (q' := (16, [some (.ref (2000 + i)), some (.int c), some (.int (nI 0)), some (.int (nI bs.length)), some (.int c.toInt8.toInt32), some (.int (nI k))], [.int (nI k), .ref (2000 + i)], wd C Y og)) rfl ?_
      refine am_sbyt_r ok_L_indexOfChar (i := i) rfl hi (pk_in k bs.length (by omega) rfl (by omega)) ?_
      rw [nI_clamp (show k < 2 ^ 31 by omega)]
      refine am_eq_r (q' := (17, [some (.ref (2000 + i)), some (.int c), some (.int (nI 0)), some (.int (nI bs.length)), some (.int c.toInt8.toInt32), some (.int (nI k))], [.int (bs.getD k 0)], wd C Y og)) rfl ?_
      refine am_steps_r ok_L_indexOfChar 2 (q' := (bif decide ((bs.getD k 0) = c.toInt8.toInt32) then 22 else 25, [some (.ref (2000 + i)), some (.int c), some (.int (nI 0)), some (.int (nI bs.length)), some (.int c.toInt8.toInt32), some (.int (nI k))], [], wd C Y og)) rfl ?_
      refine am_br_r (fun h_2 => ?_) (fun h_2 => ?_)
      · skip
        refine am_steps_r ok_L_indexOfChar 1 (q' := (24, [some (.ref (2000 + i)), some (.int c), some (.int (nI 0)), some (.int (nI bs.length)), some (.int c.toInt8.toInt32), some (.int (nI k))], [.int (nI k)], wd C Y og)) rfl ?_
        refine am_iret_r ok_L_indexOfChar rfl rfl rfl ?_
        first | (rw [ixN_out (by omega)] at hp; exact hp) | (rw [ixN_drop (by omega), if_pos h_2] at hp; exact hp)
      · skip
        refine am_steps_r ok_L_indexOfChar 2 (q' := (7, [some (.ref (2000 + i)), some (.int c), some (.int (nI 0)), some (.int (nI bs.length)), some (.int c.toInt8.toInt32), some (.int ((nI k) + 1))], [], wd C Y og)) rfl ?_
        rw [show ((nI k) + 1 : Int32) = nI (k + 1) from nI_add k 1]
        refine ih post (k + 1) (by omega) ?_ (by omega)
        rw [ixN_drop (by omega), if_neg h_2] at hp
        exact hp
set_option maxHeartbeats 4000000 in
set_option maxRecDepth 100000 in
theorem c_L_indexOfChar (d : Nat) (C : wd_C) (Y : wd_Y) (og : Nat → Int64) (i co ix : Nat) (tx : String) (bs : List Int32) (hi : pr_st[i]? = some (co, ix, tx, bs)) (hl : bs.length < 1000) (c : Int32) : am_Mt l D cA ad fm (d + 0) m_L_indexOfChar [.ref (2000 + i), .int c, .int (nI 0), .int (nI bs.length)] (wd C Y og) (fun v w' => v = some (.int (ixN c.toInt8.toInt32 bs 0)) ∧ w' = wd C Y og) := by
  refine am_mt ok_L_indexOfChar (by simp [am_arg, Value.category, m_L_indexOfChar, am_ml]) ?_
  refine am_eq_r (q' := (0, [some (.ref (2000 + i)), some (.int c), some (.int (nI 0)), some (.int (nI bs.length)), none, none], [], wd C Y og)) rfl ?_
  refine am_steps_r ok_L_indexOfChar 5 (q' := (7, [some (.ref (2000 + i)), some (.int c), some (.int (nI 0)), some (.int (nI bs.length)), some (.int c.toInt8.toInt32), some (.int (nI 0))], [], wd C Y og)) rfl ?_
  exact lp_L_indexOfChar_7 d C Y og i co ix tx bs hi hl c (bs.length + 1) _ 0 (Nat.zero_le _) ⟨rfl, rfl⟩ (by omega)
set_option maxHeartbeats 4000000 in
set_option maxRecDepth 100000 in
theorem c_L_indexOf (d : Nat) (C : wd_C) (Y : wd_Y) (og : Nat → Int64) (i co ix : Nat) (tx : String) (bs : List Int32) (hi : pr_st[i]? = some (co, ix, tx, bs)) (hl : bs.length < 1000) (h0 : 0 < bs.length) (c : Int32) (hc : (decide (0 ≤ c) && decide (c ≤ 255)) = true) : am_Mt l D cA ad fm (d + 1) m_L_indexOf [.ref (2000 + i), .int c, .int (nI 0), .int (nI bs.length)] (wd C Y og) (fun v w' => v = some (.int (ixN c.toInt8.toInt32 bs 0)) ∧ w' = wd C Y og) := by
  refine am_mt ok_L_indexOf (by simp [am_arg, Value.category, m_L_indexOf, am_ml]) ?_
  refine am_eq_r (q' := (0, [some (.ref (2000 + i)), some (.int c), some (.int (nI 0)), some (.int (nI bs.length))], [], wd C Y og)) rfl ?_
  refine am_steps_r ok_L_indexOf 1 (q' := (1, [some (.ref (2000 + i)), some (.int c), some (.int (nI 0)), some (.int (nI bs.length))], [.int c], wd C Y og)) rfl ?_
  refine am_callS_r (As := [.int c]) (rest := []) ok_L_indexOf rfl rfl ok_L_canEncode os_L_canEncode lk_8_88 rfl rfl (Nat.le_of_ble_eq_true rfl) (c_L_canEncode _ C Y og c) ?_
  rintro v_ w_ ⟨rfl, rfl⟩ -
  refine am_eq_r (q' := (4, [some (.ref (2000 + i)), some (.int c), some (.int (nI 0)), some (.int (nI bs.length))], [.int (bz (decide (0 ≤ c) && decide (c ≤ 255)))], wd C Y og)) rfl ?_
  refine am_steps_r ok_L_indexOf 1 (q' := (bif decide ((bz (decide (0 ≤ c) && decide (c ≤ 255))) = 0) then 7 else 9, [some (.ref (2000 + i)), some (.int c), some (.int (nI 0)), some (.int (nI bs.length))], [], wd C Y og)) rfl ?_
  refine am_bz_r (fun h_2 => ?_) (fun h_2 => ?_)
  · skip
    refine am_steps_r ok_L_indexOf 2 (q' := (11, [some (.ref (2000 + i)), some (.int c), some (.int (nI 0)), some (.int (nI bs.length))], [.int 0, .int (nI 0)], wd C Y og)) rfl ?_
    refine am_mmax_r ok_L_indexOf rfl (am_in 376 (by decide +kernel) rfl) (hrs := Nat.le_of_ble_eq_true rfl) ?_
    refine am_eq_r (q' := (14, [some (.ref (2000 + i)), some (.int c), some (.int (nI 0)), some (.int (nI bs.length))], [.int 0], wd C Y og)) rfl ?_
    refine am_steps_r ok_L_indexOf 3 (q' := (17, [some (.ref (2000 + i)), some (.int c), some (.int 0), some (.int (nI bs.length))], [.ref (2000 + i), .int (nI bs.length)], wd C Y og)) rfl ?_
    refine am_slen_r ok_L_indexOf (i := i) rfl hi ?_
    refine am_eq_r (q' := (18, [some (.ref (2000 + i)), some (.int c), some (.int 0), some (.int (nI bs.length))], [.int (nI bs.length), .int (nI bs.length)], wd C Y og)) rfl ?_
    refine am_mmin_r ok_L_indexOf rfl (am_in 377 (by decide +kernel) rfl) (hrs := Nat.le_of_ble_eq_true rfl) ?_
    rw [show (if nI bs.length < nI bs.length then nI bs.length else nI bs.length) = nI bs.length from ite_self _]
    refine am_steps_r ok_L_indexOf 4 (q' := (bif decide (0 < (nI bs.length)) then 29 else 27, [some (.ref (2000 + i)), some (.int c), some (.int 0), some (.int (nI bs.length))], [], wd C Y og)) rfl ?_
    refine am_br_r (fun h_3 => ?_) (fun h_3 => ?_)
    · skip
      have h_3 : 0 < bs.length := (nI_ltI (show 0 < 2 ^ 31 by omega) (show bs.length < 2 ^ 31 by omega)).mp h_3
      refine am_steps_r ok_L_indexOf 4 (q' := (33, [some (.ref (2000 + i)), some (.int c), some (.int 0), some (.int (nI bs.length))], [.int (nI bs.length), .int 0, .int c, .ref (2000 + i)], wd C Y og)) rfl ?_
      refine am_callS_r (As := [.ref (2000 + i), .int c, .int 0, .int (nI bs.length)]) (rest := []) ok_L_indexOf rfl rfl ok_L_indexOfChar os_L_indexOfChar lk_8_95 rfl rfl (Nat.le_of_ble_eq_true rfl) (c_L_indexOfChar _ C Y og i co ix tx bs hi hl c) ?_
      rintro v_ w_ ⟨rfl, rfl⟩ -
      refine am_eq_r (q' := (36, [some (.ref (2000 + i)), some (.int c), some (.int 0), some (.int (nI bs.length))], [.int (ixN c.toInt8.toInt32 bs 0)], wd C Y og)) rfl ?_
      refine am_iret_r ok_L_indexOf rfl rfl rfl ?_
      first | (exfalso; simp_all; done) | (exfalso; omega) | exact ⟨rfl, rfl⟩
    · skip
      have h_3 : ¬ 0 < bs.length := fun z => h_3 ((nI_ltI (show 0 < 2 ^ 31 by omega) (show bs.length < 2 ^ 31 by omega)).mpr z)
      refine am_steps_r ok_L_indexOf 1 (q' := (28, [some (.ref (2000 + i)), some (.int c), some (.int 0), some (.int (nI bs.length))], [.int (-1)], wd C Y og)) rfl ?_
      refine am_iret_r ok_L_indexOf rfl rfl rfl ?_
      first | (exfalso; simp_all; done) | (exfalso; omega) | exact ⟨rfl, rfl⟩
  · skip
    refine am_steps_r ok_L_indexOf 1 (q' := (8, [some (.ref (2000 + i)), some (.int c), some (.int (nI 0)), some (.int (nI bs.length))], [.int (-1)], wd C Y og)) rfl ?_
    refine am_iret_r ok_L_indexOf rfl rfl rfl ?_
    first | (exfalso; simp_all; done) | (exfalso; omega) | exact ⟨rfl, rfl⟩
set_option maxHeartbeats 4000000 in
set_option maxRecDepth 100000 in
theorem c_J_indexOf2 (d : Nat) (C : wd_C) (Y : wd_Y) (og : Nat → Int64) (i co ix : Nat) (tx : String) (bs : List Int32) (hi : pr_st[i]? = some (co, ix, tx, bs)) (hl : bs.length < 1000) (h0 : 0 < bs.length) (c : Int32) (hc : (decide (0 ≤ c) && decide (c ≤ 255)) = true) : am_Mt l D cA ad fm (d + 2) m_J_indexOf2 [.ref (1000 + i), .int c, .int (nI 0)] (wd C Y og) (fun v w' => v = some (.int (ixN c.toInt8.toInt32 bs 0)) ∧ w' = wd C Y og) := by
  refine am_mt ok_J_indexOf2 (by simp [am_arg, Value.category, m_J_indexOf2, am_ml]) ?_
  refine am_eq_r (q' := (0, [some (.ref (1000 + i)), some (.int c), some (.int (nI 0))], [], wd C Y og)) rfl ?_
  refine am_steps_r ok_J_indexOf2 1 (q' := (1, [some (.ref (1000 + i)), some (.int c), some (.int (nI 0))], [.ref (1000 + i)], wd C Y og)) rfl ?_
  refine am_callV_r (As := []) (rest := []) ok_J_indexOf2 rfl rfl ok_J_isLatin1 oi_J_isLatin1 lk_7_492 (Or.inr ⟨rfl, i, _, rfl, hi⟩) rfl rfl (Nat.le_of_ble_eq_true rfl) (c_J_isLatin1 _ C Y og i co ix tx bs hi hl) ?_
  rintro v_ w_ ⟨rfl, rfl⟩ -
  refine am_eq_r (q' := (4, [some (.ref (1000 + i)), some (.int c), some (.int (nI 0))], [.int 1], wd C Y og)) rfl ?_
  refine am_steps_r ok_J_indexOf2 2 (q' := (8, [some (.ref (1000 + i)), some (.int c), some (.int (nI 0))], [.ref (1000 + i)], wd C Y og)) rfl ?_
  refine am_sval_r ok_J_indexOf2 (i := i) rfl rfl hi ?_
  refine am_steps_r ok_J_indexOf2 3 (q' := (14, [some (.ref (1000 + i)), some (.int c), some (.int (nI 0))], [.ref (1000 + i), .int (nI 0), .int c, .ref (2000 + i)], wd C Y og)) rfl ?_
  refine am_callV_r (As := []) (rest := [.int (nI 0), .int c, .ref (2000 + i)]) ok_J_indexOf2 rfl rfl ok_J_length oi_J_length lk_7_505 (Or.inr ⟨rfl, i, _, rfl, hi⟩) rfl rfl (Nat.le_of_ble_eq_true rfl) (c_J_length _ C Y og i co ix tx bs hi hl) ?_
  rintro v_ w_ ⟨rfl, rfl⟩ -
  refine am_eq_r (q' := (17, [some (.ref (1000 + i)), some (.int c), some (.int (nI 0))], [.int (nI bs.length), .int (nI 0), .int c, .ref (2000 + i)], wd C Y og)) rfl ?_
  refine am_callS_r (As := [.ref (2000 + i), .int c, .int (nI 0), .int (nI bs.length)]) (rest := []) ok_J_indexOf2 rfl rfl ok_L_indexOf os_L_indexOf lk_7_637 rfl rfl (Nat.le_of_ble_eq_true rfl) (c_L_indexOf _ C Y og i co ix tx bs hi hl h0 c hc) ?_
  rintro v_ w_ ⟨rfl, rfl⟩ -
  refine am_eq_r (q' := (20, [some (.ref (1000 + i)), some (.int c), some (.int (nI 0))], [.int (ixN c.toInt8.toInt32 bs 0)], wd C Y og)) rfl ?_
  refine am_steps_r ok_J_indexOf2 1 (q' := (36, [some (.ref (1000 + i)), some (.int c), some (.int (nI 0))], [.int (ixN c.toInt8.toInt32 bs 0)], wd C Y og)) rfl ?_
  refine am_iret_r ok_J_indexOf2 rfl rfl rfl ?_
  exact ⟨rfl, rfl⟩
set_option maxHeartbeats 4000000 in
set_option maxRecDepth 100000 in
theorem c_J_indexOf (d : Nat) (C : wd_C) (Y : wd_Y) (og : Nat → Int64) (i co ix : Nat) (tx : String) (bs : List Int32) (hi : pr_st[i]? = some (co, ix, tx, bs)) (hl : bs.length < 1000) (h0 : 0 < bs.length) (c : Int32) (hc : (decide (0 ≤ c) && decide (c ≤ 255)) = true) : am_Mt l D cA ad fm (d + 3) m_J_indexOf [.ref (1000 + i), .int c] (wd C Y og) (fun v w' => v = some (.int (ixN c.toInt8.toInt32 bs 0)) ∧ w' = wd C Y og) := by
  refine am_mt ok_J_indexOf (by simp [am_arg, Value.category, m_J_indexOf, am_ml]) ?_
  refine am_eq_r (q' := (0, [some (.ref (1000 + i)), some (.int c)], [], wd C Y og)) rfl ?_
  refine am_steps_r ok_J_indexOf 3 (q' := (3, [some (.ref (1000 + i)), some (.int c)], [.int 0, .int c, .ref (1000 + i)], wd C Y og)) rfl ?_
  refine am_callV_r (As := [.int c, .int 0]) (rest := []) ok_J_indexOf rfl rfl ok_J_indexOf2 oi_J_indexOf2 lk_7_633 (Or.inr ⟨rfl, i, _, rfl, hi⟩) rfl rfl (Nat.le_of_ble_eq_true rfl) (c_J_indexOf2 _ C Y og i co ix tx bs hi hl h0 c hc) ?_
  rintro v_ w_ ⟨rfl, rfl⟩ -
  refine am_eq_r (q' := (6, [some (.ref (1000 + i)), some (.int c)], [.int (ixN c.toInt8.toInt32 bs 0)], wd C Y og)) rfl ?_
  refine am_iret_r ok_J_indexOf rfl rfl rfl ?_
  exact ⟨rfl, rfl⟩
/-- the class's text of signs -/
def sgL : List Int32 := [40, 41, 60, 62, 91, 93, 123, 125, 47, 37]
theorem reg_all : ∀ k, k < 127 → 32 < k → ((((nI k).toUInt32 % 65536).toInt32 = nI k) ∧ (decide (0 ≤ nI k) && decide (nI k ≤ 255)) = true ∧ ((0 : Int32) ≤ ixN (nI k).toInt8.toInt32 sgL 0 ↔ isReg (nI k) = false)) := by decide +kernel
theorem reg_of {c : Int32} (h1 : ¬ c ≤ 32) (h2 : ¬ 127 ≤ c) : ∃ k, k < 127 ∧ 32 < k ∧ c = nI k := by
  have h3 : ¬ c < 0 := by
    rw [Int32.le_iff_toInt_le] at h1
    rw [Int32.lt_iff_toInt_lt]
    have e1 : (32 : Int32).toInt = 32 := by decide
    have e2 : (0 : Int32).toInt = 0 := by decide
    omega
  obtain ⟨k, hk, rfl⟩ := nI_of h3
  refine ⟨k, ?_, ?_, rfl⟩
  · have := Nat.not_le.mp (fun z => h2 ((nI_leI (a := 127) (by omega) hk).mpr z))
    exact this
  · have := Nat.not_le.mp (fun z => h1 ((nI_leI (b := 32) hk (by omega)).mpr z))
    exact this
theorem reg_lo {c : Int32} (h : c ≤ 32) : isReg c = false := by
  have : ¬ 33 ≤ c := fun z => by
    rw [Int32.le_iff_toInt_le] at h z
    have e1 : (32 : Int32).toInt = 32 := by decide
    have e2 : (33 : Int32).toInt = 33 := by decide
    omega
  simp [isReg, this]
theorem reg_hi {c : Int32} (h : 127 ≤ c) : isReg c = false := by
  have : ¬ c ≤ 126 := fun z => by
    rw [Int32.le_iff_toInt_le] at h z
    have e1 : (126 : Int32).toInt = 126 := by decide
    have e2 : (127 : Int32).toInt = 127 := by decide
    omega
  simp [isReg, this]
set_option maxHeartbeats 4000000 in
set_option maxRecDepth 100000 in
theorem c_S_isRegular (d : Nat) (C : wd_C) (Y : wd_Y) (og : Nat → Int64) (c : Int32) : am_Mt l D cA ad fm (d + 4) m_S_isRegular [.int c] (wd C Y og) (fun v w' => v = some (.int (bz (isReg c))) ∧ w' = wd C Y og) := by
  refine am_mt ok_S_isRegular (by simp [am_arg, Value.category, m_S_isRegular, am_ml]) ?_
  refine am_eq_r (q' := (0, [some (.int c)], [], wd C Y og)) rfl ?_
  refine am_steps_r ok_S_isRegular 3 (q' := (bif decide (c ≤ 32) then 26 else 6, [some (.int c)], [], wd C Y og)) rfl ?_
  refine am_br_r (fun h_1 => ?_) (fun h_1 => ?_)
  · skip
    refine am_steps_r ok_S_isRegular 1 (q' := (27, [some (.int c)], [.int 0], wd C Y og)) rfl ?_
    refine am_zret_r ok_S_isRegular rfl rfl rfl rfl ?_
    first | exact ⟨by rw [reg_lo h_1]; rfl, rfl⟩ | exact ⟨by rw [reg_hi h_2]; rfl, rfl⟩ | exact ⟨by rw [q3.mp h_3]; rfl, rfl⟩ | exact ⟨by rw [show isReg (nI k_) = true from by cases hz : isReg (nI k_) with | true => rfl | false => exact absurd (q3.mpr hz) h_3]; rfl, rfl⟩
  · skip
    refine am_steps_r ok_S_isRegular 3 (q' := (bif decide (127 ≤ c) then 26 else 12, [some (.int c)], [], wd C Y og)) rfl ?_
    refine am_br_r (fun h_2 => ?_) (fun h_2 => ?_)
    · skip
      refine am_steps_r ok_S_isRegular 1 (q' := (27, [some (.int c)], [.int 0], wd C Y og)) rfl ?_
      refine am_zret_r ok_S_isRegular rfl rfl rfl rfl ?_
      first | exact ⟨by rw [reg_lo h_1]; rfl, rfl⟩ | exact ⟨by rw [reg_hi h_2]; rfl, rfl⟩ | exact ⟨by rw [q3.mp h_3]; rfl, rfl⟩ | exact ⟨by rw [show isReg (nI k_) = true from by cases hz : isReg (nI k_) with | true => rfl | false => exact absurd (q3.mpr hz) h_3]; rfl, rfl⟩
    · skip
      refine am_steps_r ok_S_isRegular 3 (q' := (16, [some (.int c)], [.int ((c.toUInt32 % 65536).toInt32), .ref 1001], wd C Y og)) rfl ?_
      obtain ⟨k_, hk1, hk2, rfl⟩ := reg_of h_1 h_2
      obtain ⟨q1, q2, q3⟩ := reg_all k_ hk1 hk2
      rw [q1]
      refine am_callV_r (As := [.int (nI k_)]) (rest := []) ok_S_isRegular rfl rfl ok_J_indexOf oi_J_indexOf lk_5_138 (Or.inr ⟨rfl, 1, _, rfl, rfl⟩) rfl rfl (Nat.le_of_ble_eq_true rfl) (c_J_indexOf _ C Y og 1 5 136 "()<>[]{}/%" sgL rfl (by decide) (by decide) (nI k_) q2) ?_
      rintro v_ w_ ⟨rfl, rfl⟩ -
      refine am_eq_r (q' := (19, [some (.int (nI k_))], [.int (ixN (nI k_).toInt8.toInt32 sgL 0)], wd C Y og)) rfl ?_
      refine am_steps_r ok_S_isRegular 1 (q' := (bif decide (0 ≤ (ixN (nI k_).toInt8.toInt32 sgL 0)) then 26 else 22, [some (.int (nI k_))], [], wd C Y og)) rfl ?_
      refine am_br_r (fun h_3 => ?_) (fun h_3 => ?_)
      · skip
        refine am_steps_r ok_S_isRegular 1 (q' := (27, [some (.int (nI k_))], [.int 0], wd C Y og)) rfl ?_
        refine am_zret_r ok_S_isRegular rfl rfl rfl rfl ?_
        first | exact ⟨by rw [reg_lo h_1]; rfl, rfl⟩ | exact ⟨by rw [reg_hi h_2]; rfl, rfl⟩ | exact ⟨by rw [q3.mp h_3]; rfl, rfl⟩ | exact ⟨by rw [show isReg (nI k_) = true from by cases hz : isReg (nI k_) with | true => rfl | false => exact absurd (q3.mpr hz) h_3]; rfl, rfl⟩
      · skip
        refine am_steps_r ok_S_isRegular 2 (q' := (27, [some (.int (nI k_))], [.int 1], wd C Y og)) rfl ?_
        refine am_zret_r ok_S_isRegular rfl rfl rfl rfl ?_
        first | exact ⟨by rw [reg_lo h_1]; rfl, rfl⟩ | exact ⟨by rw [reg_hi h_2]; rfl, rfl⟩ | exact ⟨by rw [q3.mp h_3]; rfl, rfl⟩ | exact ⟨by rw [show isReg (nI k_) = true from by cases hz : isReg (nI k_) with | true => rfl | false => exact absurd (q3.mpr hz) h_3]; rfl, rfl⟩
end C16
