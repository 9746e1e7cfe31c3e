/-! words on the tape; its writing: printed by wip/gen/g19.py -/
def st_0 : List Int32 := [111, 98, 106]
def st_1 : List Int32 := [40, 41, 60, 62, 91, 93, 123, 125, 47, 37]
def st_2 : List Int32 := [62, 62]
def st_3 : List Int32 := [82]
def st_4 : List Int32 := [110, 117, 108, 108]
def st_5 : List Int32 := [116, 114, 117, 101]
def st_6 : List Int32 := [102, 97, 108, 115, 101]
def st_7 : List Int32 := [115, 116, 114, 101, 97, 109]
def st_8 : List Int32 := [76, 101, 110, 103, 116, 104]
def st_9 : List Int32 := [101, 110, 100, 115, 116, 114, 101, 97, 109]
def st_10 : List Int32 := [101, 110, 100, 111, 98, 106]
def st_11 : List Int32 := [116, 114, 117, 101]
def st_12 : List Int32 := [102, 97, 108, 115, 101]
def st_13 : List Int32 := [48, 49, 50, 51, 52, 53, 54, 55, 56, 57, 65, 66, 67, 68, 69, 70]
def st_14 : List Int32 := [40]
def st_15 : List Int32 := [91]
def st_16 : List Int32 := [93]
def st_17 : List Int32 := [76, 101, 110, 103, 116, 104]
def st_18 : List Int32 := [60, 60]
def st_19 : List Int32 := [47, 76, 101, 110, 103, 116, 104]
def st_20 : List Int32 := [62, 62]
def st_21 : List Int32 := [32, 82]
def st_22 : List Int32 := [10, 115, 116, 114, 101, 97, 109, 10]
def st_23 : List Int32 := [10, 101, 110, 100, 115, 116, 114, 101, 97, 109]
def st_24 : List Int32 := [110, 117, 108, 108]
def st_25 : List Int32 := [32, 111, 98, 106, 10]
def st_26 : List Int32 := [10, 101, 110, 100, 111, 98, 106, 10]
section C19
variable {l : Launch} {D : va_G} {cA : Nat → ClassId} {ad : Nat → Nat} {fm : Value}
set_option maxHeartbeats 4000000 in
set_option maxRecDepth 100000 in
theorem c_T_wordStands (d : Nat) (C : wd_C) (Y : wd_Y) (og : Nat → Int64) (n : Nat) (b : Nat → Int32) (hT : tpC C n b) (i co ix : Nat) (tx : String) (bs : List Int32) (hi : pr_st[i]? = some (co, ix, tx, bs)) (hl : bs.length < 1000) (hfm : fm = .null ∨ fm = .ref 3000) (k : Nat) (hk : k < 1073740000) : am_Mt l D cA ad fm (d + 5) m_T_wordStands [.ref 1, .int (nI k), .ref (1000 + i)] (wd C Y og) (fun v w' => v = some (.int (bz (wdA b bs k))) ∧ w' = wd C Y og) := by
  refine am_mt ok_T_wordStands (by simp [am_arg, Value.category, m_T_wordStands, am_ml]) ?_
  refine am_eq_r (q' := (0, [some (.ref 1), some (.int (nI k)), some (.ref (1000 + i))], [], wd C Y og)) rfl ?_
  refine am_steps_r ok_T_wordStands 3 (q' := (3, [some (.ref 1), some (.int (nI k)), some (.ref (1000 + i))], [.ref (1000 + i), .int (nI k), .ref 1], wd C Y og)) rfl ?_
  refine am_callV_r (As := [.int (nI k), .ref (1000 + i)]) (rest := []) ok_T_wordStands rfl rfl ok_T_textStands oi_T_textStands lk_2_43 (Or.inl ⟨_, _, _, rfl, rfl, rfl⟩) rfl rfl (Nat.le_of_ble_eq_true rfl) (c_T_textStands _ C Y og n b hT i co ix tx bs hi hl hfm k (by omega)) ?_
  rintro v_ w_ ⟨rfl, rfl⟩ -
  refine am_eq_r (q' := (6, [some (.ref 1), some (.int (nI k)), some (.ref (1000 + i))], [.int (bz (txA b bs k))], wd C Y og)) rfl ?_
  refine am_steps_r ok_T_wordStands 1 (q' := (bif decide ((bz (txA b bs k)) = 0) then 29 else 9, [some (.ref 1), some (.int (nI k)), some (.ref (1000 + i))], [], wd C Y og)) rfl ?_
  refine am_bz_r (fun h_2 => ?_) (fun h_2 => ?_)
  · skip
    refine am_steps_r ok_T_wordStands 3 (q' := (12, [some (.ref 1), some (.int (nI k)), some (.ref (1000 + i))], [.ref (1000 + i), .int (nI k), .ref 1], wd C Y og)) rfl ?_
    refine am_callV_r (As := []) (rest := [.int (nI k), .ref 1]) ok_T_wordStands rfl rfl ok_J_length oi_J_length lk_2_33 (Or.inr ⟨rfl, i, _, rfl, hi⟩) rfl rfl (Nat.le_of_ble_eq_true rfl) (c_J_length _ C Y og i co ix tx bs hi hl) ?_
    rintro v_ w_ ⟨rfl, rfl⟩ -
    refine am_eq_r (q' := (15, [some (.ref 1), some (.int (nI k)), some (.ref (1000 + i))], [.int (nI bs.length), .int (nI k), .ref 1], wd C Y og)) rfl ?_
    refine am_steps_r ok_T_wordStands 1 (q' := (16, [some (.ref 1), some (.int (nI k)), some (.ref (1000 + i))], [.int ((nI k) + (nI bs.length)), .ref 1], wd C Y og)) rfl ?_
    rw [show ((nI k) + (nI bs.length) : Int32) = nI (k + bs.length) from nI_add k bs.length]
    refine am_callV_r (As := [.int (nI (k + bs.length))]) (rest := []) ok_T_wordStands rfl rfl ok_T_at oi_T_at lk_2_19 (Or.inl ⟨_, _, _, rfl, rfl, rfl⟩) rfl rfl (Nat.le_of_ble_eq_true rfl) (c_T_at _ C Y og n b hT (k + bs.length) (by omega)) ?_
    rintro v_ w_ ⟨rfl, rfl⟩ -
    refine am_eq_r (q' := (19, [some (.ref 1), some (.int (nI k)), some (.ref (1000 + i))], [.int (b (k + bs.length))], wd C Y og)) rfl ?_
    refine am_callN_r (As := [.int (b (k + bs.length))]) (rest := []) ok_T_wordStands rfl rfl ok_S_isRegular os_S_isRegular ln_2_30 rfl rfl (Nat.le_of_ble_eq_true rfl) (c_S_isRegular _ C Y og (b (k + bs.length))) ?_
    rintro v_ w_ ⟨rfl, rfl⟩ -
    refine am_eq_r (q' := (22, [some (.ref 1), some (.int (nI k)), some (.ref (1000 + i))], [.int (bz (isReg (b (k + bs.length))))], wd C Y og)) rfl ?_
    refine am_steps_r ok_T_wordStands 1 (q' := (bif decide ((bz (isReg (b (k + bs.length)))) = 0) then 25 else 29, [some (.ref 1), some (.int (nI k)), some (.ref (1000 + i))], [], wd C Y og)) rfl ?_
    refine am_bz_r (fun h_6 => ?_) (fun h_6 => ?_)
    · skip
      refine am_steps_r ok_T_wordStands 1 (q' := (30, [some (.ref 1), some (.int (nI k)), some (.ref (1000 + i))], [.int 0], wd C Y og)) rfl ?_
      refine am_zret_r ok_T_wordStands rfl rfl rfl rfl ?_
      refine ⟨?_, rfl⟩
      simp_all [wdA, bz]
    · skip
      refine am_steps_r ok_T_wordStands 2 (q' := (30, [some (.ref 1), some (.int (nI k)), some (.ref (1000 + i))], [.int 1], wd C Y og)) rfl ?_
      refine am_zret_r ok_T_wordStands rfl rfl rfl rfl ?_
      refine ⟨?_, rfl⟩
      simp_all [wdA, bz]
  · skip
    refine am_steps_r ok_T_wordStands 1 (q' := (30, [some (.ref 1), some (.int (nI k)), some (.ref (1000 + i))], [.int 0], wd C Y og)) rfl ?_
    refine am_zret_r ok_T_wordStands rfl rfl rfl rfl ?_
    refine ⟨?_, rfl⟩
    simp_all [wdA, bz]
set_option maxHeartbeats 4000000 in
set_option maxRecDepth 100000 in
theorem lp_T_firstText_2 (d : Nat) (C : wd_C) (Y : wd_Y) (og : Nat → Int64) (n : Nat) (b : Nat → Int32) (hT : tpC C n b) (i co ix : Nat) (tx : String) (bs : List Int32) (hi : pr_st[i]? = some (co, ix, tx, bs)) (hl : bs.length < 1000) (hfm : fm = .null ∨ fm = .ref 3000) (k : Nat) : ∀ (fu : Nat) (post : Option Value → am_W → Prop) (j : Nat), (j ≤ n) →  post (some (.int (oN (txF b bs (n - j) j)))) (wd C Y og) → n - j < fu → am_Rn l D cA ad fm (d + 5) m_T_firstText (wd C Y og).length post (2, [some (.ref 1), some (.int (nI k)), some (.ref (1000 + i)), some (.int (nI j))], [], wd C Y og) := by
  intro fu
  induction fu with
  | zero => intro post j hj hp hfu; exact absurd hfu (Nat.not_lt_zero _)
  | succ fu ih =>
    intro post j hj hp hfu
    have hn := hT.2.1
    refine am_steps_r ok_T_firstText 4 (q' := (bif decide ((C.1 0) ≤ (nI j)) then 27 else 10, [some (.ref 1), some (.int (nI k)), some (.ref (1000 + i)), some (.int (nI j))], [], wd C Y og)) rfl ?_
    rw [show (C.1 0 : Int32) = nI n from hT.1]
    refine am_br_r (fun h_1 => ?_) (fun h_1 => ?_)
    · skip
      have h_1 : n ≤ j := (nI_leI (show n < 2 ^ 31 by omega) (show j < 2 ^ 31 by omega)).mp h_1
      refine am_steps_r ok_T_firstText 1 (q' := (28, [some (.ref 1), some (.int (nI k)), some (.ref (1000 + i)), some (.int (nI j))], [.int (-1)], wd C Y og)) rfl ?_
      refine am_iret_r ok_T_firstText rfl rfl rfl ?_
      rw [show n - j = 0 by omega, txF] at hp
      exact hp
    · skip
      have h_1 : ¬ n ≤ j := fun z => h_1 ((nI_leI (show n < 2 ^ 31 by omega) (show j < 2 ^ 31 by omega)).mpr z)
      refine am_steps_r ok_T_firstText 3 (q' := (13, [some (.ref 1), some (.int (nI k)), some (.ref (1000 + i)), some (.int (nI j))], [.ref (1000 + i), .int (nI j), .ref 1], wd C Y og)) rfl ?_
      refine am_callV_r (As := [.int (nI j), .ref (1000 + i)]) (rest := []) ok_T_firstText rfl rfl ok_T_textStands oi_T_textStands lk_2_43 (Or.inl ⟨_, _, _, rfl, rfl, rfl⟩) rfl rfl (Nat.le_of_ble_eq_true rfl) (c_T_textStands _ C Y og n b hT i co ix tx bs hi hl hfm j (by omega)) ?_
      rintro v_ w_ ⟨rfl, rfl⟩ -
      refine am_eq_r (q' := (16, [some (.ref 1), some (.int (nI k)), some (.ref (1000 + i)), some (.int (nI j))], [.int (bz (txA b bs j))], wd C Y og)) rfl ?_
      refine am_steps_r ok_T_firstText 1 (q' := (bif decide ((bz (txA b bs j)) = 0) then 21 else 19, [some (.ref 1), some (.int (nI k)), some (.ref (1000 + i)), some (.int (nI j))], [], wd C Y og)) rfl ?_
      refine am_bz_r (fun h_3 => ?_) (fun h_3 => ?_)
      · skip
        refine am_steps_r ok_T_firstText 1 (q' := (20, [some (.ref 1), some (.int (nI k)), some (.ref (1000 + i)), some (.int (nI j))], [.int (nI j)], wd C Y og)) rfl ?_
        refine am_iret_r ok_T_firstText rfl rfl rfl ?_
        rw [show n - j = (n - (j + 1)) + 1 by omega, txF, if_pos h_3] at hp
        exact hp
      · skip
        refine am_steps_r ok_T_firstText 2 (q' := (2, [some (.ref 1), some (.int (nI k)), some (.ref (1000 + i)), some (.int ((nI j) + 1))], [], wd C Y og)) rfl ?_
        rw [show ((nI j) + 1 : Int32) = nI (j + 1) from nI_add j 1]
        refine ih post (j + 1) (by omega) ?_ (by omega)
        rw [show n - j = (n - (j + 1)) + 1 by omega, txF, if_neg (by rw [h_3]; decide)] at hp
        exact hp
set_option maxHeartbeats 4000000 in
set_option maxRecDepth 100000 in
theorem c_T_firstText (d : Nat) (C : wd_C) (Y : wd_Y) (og : Nat → Int64) (n : Nat) (b : Nat → Int32) (hT : tpC C n b) (i co ix : Nat) (tx : String) (bs : List Int32) (hi : pr_st[i]? = some (co, ix, tx, bs)) (hl : bs.length < 1000) (hfm : fm = .null ∨ fm = .ref 3000) (k : Nat) (hk : k ≤ n) : am_Mt l D cA ad fm (d + 5) m_T_firstText [.ref 1, .int (nI k), .ref (1000 + i)] (wd C Y og) (fun v w' => v = some (.int (oN (txF b bs (n - k) k))) ∧ w' = wd C Y og) := by
  refine am_mt ok_T_firstText (by simp [am_arg, Value.category, m_T_firstText, am_ml]) ?_
  refine am_eq_r (q' := (0, [some (.ref 1), some (.int (nI k)), some (.ref (1000 + i)), none], [], wd C Y og)) rfl ?_
  refine am_steps_r ok_T_firstText 2 (q' := (2, [some (.ref 1), some (.int (nI k)), some (.ref (1000 + i)), some (.int (nI k))], [], wd C Y og)) rfl ?_
  exact lp_T_firstText_2 d C Y og n b hT i co ix tx bs hi hl hfm k (n + 1) _ k hk ⟨rfl, rfl⟩ (by omega)
set_option maxHeartbeats 4000000 in
set_option maxRecDepth 100000 in
theorem c_T_clear (d : Nat) (C : wd_C) (Y : wd_Y) (og : Nat → Int64)  : am_Mt l D cA ad fm (d + 0) m_T_clear [.ref 1] (wd C Y og) (fun v w' => v = none ∧ w' = wd (upd C.1 0 0, C.2) Y og) := by
  refine am_mt ok_T_clear (by simp [am_arg, Value.category, m_T_clear, am_ml]) ?_
  refine am_eq_r (q' := (0, [some (.ref 1)], [], wd C Y og)) rfl ?_
  refine am_steps_r ok_T_clear 3 (q' := (5, [some (.ref 1)], [], wd (upd C.1 0 0, C.2) Y og)) rfl ?_
  refine am_vret_r ok_T_clear rfl rfl rfl ?_
  exact ⟨rfl, rfl⟩
set_option maxHeartbeats 4000000 in
set_option maxRecDepth 100000 in
theorem c_T_add (d : Nat) (C : wd_C) (Y : wd_Y) (og : Nat → Int64) (n : Nat) (hn0 : C.1 0 = nI n) (hn : n < 1600) (x : Int32) : am_Mt l D cA ad fm (d + 0) m_T_add [.ref 1, .int x] (wd C Y og) (fun v w' => v = none ∧ w' = wd (upd C.1 0 (nI (n + 1)), wd_u C.2.1 0 (upd (C.2.1 0) n (vp_nar .byte x.toInt8.toInt32)), C.2.2) Y og) := by
  refine am_mt ok_T_add (by simp [am_arg, Value.category, m_T_add, am_ml]) ?_
  refine am_eq_r (q' := (0, [some (.ref 1), some (.int x)], [], wd C Y og)) rfl ?_
  refine am_steps_r ok_T_add 4 (q' := (bif decide (1600 ≤ (C.1 0)) then 31 else 10, [some (.ref 1), some (.int x)], [], wd C Y og)) rfl ?_
  rw [show (C.1 0 : Int32) = nI n from hn0]
  refine am_br_r (fun h_1 => ?_) (fun h_1 => ?_)
  · skip
    have h_1 : 1600 ≤ n := (nI_leI (show 1600 < 2 ^ 31 by omega) (show n < 2 ^ 31 by omega)).mp h_1
    refine am_vret_r ok_T_add rfl rfl rfl ?_
    first | (exfalso; omega) | exact ⟨rfl, rfl⟩
  · skip
    have h_1 : ¬ 1600 ≤ n := fun z => h_1 ((nI_leI (show 1600 < 2 ^ 31 by omega) (show n < 2 ^ 31 by omega)).mpr z)
    refine am_steps_r ok_T_add 6 (q' := (20, [some (.ref 1), some (.int x)], [.int x.toInt8.toInt32, .int (C.1 0), .ref 2], wd C Y og)) rfl ?_
    rw [show (C.1 0 : Int32) = nI n from hn0]
    refine am_bast_r ok_T_add rfl (w := wd C Y og) (f := C.2.1 0) rfl rfl (pk_in n 1600 (by omega)) ?_
    rw [nI_clamp (show n < 2 ^ 31 by omega)]
    refine am_eq_r (q' := (21, [some (.ref 1), some (.int x)], [], wd (C.1, wd_u C.2.1 0 (upd (C.2.1 0) n (vp_nar .byte x.toInt8.toInt32)), C.2.2) Y og)) rfl ?_
    refine am_steps_r ok_T_add 6 (q' := (31, [some (.ref 1), some (.int x)], [], wd (upd C.1 0 ((C.1 0) + 1), wd_u C.2.1 0 (upd (C.2.1 0) n (vp_nar .byte x.toInt8.toInt32)), C.2.2) Y og)) rfl ?_
    rw [show (C.1 0 : Int32) = nI n from hn0]
    rw [show ((nI n) + 1 : Int32) = nI (n + 1) from nI_add n 1]
    refine am_vret_r ok_T_add rfl rfl rfl ?_
    first | (exfalso; omega) | exact ⟨rfl, rfl⟩
end C19
