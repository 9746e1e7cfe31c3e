/-! numbers and heads on the reference's tape, printed by wip/gen/g23.py -/
/-- where the third word stands behind two words of figures -/
def thW (n : Nat) (b : Nat → Int32) (k : Nat) : Option Nat :=
  if isFgs n b k = true then
    if skW n b (wEnd n b k) = wEnd n b k then none
    else if isFgs n b (skW n b (wEnd n b k)) = true then
      if skW n b (wEnd n b (skW n b (wEnd n b k))) = wEnd n b (skW n b (wEnd n b k)) then none else some (skW n b (wEnd n b (skW n b (wEnd n b k))))
    else none
  else none
section C23
variable {l : Launch} {D : va_G} {cA : Nat → ClassId} {ad : Nat → Nat} {fm : Value}
set_option maxHeartbeats 4000000 in
set_option maxRecDepth 100000 in
theorem lp_M_isFigures_8 (d : Nat) (C : wd_C) (Y : wd_Y) (og : Nat → Int64) (n : Nat) (b : Nat → Int32) (hT : tpY Y n b) (k : Nat) (hk : k ≤ n) : ∀ (fu : Nat) (post : Option Value → am_W → Prop) (j : Nat), (k ≤ j) → (j ≤ wEnd n b k) →  post (some (.int (bz (allF b (wEnd n b k - j) j && (decide (k < wEnd n b k) && decide (wEnd n b k - k < 10)))))) (wd C Y og) → wEnd n b k - j < fu → am_Rn l D cA ad fm (d + 3) m_M_isFigures (wd C Y og).length post (8, [some (.ref 19), some (.int (nI k)), some (.int (nI (wEnd n b k))), some (.int (nI j))], [], wd C Y og) := by
  intro fu
  induction fu with
  | zero => intro post j hj hj2 hp hfu; exact absurd hfu (Nat.not_lt_zero _)
  | succ fu ih =>
    intro post j hj hj2 hp hfu
    have hn := hT.2.1
    have hw := wEnd_le n b hk
    refine am_steps_r ok_M_isFigures 3 (q' := (bif decide ((nI (wEnd n b k)) ≤ (nI j)) then 33 else 13, [some (.ref 19), some (.int (nI k)), some (.int (nI (wEnd n b k))), some (.int (nI j))], [], wd C Y og)) rfl ?_
    refine am_br_r (fun h_1 => ?_) (fun h_1 => ?_)
    · skip
      have h_1 : (wEnd n b k) ≤ j := (nI_leI (show (wEnd n b k) < 2 ^ 31 by omega) (show j < 2 ^ 31 by omega)).mp h_1
      refine am_steps_r ok_M_isFigures 3 (q' := (bif decide ((nI (wEnd n b k)) ≤ (nI k)) then 50 else 38, [some (.ref 19), some (.int (nI k)), some (.int (nI (wEnd n b k))), some (.int (nI j))], [], wd C Y og)) rfl ?_
      refine am_br_r (fun h_2 => ?_) (fun h_2 => ?_)
      · skip
        have h_2 : (wEnd n b k) ≤ k := (nI_leI (show (wEnd n b k) < 2 ^ 31 by omega) (show k < 2 ^ 31 by omega)).mp h_2
        refine am_steps_r ok_M_isFigures 1 (q' := (51, [some (.ref 19), some (.int (nI k)), some (.int (nI (wEnd n b k))), some (.int (nI j))], [.int 0], wd C Y og)) rfl ?_
        refine am_zret_r ok_M_isFigures rfl rfl rfl rfl ?_
        rw [show wEnd n b k - j = 0 by omega, allF, Bool.true_and] at hp
        rw [show (decide (k < wEnd n b k) && decide (wEnd n b k - k < 10)) = false from by first | (simp only [Bool.and_eq_true, decide_eq_true_eq]; omega) | (rw [Bool.and_eq_false_iff]; simp only [decide_eq_false_iff_not]; omega)] at hp
        exact hp
      · skip
        have h_2 : ¬ (wEnd n b k) ≤ k := fun z => h_2 ((nI_leI (show (wEnd n b k) < 2 ^ 31 by omega) (show k < 2 ^ 31 by omega)).mpr z)
        refine am_steps_r ok_M_isFigures 5 (q' := (bif decide (10 ≤ ((nI (wEnd n b k)) - (nI k))) then 50 else 46, [some (.ref 19), some (.int (nI k)), some (.int (nI (wEnd n b k))), some (.int (nI j))], [], wd C Y og)) rfl ?_
        rw [show ((nI (wEnd n b k)) - (nI k) : Int32) = nI ((wEnd n b k) - k) from pk_sub (a := (wEnd n b k)) (b := k) (by omega)]
        refine am_br_r (fun h_3 => ?_) (fun h_3 => ?_)
        · skip
          have h_3 : 10 ≤ ((wEnd n b k) - k) := (nI_leI (show 10 < 2 ^ 31 by omega) (show ((wEnd n b k) - k) < 2 ^ 31 by omega)).mp h_3
          refine am_steps_r ok_M_isFigures 1 (q' := (51, [some (.ref 19), some (.int (nI k)), some (.int (nI (wEnd n b k))), some (.int (nI j))], [.int 0], wd C Y og)) rfl ?_
          refine am_zret_r ok_M_isFigures rfl rfl rfl rfl ?_
          rw [show wEnd n b k - j = 0 by omega, allF, Bool.true_and] at hp
          rw [show (decide (k < wEnd n b k) && decide (wEnd n b k - k < 10)) = false from by first | (simp only [Bool.and_eq_true, decide_eq_true_eq]; omega) | (rw [Bool.and_eq_false_iff]; simp only [decide_eq_false_iff_not]; omega)] at hp
          exact hp
        · skip
          have h_3 : ¬ 10 ≤ ((wEnd n b k) - k) := fun z => h_3 ((nI_leI (show 10 < 2 ^ 31 by omega) (show ((wEnd n b k) - k) < 2 ^ 31 by omega)).mpr z)
          refine am_steps_r ok_M_isFigures 2 (q' := (51, [some (.ref 19), some (.int (nI k)), some (.int (nI (wEnd n b k))), some (.int (nI j))], [.int 1], wd C Y og)) rfl ?_
          refine am_zret_r ok_M_isFigures rfl rfl rfl rfl ?_
          rw [show wEnd n b k - j = 0 by omega, allF, Bool.true_and] at hp
          rw [show (decide (k < wEnd n b k) && decide (wEnd n b k - k < 10)) = true from by first | (simp only [Bool.and_eq_true, decide_eq_true_eq]; omega) | (rw [Bool.and_eq_false_iff]; simp only [decide_eq_false_iff_not]; omega)] at hp
          exact hp
    · skip
      have h_1 : ¬ (wEnd n b k) ≤ j := fun z => h_1 ((nI_leI (show (wEnd n b k) < 2 ^ 31 by omega) (show j < 2 ^ 31 by omega)).mpr z)
      refine am_steps_r ok_M_isFigures 3 (q' := (18, [some (.ref 19), some (.int (nI k)), some (.int (nI (wEnd n b k))), some (.int (nI j))], [.int (nI j), .ref 20], wd C Y og)) rfl ?_
      refine am_iald_r ok_M_isFigures rfl (w := wd C Y og) (f := Y.2.1 0) rfl rfl (pk_in j 1600 (by omega)) ?_
      rw [nI_clamp (show j < 2 ^ 31 by omega)]
      refine am_callS_r (As := [.int (Y.2.1 0 j)]) (rest := []) ok_M_isFigures rfl rfl ok_M_isFigure os_M_isFigure lk_6_73 rfl rfl (Nat.le_of_ble_eq_true rfl) (c_M_isFigure _ C Y og (Y.2.1 0 j)) ?_
      rintro v_ w_ ⟨rfl, rfl⟩ -
      refine am_eq_r (q' := (22, [some (.ref 19), some (.int (nI k)), some (.int (nI (wEnd n b k))), some (.int (nI j))], [.int (bz (isFig (Y.2.1 0 j)))], wd C Y og)) rfl ?_
      refine am_steps_r ok_M_isFigures 1 (q' := (bif decide ((bz (isFig (Y.2.1 0 j))) = 0) then 25 else 27, [some (.ref 19), some (.int (nI k)), some (.int (nI (wEnd n b k))), some (.int (nI j))], [], wd C Y og)) rfl ?_
      refine am_bz_r (fun h_5 => ?_) (fun h_5 => ?_)
      · skip
        refine am_steps_r ok_M_isFigures 2 (q' := (8, [some (.ref 19), some (.int (nI k)), some (.int (nI (wEnd n b k))), some (.int ((nI j) + 1))], [], wd C Y og)) rfl ?_
        rw [show ((nI j) + 1 : Int32) = nI (j + 1) from nI_add j 1]
        refine ih post (j + 1) (by omega) (by omega) ?_ (by omega)
        rw [hT.2.2.1 j (by omega)] at h_5
        rw [show wEnd n b k - j = (wEnd n b k - (j + 1)) + 1 by omega, allF, h_5, Bool.true_and] at hp
        exact hp
      · skip
        refine am_steps_r ok_M_isFigures 1 (q' := (26, [some (.ref 19), some (.int (nI k)), some (.int (nI (wEnd n b k))), some (.int (nI j))], [.int 0], wd C Y og)) rfl ?_
        refine am_zret_r ok_M_isFigures rfl rfl rfl rfl ?_
        rw [hT.2.2.1 j (by omega)] at h_5
        rw [show wEnd n b k - j = (wEnd n b k - (j + 1)) + 1 by omega, allF, h_5, Bool.false_and] at hp
        exact hp
set_option maxHeartbeats 4000000 in
set_option maxRecDepth 100000 in
theorem c_M_isFigures (d : Nat) (C : wd_C) (Y : wd_Y) (og : Nat → Int64) (n : Nat) (b : Nat → Int32) (hT : tpY Y n b) (k : Nat) (hk : k ≤ n) : am_Mt l D cA ad fm (d + 3) m_M_isFigures [.ref 19, .int (nI k)] (wd C Y og) (fun v w' => v = some (.int (bz (isFgs n b k))) ∧ w' = wd C Y og) := by
  refine am_mt ok_M_isFigures (by simp [am_arg, Value.category, m_M_isFigures, am_ml]) ?_
  refine am_eq_r (q' := (0, [some (.ref 19), some (.int (nI k)), none, none], [], wd C Y og)) rfl ?_
  refine am_steps_r ok_M_isFigures 2 (q' := (2, [some (.ref 19), some (.int (nI k)), none, none], [.int (nI k), .ref 19], wd C Y og)) rfl ?_
  refine am_callV_r (As := [.int (nI k)]) (rest := []) ok_M_isFigures rfl rfl ok_M_behindWord oi_M_behindWord lk_6_117 (Or.inl ⟨_, _, _, rfl, rfl, rfl⟩) rfl rfl (Nat.le_of_ble_eq_true rfl) (c_M_behindWord _ C Y og n b hT k (by omega)) ?_
  rintro v_ w_ ⟨rfl, rfl⟩ -
  refine am_eq_r (q' := (5, [some (.ref 19), some (.int (nI k)), none, none], [.int (nI (wEnd n b k))], wd C Y og)) rfl ?_
  refine am_steps_r ok_M_isFigures 3 (q' := (8, [some (.ref 19), some (.int (nI k)), some (.int (nI (wEnd n b k))), some (.int (nI k))], [], wd C Y og)) rfl ?_
  exact lp_M_isFigures_8 d C Y og n b hT k hk (n + 1) _ k (Nat.le_refl _) (wEnd_le n b hk).1 ⟨rfl, rfl⟩ (by have := wEnd_le n b hk; omega)
set_option maxHeartbeats 4000000 in
set_option maxRecDepth 100000 in
theorem lp_M_figuresAt_5 (d : Nat) (C : wd_C) (Y : wd_Y) (og : Nat → Int64) (n : Nat) (b : Nat → Int32) (hT : tpY Y n b) (k m : Nat) (hk : k + m ≤ n) (hall : ∀ j, k ≤ j → j < k + m → isFig (b j) = true) (hno : isFig (b (k + m)) = false) : ∀ (fu : Nat) (post : Option Value → am_W → Prop) (i : Nat), (i ≤ m) →  post (some (.long (lN (fgV b k m)))) (wd C Y og) → m - i < fu → am_Rn l D cA ad fm (d + 1) m_M_figuresAt (wd C Y og).length post (5, [some (.ref 19), some (.int (nI k)), some (.long (lN (fgV b k i))), none, some (.int (nI (k + i)))], [], wd C Y og) := by
  intro fu
  induction fu with
  | zero => intro post i hi hp hfu; exact absurd hfu (Nat.not_lt_zero _)
  | succ fu ih =>
    intro post i hi hp hfu
    have hn := hT.2.1
    refine am_steps_r ok_M_figuresAt 2 (q' := (8, [some (.ref 19), some (.int (nI k)), some (.long (lN (fgV b k i))), none, some (.int (nI (k + i)))], [.int (nI (k + i)), .ref 19], wd C Y og)) rfl ?_
    refine am_callV_r (As := [.int (nI (k + i))]) (rest := []) ok_M_figuresAt rfl rfl ok_M_byteAt oi_M_byteAt lk_6_78 (Or.inl ⟨_, _, _, rfl, rfl, rfl⟩) rfl rfl (Nat.le_of_ble_eq_true rfl) (c_M_byteAt _ C Y og n b hT (k + i) (by omega)) ?_
    rintro v_ w_ ⟨rfl, rfl⟩ -
    refine am_eq_r (q' := (11, [some (.ref 19), some (.int (nI k)), some (.long (lN (fgV b k i))), none, some (.int (nI (k + i)))], [.int (b (k + i))], wd C Y og)) rfl ?_
    refine am_callS_r (As := [.int (b (k + i))]) (rest := []) ok_M_figuresAt rfl rfl ok_M_isFigure os_M_isFigure lk_6_73 rfl rfl (Nat.le_of_ble_eq_true rfl) (c_M_isFigure _ C Y og (b (k + i))) ?_
    rintro v_ w_ ⟨rfl, rfl⟩ -
    refine am_eq_r (q' := (14, [some (.ref 19), some (.int (nI k)), some (.long (lN (fgV b k i))), none, some (.int (nI (k + i)))], [.int (bz (isFig (b (k + i))))], wd C Y og)) rfl ?_
    refine am_steps_r ok_M_figuresAt 1 (q' := (bif decide ((bz (isFig (b (k + i)))) = 0) then 42 else 17, [some (.ref 19), some (.int (nI k)), some (.long (lN (fgV b k i))), none, some (.int (nI (k + i)))], [], wd C Y og)) rfl ?_
    refine am_bz_r (fun h_3 => ?_) (fun h_3 => ?_)
    · skip
      have hi2 : i < m := by rcases Nat.lt_or_ge i m with h | h; exact h; exfalso; rw [show i = m by omega, hno] at h_3; cases h_3
      refine am_steps_r ok_M_figuresAt 6 (q' := (28, [some (.ref 19), some (.int (nI k)), some (.long (lN (fgV b k i))), none, some (.int (nI (k + i)))], [.int (nI (k + i)), .ref 20, .long (10 * (lN (fgV b k i)))], wd C Y og)) rfl ?_
      refine am_iald_r ok_M_figuresAt rfl (w := wd C Y og) (f := Y.2.1 0) rfl rfl (pk_in (k + i) 1600 (by omega)) ?_
      rw [nI_clamp (show (k + i) < 2 ^ 31 by omega)]
      refine am_steps_r ok_M_figuresAt 7 (q' := (5, [some (.ref 19), some (.int (nI k)), some (.long (((10 * (lN (fgV b k i))) + (Y.2.1 0 (k + i)).toInt64) - 48)), none, some (.int ((nI (k + i)) + 1))], [], wd C Y og)) rfl ?_
      rw [show ((nI (k + i)) + 1 : Int32) = nI ((k + i) + 1) from nI_add (k + i) 1]
      obtain ⟨x, x1, x2, x3⟩ := isFig_nI h_3
      have e : (10 : Int64) * lN (fgV b k i) + (Y.2.1 0 (k + i)).toInt64 - 48 = lN (fgV b k (i + 1)) := by
        rw [hT.2.2.1 (k + i) (by omega), x3, nI_l (by omega), show (10 : Int64) = lN 10 from rfl, lN_mul, lN_add, show (48 : Int64) = lN 48 from rfl, lN_sub (by omega), fgV, x3, nI_clamp (by omega)]
        congr 1
        omega
      rw [e]
      exact ih post (i + 1) hi2 hp (by omega)
    · skip
      refine am_steps_r ok_M_figuresAt 1 (q' := (43, [some (.ref 19), some (.int (nI k)), some (.long (lN (fgV b k i))), none, some (.int (nI (k + i)))], [.long (lN (fgV b k i))], wd C Y og)) rfl ?_
      refine am_lret_r ok_M_figuresAt rfl rfl rfl ?_
      have hi2 : i = m := by
        rcases Nat.lt_or_ge i m with h | h
        · exfalso; rw [hall (k + i) (by omega) (by omega)] at h_3; cases h_3
        · omega
      subst hi2
      exact hp
set_option maxHeartbeats 4000000 in
set_option maxRecDepth 100000 in
theorem c_M_figuresAt (d : Nat) (C : wd_C) (Y : wd_Y) (og : Nat → Int64) (n : Nat) (b : Nat → Int32) (hT : tpY Y n b) (k m : Nat) (hk : k + m ≤ n) (hall : ∀ j, k ≤ j → j < k + m → isFig (b j) = true) (hno : isFig (b (k + m)) = false) : am_Mt l D cA ad fm (d + 1) m_M_figuresAt [.ref 19, .int (nI k)] (wd C Y og) (fun v w' => v = some (.long (lN (fgV b k m))) ∧ w' = wd C Y og) := by
  refine am_mt ok_M_figuresAt (by simp [am_arg, Value.category, m_M_figuresAt, am_ml]) ?_
  refine am_eq_r (q' := (0, [some (.ref 19), some (.int (nI k)), none, none, none], [], wd C Y og)) rfl ?_
  refine am_steps_r ok_M_figuresAt 4 (q' := (5, [some (.ref 19), some (.int (nI k)), some (.long 0), none, some (.int (nI k))], [], wd C Y og)) rfl ?_
  refine am_eq_r (q' := (5, [some (.ref 19), some (.int (nI k)), some (.long (lN (fgV b k 0))), none, some (.int (nI (k + 0)))], [], wd C Y og)) rfl ?_
  exact lp_M_figuresAt_5 d C Y og n b hT k m hk hall hno (m + 1) _ 0 (Nat.zero_le _) ⟨rfl, rfl⟩ (by omega)
set_option maxHeartbeats 4000000 in
set_option maxRecDepth 100000 in
theorem c_M_thirdWord (d : Nat) (C : wd_C) (Y : wd_Y) (og : Nat → Int64) (n : Nat) (b : Nat → Int32) (hT : tpY Y n b) (k : Nat) (hk : k ≤ n) : am_Mt l D cA ad fm (d + 4) m_M_thirdWord [.ref 19, .int (nI k)] (wd C Y og) (fun v w' => v = some (.int (oN (thW n b k))) ∧ w' = wd C Y og) := by
  have hn := hT.2.1
  have w1 := wEnd_le n b hk
  have w2 := skW_le n b w1.2
  have w3 := wEnd_le n b w2.2
  have w4 := skW_le n b w3.2
  refine am_mt ok_M_thirdWord (by simp [am_arg, Value.category, m_M_thirdWord, am_ml]) ?_
  refine am_eq_r (q' := (0, [some (.ref 19), some (.int (nI k)), none, none], [], wd C Y og)) rfl ?_
  refine am_steps_r ok_M_thirdWord 2 (q' := (2, [some (.ref 19), some (.int (nI k)), none, none], [.int (nI k), .ref 19], wd C Y og)) rfl ?_
  refine am_callV_r (As := [.int (nI k)]) (rest := []) ok_M_thirdWord rfl rfl ok_M_isFigures oi_M_isFigures lk_6_124 (Or.inl ⟨_, _, _, rfl, rfl, rfl⟩) rfl rfl (Nat.le_of_ble_eq_true rfl) (c_M_isFigures _ C Y og n b hT k (by omega)) ?_
  rintro v_ w_ ⟨rfl, rfl⟩ -
  refine am_eq_r (q' := (5, [some (.ref 19), some (.int (nI k)), none, none], [.int (bz (isFgs n b k))], wd C Y og)) rfl ?_
  refine am_steps_r ok_M_thirdWord 1 (q' := (bif decide ((bz (isFgs n b k)) = 0) then 8 else 10, [some (.ref 19), some (.int (nI k)), none, none], [], wd C Y og)) rfl ?_
  refine am_bz_r (fun h_2 => ?_) (fun h_2 => ?_)
  · skip
    refine am_steps_r ok_M_thirdWord 3 (q' := (13, [some (.ref 19), some (.int (nI k)), none, none], [.int (nI k), .ref 19, .ref 19], wd C Y og)) rfl ?_
    refine am_callV_r (As := [.int (nI k)]) (rest := [.ref 19]) ok_M_thirdWord rfl rfl ok_M_behindWord oi_M_behindWord lk_6_117 (Or.inl ⟨_, _, _, rfl, rfl, rfl⟩) rfl rfl (Nat.le_of_ble_eq_true rfl) (c_M_behindWord _ C Y og n b hT k (by omega)) ?_
    rintro v_ w_ ⟨rfl, rfl⟩ -
    refine am_eq_r (q' := (16, [some (.ref 19), some (.int (nI k)), none, none], [.int (nI (wEnd n b k)), .ref 19], wd C Y og)) rfl ?_
    refine am_callV_r (As := [.int (nI (wEnd n b k))]) (rest := []) ok_M_thirdWord rfl rfl ok_M_behindWhite oi_M_behindWhite lk_6_127 (Or.inl ⟨_, _, _, rfl, rfl, rfl⟩) rfl rfl (Nat.le_of_ble_eq_true rfl) (c_M_behindWhite _ C Y og n b hT (wEnd n b k) (by omega)) ?_
    rintro v_ w_ ⟨rfl, rfl⟩ -
    refine am_eq_r (q' := (19, [some (.ref 19), some (.int (nI k)), none, none], [.int (nI (skW n b (wEnd n b k)))], wd C Y og)) rfl ?_
    refine am_steps_r ok_M_thirdWord 4 (q' := (23, [some (.ref 19), some (.int (nI k)), some (.int (nI (skW n b (wEnd n b k)))), none], [.int (nI k), .ref 19, .int (nI (skW n b (wEnd n b k)))], wd C Y og)) rfl ?_
    refine am_callV_r (As := [.int (nI k)]) (rest := [.int (nI (skW n b (wEnd n b k)))]) ok_M_thirdWord rfl rfl ok_M_behindWord oi_M_behindWord lk_6_117 (Or.inl ⟨_, _, _, rfl, rfl, rfl⟩) rfl rfl (Nat.le_of_ble_eq_true rfl) (c_M_behindWord _ C Y og n b hT k (by omega)) ?_
    rintro v_ w_ ⟨rfl, rfl⟩ -
    refine am_eq_r (q' := (26, [some (.ref 19), some (.int (nI k)), some (.int (nI (skW n b (wEnd n b k)))), none], [.int (nI (wEnd n b k)), .int (nI (skW n b (wEnd n b k)))], wd C Y og)) rfl ?_
    refine am_steps_r ok_M_thirdWord 1 (q' := (bif decide ((nI (skW n b (wEnd n b k))) = (nI (wEnd n b k))) then 37 else 29, [some (.ref 19), some (.int (nI k)), some (.int (nI (skW n b (wEnd n b k)))), none], [], wd C Y og)) rfl ?_
    refine am_br_r (fun h_6 => ?_) (fun h_6 => ?_)
    · skip
      have h_6 : (skW n b (wEnd n b k)) = (wEnd n b k) := (nI_eq (show (skW n b (wEnd n b k)) < 2 ^ 31 by omega) (show (wEnd n b k) < 2 ^ 31 by omega)).mp h_6
      refine am_steps_r ok_M_thirdWord 1 (q' := (38, [some (.ref 19), some (.int (nI k)), some (.int (nI (skW n b (wEnd n b k)))), none], [.int (-1)], wd C Y og)) rfl ?_
      refine am_iret_r ok_M_thirdWord rfl rfl rfl ?_
      refine ⟨?_, rfl⟩
      simp_all [thW, oN]
    · skip
      have h_6 : ¬ (skW n b (wEnd n b k)) = (wEnd n b k) := fun z => h_6 ((nI_eq (show (skW n b (wEnd n b k)) < 2 ^ 31 by omega) (show (wEnd n b k) < 2 ^ 31 by omega)).mpr z)
      refine am_steps_r ok_M_thirdWord 2 (q' := (31, [some (.ref 19), some (.int (nI k)), some (.int (nI (skW n b (wEnd n b k)))), none], [.int (nI (skW n b (wEnd n b k))), .ref 19], wd C Y og)) rfl ?_
      refine am_callV_r (As := [.int (nI (skW n b (wEnd n b k)))]) (rest := []) ok_M_thirdWord rfl rfl ok_M_isFigures oi_M_isFigures lk_6_124 (Or.inl ⟨_, _, _, rfl, rfl, rfl⟩) rfl rfl (Nat.le_of_ble_eq_true rfl) (c_M_isFigures _ C Y og n b hT (skW n b (wEnd n b k)) (by omega)) ?_
      rintro v_ w_ ⟨rfl, rfl⟩ -
      refine am_eq_r (q' := (34, [some (.ref 19), some (.int (nI k)), some (.int (nI (skW n b (wEnd n b k)))), none], [.int (bz (isFgs n b (skW n b (wEnd n b k))))], wd C Y og)) rfl ?_
      refine am_steps_r ok_M_thirdWord 1 (q' := (bif decide ((bz (isFgs n b (skW n b (wEnd n b k)))) = 0) then 37 else 39, [some (.ref 19), some (.int (nI k)), some (.int (nI (skW n b (wEnd n b k)))), none], [], wd C Y og)) rfl ?_
      refine am_bz_r (fun h_8 => ?_) (fun h_8 => ?_)
      · skip
        refine am_steps_r ok_M_thirdWord 3 (q' := (42, [some (.ref 19), some (.int (nI k)), some (.int (nI (skW n b (wEnd n b k)))), none], [.int (nI (skW n b (wEnd n b k))), .ref 19, .ref 19], wd C Y og)) rfl ?_
        refine am_callV_r (As := [.int (nI (skW n b (wEnd n b k)))]) (rest := [.ref 19]) ok_M_thirdWord rfl rfl ok_M_behindWord oi_M_behindWord lk_6_117 (Or.inl ⟨_, _, _, rfl, rfl, rfl⟩) rfl rfl (Nat.le_of_ble_eq_true rfl) (c_M_behindWord _ C Y og n b hT (skW n b (wEnd n b k)) (by omega)) ?_
        rintro v_ w_ ⟨rfl, rfl⟩ -
        refine am_eq_r (q' := (45, [some (.ref 19), some (.int (nI k)), some (.int (nI (skW n b (wEnd n b k)))), none], [.int (nI (wEnd n b (skW n b (wEnd n b k)))), .ref 19], wd C Y og)) rfl ?_
        refine am_callV_r (As := [.int (nI (wEnd n b (skW n b (wEnd n b k))))]) (rest := []) ok_M_thirdWord rfl rfl ok_M_behindWhite oi_M_behindWhite lk_6_127 (Or.inl ⟨_, _, _, rfl, rfl, rfl⟩) rfl rfl (Nat.le_of_ble_eq_true rfl) (c_M_behindWhite _ C Y og n b hT (wEnd n b (skW n b (wEnd n b k))) (by omega)) ?_
        rintro v_ w_ ⟨rfl, rfl⟩ -
        refine am_eq_r (q' := (48, [some (.ref 19), some (.int (nI k)), some (.int (nI (skW n b (wEnd n b k)))), none], [.int (nI (skW n b (wEnd n b (skW n b (wEnd n b k)))))], wd C Y og)) rfl ?_
        refine am_steps_r ok_M_thirdWord 4 (q' := (52, [some (.ref 19), some (.int (nI k)), some (.int (nI (skW n b (wEnd n b k)))), some (.int (nI (skW n b (wEnd n b (skW n b (wEnd n b k))))))], [.int (nI (skW n b (wEnd n b k))), .ref 19, .int (nI (skW n b (wEnd n b (skW n b (wEnd n b k)))))], wd C Y og)) rfl ?_
        refine am_callV_r (As := [.int (nI (skW n b (wEnd n b k)))]) (rest := [.int (nI (skW n b (wEnd n b (skW n b (wEnd n b k)))))]) ok_M_thirdWord rfl rfl ok_M_behindWord oi_M_behindWord lk_6_117 (Or.inl ⟨_, _, _, rfl, rfl, rfl⟩) rfl rfl (Nat.le_of_ble_eq_true rfl) (c_M_behindWord _ C Y og n b hT (skW n b (wEnd n b k)) (by omega)) ?_
        rintro v_ w_ ⟨rfl, rfl⟩ -
        refine am_eq_r (q' := (55, [some (.ref 19), some (.int (nI k)), some (.int (nI (skW n b (wEnd n b k)))), some (.int (nI (skW n b (wEnd n b (skW n b (wEnd n b k))))))], [.int (nI (wEnd n b (skW n b (wEnd n b k)))), .int (nI (skW n b (wEnd n b (skW n b (wEnd n b k)))))], wd C Y og)) rfl ?_
        refine am_steps_r ok_M_thirdWord 1 (q' := (bif decide ((nI (skW n b (wEnd n b (skW n b (wEnd n b k))))) = (nI (wEnd n b (skW n b (wEnd n b k))))) then 58 else 62, [some (.ref 19), some (.int (nI k)), some (.int (nI (skW n b (wEnd n b k)))), some (.int (nI (skW n b (wEnd n b (skW n b (wEnd n b k))))))], [], wd C Y og)) rfl ?_
        refine am_br_r (fun h_12 => ?_) (fun h_12 => ?_)
        · skip
          have h_12 : (skW n b (wEnd n b (skW n b (wEnd n b k)))) = (wEnd n b (skW n b (wEnd n b k))) := (nI_eq (show (skW n b (wEnd n b (skW n b (wEnd n b k)))) < 2 ^ 31 by omega) (show (wEnd n b (skW n b (wEnd n b k))) < 2 ^ 31 by omega)).mp h_12
          refine am_steps_r ok_M_thirdWord 2 (q' := (63, [some (.ref 19), some (.int (nI k)), some (.int (nI (skW n b (wEnd n b k)))), some (.int (nI (skW n b (wEnd n b (skW n b (wEnd n b k))))))], [.int (-1)], wd C Y og)) rfl ?_
          refine am_iret_r ok_M_thirdWord rfl rfl rfl ?_
          refine ⟨?_, rfl⟩
          simp_all [thW, oN]
        · skip
          have h_12 : ¬ (skW n b (wEnd n b (skW n b (wEnd n b k)))) = (wEnd n b (skW n b (wEnd n b k))) := fun z => h_12 ((nI_eq (show (skW n b (wEnd n b (skW n b (wEnd n b k)))) < 2 ^ 31 by omega) (show (wEnd n b (skW n b (wEnd n b k))) < 2 ^ 31 by omega)).mpr z)
          refine am_steps_r ok_M_thirdWord 1 (q' := (63, [some (.ref 19), some (.int (nI k)), some (.int (nI (skW n b (wEnd n b k)))), some (.int (nI (skW n b (wEnd n b (skW n b (wEnd n b k))))))], [.int (nI (skW n b (wEnd n b (skW n b (wEnd n b k)))))], wd C Y og)) rfl ?_
          refine am_iret_r ok_M_thirdWord rfl rfl rfl ?_
          refine ⟨?_, rfl⟩
          simp_all [thW, oN]
      · skip
        refine am_steps_r ok_M_thirdWord 1 (q' := (38, [some (.ref 19), some (.int (nI k)), some (.int (nI (skW n b (wEnd n b k)))), none], [.int (-1)], wd C Y og)) rfl ?_
        refine am_iret_r ok_M_thirdWord rfl rfl rfl ?_
        refine ⟨?_, rfl⟩
        simp_all [thW, oN]
  · skip
    refine am_steps_r ok_M_thirdWord 1 (q' := (9, [some (.ref 19), some (.int (nI k)), none, none], [.int (-1)], wd C Y og)) rfl ?_
    refine am_iret_r ok_M_thirdWord rfl rfl rfl ?_
    refine ⟨?_, rfl⟩
    simp_all [thW, oN]
end C23
