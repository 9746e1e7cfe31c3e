/-! the reference puts bytes, words, numbers; printed by wip/gen/g98.py -/
theorem yE_14 {Y Y1 : wd_Y} {bf : Nat} {A : Nat → Int32} {L : List Int32} (h : Y1 = yE Y A (bf, L)) : Y1.1 14 = nI L.length := by rw [h]; rfl
theorem yE_15 {Y Y1 : wd_Y} {bf : Nat} {A : Nat → Int32} {L : List Int32} (h : Y1 = yE Y A (bf, L)) : Y1.1 15 = nI bf := by rw [h]; rfl
theorem yE_16 {Y Y1 : wd_Y} {A : Nat → Int32} {s : WS} (h : Y1 = yE Y A s) : Y1.1 16 = Y.1 16 := by rw [h]; rfl
theorem neg_N {x : Int64} (hx : abN x < 2 ^ 62) (h : isN x = true) : -x = lN (abN x) := by
  have h2 := abs_N hx
  rw [if_neg] at h2
  · exact h2
  · intro z
    have h3 : x < 0 := by simpa [isN] using h
    have z1 := Int64.lt_iff_toInt_lt.mp z
    have z2 := Int64.lt_iff_toInt_lt.mp h3
    omega
theorem pos_N {x : Int64} (hx : abN x < 2 ^ 62) (h : isN x = false) : x = lN (abN x) := by
  apply Int64.toInt_inj.mp
  rw [lN_toInt63 (by omega)]
  unfold abN at *
  have h3 : ¬ x < 0 := by simpa [isN] using h
  have h4 : ¬ x.toInt < (0 : Int64).toInt := fun z => h3 (Int64.lt_iff_toInt_lt.mpr z)
  have e : (0 : Int64).toInt = 0 := rfl
  omega
def fgG (n : Nat) : Nat → List Int32
  | 0 => []
  | e + 1 => fgF n e
theorem fgG_no {n e : Nat} (h : un e ≤ 0) : fgG n e = [] := by
  rcases e with _ | e
  · rfl
  · exact absurd h (Nat.not_le_of_lt (Nat.pow_pos (by decide)))
theorem fgG_put {n e : Nat} (h : ¬ un e ≤ 0) : fgG n e = nI (48 + n / un e % 10) :: fgG n (e - 1) := by
  rcases e with _ | _ | e
  · exact absurd (Nat.le_refl _) h
  · show [nI (48 + n % 10)] = nI (48 + n / 1 % 10) :: []
    rw [Nat.div_one]
  · rfl
theorem pw9 {n j : Nat} (h1 : n < 1000000000) (h2 : j = 0 ∨ 10 ^ j ≤ n) : j ≤ 8 := by
  rcases h2 with e | e
  · omega
  · rcases Nat.lt_or_ge j 9 with h | h
    · omega
    · have := Nat.pow_le_pow_right (n := 10) (by decide) h
      omega
theorem pw_up {n j : Nat} (h : 9 < n / 10 ^ j) : 10 ^ (j + 1) ≤ n := by
  have := Nat.pow_pos (n := j) (a := 10) (by decide)
  rw [Nat.pow_succ, Nat.mul_comm]
  have h2 : 10 ≤ n / 10 ^ j := h
  exact (Nat.le_div_iff_mul_le this).mp h2
theorem pw_dn {n j : Nat} (h : ¬ 9 < n / 10 ^ j) : n < 10 ^ (j + 1) := by
  have := Nat.pow_pos (n := j) (a := 10) (by decide)
  rw [Nat.pow_succ, Nat.mul_comm]
  exact (Nat.div_lt_iff_lt_mul this).mp (by omega)
theorem hx_y : ∀ j, j < 256 → (nI j >>> (4 &&& 31) = nI (j / 16) ∧ nI j &&& 15 = nI (j % 16)) := by decide +kernel
theorem hx_lo : ∀ j, j < 10 → st_13.getD j 0 = nI (48 + j) := by decide +kernel
theorem hx_hi : ∀ j, j < 16 → ¬ j < 10 → st_13.getD j 0 = nI (65 + j - 10) := by decide +kernel
theorem st_pos_9 : ∀ k, k < 10 → (0 < st_9.getD k 0 ↔ k < st_9.length) := by decide +kernel
theorem st_pos_10 : ∀ k, k < 10 → (0 < st_10.getD k 0 ↔ k < st_10.length) := by decide +kernel
theorem st_pos_7 : ∀ k, k < 10 → (0 < st_7.getD k 0 ↔ k < st_7.length) := by decide +kernel
theorem st_pos_0 : ∀ k, k < 10 → (0 < st_0.getD k 0 ↔ k < st_0.length) := by decide +kernel
theorem st_pos_5 : ∀ k, k < 10 → (0 < st_5.getD k 0 ↔ k < st_5.length) := by decide +kernel
theorem st_pos_6 : ∀ k, k < 10 → (0 < st_6.getD k 0 ↔ k < st_6.length) := by decide +kernel
theorem st_pos_4 : ∀ k, k < 10 → (0 < st_4.getD k 0 ↔ k < st_4.length) := by decide +kernel
theorem st_pos_8 : ∀ k, k < 10 → (0 < st_8.getD k 0 ↔ k < st_8.length) := by decide +kernel
theorem un_mod {e r : Nat} (h : ¬ un e ≤ 0) (hr : r < 10 ^ e) : r % un e < 10 ^ (e - 1) := by
  rcases e with _ | e
  · exact absurd (Nat.le_refl _) h
  · exact Nat.mod_lt _ (Nat.pow_pos (by decide))
theorem isz_N {x : Int64} (hx : abN x < 2 ^ 62) : x = 0 ↔ abN x = 0 := by
  constructor
  · intro h; rw [h]; rfl
  · intro h
    apply Int64.toInt_inj.mp
    have e : (0 : Int64).toInt = 0 := rfl
    unfold abN at h
    omega
section C98
variable {l : Launch} {D : va_G} {cA : Nat → ClassId} {ad : Nat → Nat} {fm : Value}
set_option maxHeartbeats 4000000 in
set_option maxRecDepth 100000 in
theorem c_M_put (d : Nat) (C : wd_C) (Y : wd_Y) (og : Nat → Int64) (rd : Nat) (A : Nat → Int32) (hr : Y.1 16 = nI rd) (hrd : rd ≤ 1) (bf : Nat) (L : List Int32) (hbf : bf ≤ 5) (Y1 : wd_Y) (h1 : Y1 = yE Y A (bf, L)) (x : Int32) (hb : L.length + 1 < 2147483648) : am_Mt l D cA ad fm (d + 0) m_M_put [.ref 19, .int x] (wd C Y1 og) (fun vr w' => vr = none ∧ ∃ Y2, w' = wd C Y2 og ∧ Y2 = yE Y A (bf, L ++ [x])) := by
  refine am_mt ok_M_put (by simp [am_arg, Value.category, m_M_put, am_ml]) ?_
  refine am_eq_r (q' := (0, [some (.ref 19), some (.int x)], [], wd C Y1 og)) rfl ?_
  refine am_steps_r ok_M_put 4 (q' := (bif decide (4000 ≤ (Y1.1 14)) then 20 else 10, [some (.ref 19), some (.int x)], [], wd C Y1 og)) rfl ?_
  rw [show (Y1.1 14 : Int32) = nI L.length from (yE_14 h1)]
  refine am_br_r (fun h_1 => ?_) (fun h_1 => ?_)
  · skip
    have h_1 : 4000 ≤ L.length := (nI_leI (show 4000 < 2 ^ 31 by omega) (show L.length < 2 ^ 31 by omega)).mp h_1
    refine am_steps_r ok_M_put 6 (q' := (30, [some (.ref 19), some (.int x)], [], wd C (upd Y1.1 14 ((Y1.1 14) + 1), Y1.2) og)) rfl ?_
    rw [show (Y1.1 14 : Int32) = nI L.length from (yE_14 h1)]
    rw [show ((nI L.length) + 1 : Int32) = nI (L.length + 1) from nI_add L.length 1]
    refine am_vret_r ok_M_put rfl rfl rfl ?_
    exact ⟨rfl, _, rfl, by subst h1; exact yE_no (s := (bf, L)) (x := x) (show ¬ L.length < 4000 by omega)⟩
  · skip
    have h_1 : ¬ 4000 ≤ L.length := fun z => h_1 ((nI_leI (show 4000 < 2 ^ 31 by omega) (show L.length < 2 ^ 31 by omega)).mpr z)
    refine am_steps_r ok_M_put 5 (q' := (19, [some (.ref 19), some (.int x)], [.int x, .int (Y1.1 14), .ref 35], wd C Y1 og)) rfl ?_
    rw [show (Y1.1 14 : Int32) = nI L.length from (yE_14 h1)]
    refine am_iast_r ok_M_put rfl (w := wd C Y1 og) (f := Y1.2.1 14) rfl rfl (pk_in L.length 4000 (by omega)) ?_
    rw [nI_clamp (show L.length < 2 ^ 31 by omega)]
    refine am_eq_r (q' := (20, [some (.ref 19), some (.int x)], [], wd C (Y1.1, wd_u Y1.2.1 14 (upd (Y1.2.1 14) L.length x), Y1.2.2) og)) rfl ?_
    refine am_steps_r ok_M_put 6 (q' := (30, [some (.ref 19), some (.int x)], [], wd C (upd Y1.1 14 ((Y1.1 14) + 1), wd_u Y1.2.1 14 (upd (Y1.2.1 14) L.length x), Y1.2.2) og)) rfl ?_
    rw [show (Y1.1 14 : Int32) = nI L.length from (yE_14 h1)]
    rw [show ((nI L.length) + 1 : Int32) = nI (L.length + 1) from nI_add L.length 1]
    refine am_vret_r ok_M_put rfl rfl rfl ?_
    exact ⟨rfl, _, rfl, by subst h1; exact yE_put (s := (bf, L)) (show L.length < 4000 by omega)⟩
set_option maxHeartbeats 4000000 in
set_option maxRecDepth 100000 in
theorem c_M_part (d : Nat) (C : wd_C) (Y : wd_Y) (og : Nat → Int64) (rd : Nat) (A : Nat → Int32) (hr : Y.1 16 = nI rd) (hrd : rd ≤ 1) (bf : Nat) (L : List Int32) (hbf : bf ≤ 5) (Y1 : wd_Y) (h1 : Y1 = yE Y A (bf, L)) (s : Nat) (hs : s ≤ 5) (hb : L.length + 1 < 2147483648) : am_Mt l D cA ad fm (d + 1) m_M_part [.ref 19, .int (nI s)] (wd C Y1 og) (fun vr w' => vr = none ∧ ∃ Y2, w' = wd C Y2 og ∧ Y2 = yE Y A (s, L ++ gpL rd bf s)) := by
  refine am_mt ok_M_part (by simp [am_arg, Value.category, m_M_part, am_ml]) ?_
  refine am_eq_r (q' := (0, [some (.ref 19), some (.int (nI s)), none], [], wd C Y1 og)) rfl ?_
  refine am_steps_r ok_M_part 3 (q' := (bif decide ((Y1.1 16) = 0) then 35 else 7, [some (.ref 19), some (.int (nI s)), none], [], wd C Y1 og)) rfl ?_
  rw [show (Y1.1 16 : Int32) = nI rd from ((yE_16 h1).trans hr)]
  refine am_br_r (fun h_1 => ?_) (fun h_1 => ?_)
  · skip
    have h_1 : rd = 0 := (nI_eq (show rd < 2 ^ 31 by omega) (show 0 < 2 ^ 31 by omega)).mp h_1
    refine am_steps_r ok_M_part 3 (q' := (bif decide ((nI s) = 1) then 40 else 60, [some (.ref 19), some (.int (nI s)), none], [], wd C Y1 og)) rfl ?_
    refine am_br_r (fun h_2 => ?_) (fun h_2 => ?_)
    · skip
      have h_2 : s = 1 := (nI_eq (show s < 2 ^ 31 by omega) (show 1 < 2 ^ 31 by omega)).mp h_2
      refine am_steps_r ok_M_part 4 (q' := (bif decide ((Y1.1 15) = 1) then 56 else 48, [some (.ref 19), some (.int (nI s)), none], [], wd C Y1 og)) rfl ?_
      rw [show (Y1.1 15 : Int32) = nI bf from (yE_15 h1)]
      refine am_br_r (fun h_3 => ?_) (fun h_3 => ?_)
      · skip
        have h_3 : bf = 1 := (nI_eq (show bf < 2 ^ 31 by omega) (show 1 < 2 ^ 31 by omega)).mp h_3
        refine am_steps_r ok_M_part 7 (q' := (69, [some (.ref 19), some (.int (nI s)), some (.int 1)], [.int 32, .ref 19], wd C Y1 og)) rfl ?_
        refine am_callV_r (As := [.int 32]) (rest := []) ok_M_part rfl rfl ok_M_put oi_M_put lk_6_270 (Or.inl ⟨_, _, _, rfl, rfl, rfl⟩) rfl rfl (Nat.le_of_ble_eq_true rfl) (c_M_put _ C Y og rd A hr hrd bf L (by omega) Y1 h1 32 (by first | exact hb | (first | omega | (simp only [List.length_append, List.length_cons, List.length_nil] at hb ⊢; omega) | (simp only [List.length_append, List.length_cons, List.length_nil]; omega)))) ?_
        rintro v_ w_ ⟨rfl, Y_4, rfl, hY_5⟩ -
        refine am_eq_r (q' := (72, [some (.ref 19), some (.int (nI s)), some (.int 1)], [], wd C Y_4 og)) rfl ?_
        refine am_steps_r ok_M_part 3 (q' := (77, [some (.ref 19), some (.int (nI s)), some (.int 1)], [], wd C (upd Y_4.1 15 (nI s), Y_4.2) og)) rfl ?_
        refine am_vret_r ok_M_part rfl rfl rfl ?_
        refine ⟨rfl, _, rfl, ?_⟩
        rw [show gpL rd bf s = [32] by unfold gpL gpB; simp_all]
        subst hY_5
        exact yE_bf (s := (bf, (L ++ [32])))
      · skip
        have h_3 : ¬ bf = 1 := fun z => h_3 ((nI_eq (show bf < 2 ^ 31 by omega) (show 1 < 2 ^ 31 by omega)).mpr z)
        refine am_steps_r ok_M_part 4 (q' := (bif decide ((Y1.1 15) = 2) then 56 else 60, [some (.ref 19), some (.int (nI s)), none], [], wd C Y1 og)) rfl ?_
        rw [show (Y1.1 15 : Int32) = nI bf from (yE_15 h1)]
        refine am_br_r (fun h_6 => ?_) (fun h_6 => ?_)
        · skip
          have h_6 : bf = 2 := (nI_eq (show bf < 2 ^ 31 by omega) (show 2 < 2 ^ 31 by omega)).mp h_6
          refine am_steps_r ok_M_part 7 (q' := (69, [some (.ref 19), some (.int (nI s)), some (.int 1)], [.int 32, .ref 19], wd C Y1 og)) rfl ?_
          refine am_callV_r (As := [.int 32]) (rest := []) ok_M_part rfl rfl ok_M_put oi_M_put lk_6_270 (Or.inl ⟨_, _, _, rfl, rfl, rfl⟩) rfl rfl (Nat.le_of_ble_eq_true rfl) (c_M_put _ C Y og rd A hr hrd bf L (by omega) Y1 h1 32 (by first | exact hb | (first | omega | (simp only [List.length_append, List.length_cons, List.length_nil] at hb ⊢; omega) | (simp only [List.length_append, List.length_cons, List.length_nil]; omega)))) ?_
          rintro v_ w_ ⟨rfl, Y_7, rfl, hY_8⟩ -
          refine am_eq_r (q' := (72, [some (.ref 19), some (.int (nI s)), some (.int 1)], [], wd C Y_7 og)) rfl ?_
          refine am_steps_r ok_M_part 3 (q' := (77, [some (.ref 19), some (.int (nI s)), some (.int 1)], [], wd C (upd Y_7.1 15 (nI s), Y_7.2) og)) rfl ?_
          refine am_vret_r ok_M_part rfl rfl rfl ?_
          refine ⟨rfl, _, rfl, ?_⟩
          rw [show gpL rd bf s = [32] by unfold gpL gpB; simp_all]
          subst hY_8
          exact yE_bf (s := (bf, (L ++ [32])))
        · skip
          have h_6 : ¬ bf = 2 := fun z => h_6 ((nI_eq (show bf < 2 ^ 31 by omega) (show 2 < 2 ^ 31 by omega)).mpr z)
          refine am_steps_r ok_M_part 7 (q' := (77, [some (.ref 19), some (.int (nI s)), some (.int 0)], [], wd C (upd Y1.1 15 (nI s), Y1.2) og)) rfl ?_
          refine am_vret_r ok_M_part rfl rfl rfl ?_
          refine ⟨rfl, _, rfl, ?_⟩
          rw [show gpL rd bf s = [] by unfold gpL gpB; simp_all]
          subst h1
          rw [List.append_nil]
          exact yE_bf (s := (bf, L))
    · skip
      have h_2 : ¬ s = 1 := fun z => h_2 ((nI_eq (show s < 2 ^ 31 by omega) (show 1 < 2 ^ 31 by omega)).mpr z)
      refine am_steps_r ok_M_part 7 (q' := (77, [some (.ref 19), some (.int (nI s)), some (.int 0)], [], wd C (upd Y1.1 15 (nI s), Y1.2) og)) rfl ?_
      refine am_vret_r ok_M_part rfl rfl rfl ?_
      refine ⟨rfl, _, rfl, ?_⟩
      rw [show gpL rd bf s = [] by unfold gpL gpB; simp_all]
      subst h1
      rw [List.append_nil]
      exact yE_bf (s := (bf, L))
  · skip
    have h_1 : ¬ rd = 0 := fun z => h_1 ((nI_eq (show rd < 2 ^ 31 by omega) (show 0 < 2 ^ 31 by omega)).mpr z)
    refine am_steps_r ok_M_part 3 (q' := (bif decide ((Y1.1 15) = 0) then 31 else 14, [some (.ref 19), some (.int (nI s)), none], [], wd C Y1 og)) rfl ?_
    rw [show (Y1.1 15 : Int32) = nI bf from (yE_15 h1)]
    refine am_br_r (fun h_9 => ?_) (fun h_9 => ?_)
    · skip
      have h_9 : bf = 0 := (nI_eq (show bf < 2 ^ 31 by omega) (show 0 < 2 ^ 31 by omega)).mp h_9
      refine am_steps_r ok_M_part 8 (q' := (77, [some (.ref 19), some (.int (nI s)), some (.int 0)], [], wd C (upd Y1.1 15 (nI s), Y1.2) og)) rfl ?_
      refine am_vret_r ok_M_part rfl rfl rfl ?_
      refine ⟨rfl, _, rfl, ?_⟩
      rw [show gpL rd bf s = [] by unfold gpL gpB; simp_all]
      subst h1
      rw [List.append_nil]
      exact yE_bf (s := (bf, L))
    · skip
      have h_9 : ¬ bf = 0 := fun z => h_9 ((nI_eq (show bf < 2 ^ 31 by omega) (show 0 < 2 ^ 31 by omega)).mpr z)
      refine am_steps_r ok_M_part 4 (q' := (bif decide ((Y1.1 15) = 4) then 31 else 22, [some (.ref 19), some (.int (nI s)), none], [], wd C Y1 og)) rfl ?_
      rw [show (Y1.1 15 : Int32) = nI bf from (yE_15 h1)]
      refine am_br_r (fun h_10 => ?_) (fun h_10 => ?_)
      · skip
        have h_10 : bf = 4 := (nI_eq (show bf < 2 ^ 31 by omega) (show 4 < 2 ^ 31 by omega)).mp h_10
        refine am_steps_r ok_M_part 8 (q' := (77, [some (.ref 19), some (.int (nI s)), some (.int 0)], [], wd C (upd Y1.1 15 (nI s), Y1.2) og)) rfl ?_
        refine am_vret_r ok_M_part rfl rfl rfl ?_
        refine ⟨rfl, _, rfl, ?_⟩
        rw [show gpL rd bf s = [] by unfold gpL gpB; simp_all]
        subst h1
        rw [List.append_nil]
        exact yE_bf (s := (bf, L))
      · skip
        have h_10 : ¬ bf = 4 := fun z => h_10 ((nI_eq (show bf < 2 ^ 31 by omega) (show 4 < 2 ^ 31 by omega)).mpr z)
        refine am_steps_r ok_M_part 3 (q' := (bif decide ((nI s) = 5) then 31 else 27, [some (.ref 19), some (.int (nI s)), none], [], wd C Y1 og)) rfl ?_
        refine am_br_r (fun h_11 => ?_) (fun h_11 => ?_)
        · skip
          have h_11 : s = 5 := (nI_eq (show s < 2 ^ 31 by omega) (show 5 < 2 ^ 31 by omega)).mp h_11
          refine am_steps_r ok_M_part 8 (q' := (77, [some (.ref 19), some (.int (nI s)), some (.int 0)], [], wd C (upd Y1.1 15 (nI s), Y1.2) og)) rfl ?_
          refine am_vret_r ok_M_part rfl rfl rfl ?_
          refine ⟨rfl, _, rfl, ?_⟩
          rw [show gpL rd bf s = [] by unfold gpL gpB; simp_all]
          subst h1
          rw [List.append_nil]
          exact yE_bf (s := (bf, L))
        · skip
          have h_11 : ¬ s = 5 := fun z => h_11 ((nI_eq (show s < 2 ^ 31 by omega) (show 5 < 2 ^ 31 by omega)).mpr z)
          refine am_steps_r ok_M_part 7 (q' := (69, [some (.ref 19), some (.int (nI s)), some (.int 1)], [.int 32, .ref 19], wd C Y1 og)) rfl ?_
          refine am_callV_r (As := [.int 32]) (rest := []) ok_M_part rfl rfl ok_M_put oi_M_put lk_6_270 (Or.inl ⟨_, _, _, rfl, rfl, rfl⟩) rfl rfl (Nat.le_of_ble_eq_true rfl) (c_M_put _ C Y og rd A hr hrd bf L (by omega) Y1 h1 32 (by first | exact hb | (first | omega | (simp only [List.length_append, List.length_cons, List.length_nil] at hb ⊢; omega) | (simp only [List.length_append, List.length_cons, List.length_nil]; omega)))) ?_
          rintro v_ w_ ⟨rfl, Y_12, rfl, hY_13⟩ -
          refine am_eq_r (q' := (72, [some (.ref 19), some (.int (nI s)), some (.int 1)], [], wd C Y_12 og)) rfl ?_
          refine am_steps_r ok_M_part 3 (q' := (77, [some (.ref 19), some (.int (nI s)), some (.int 1)], [], wd C (upd Y_12.1 15 (nI s), Y_12.2) og)) rfl ?_
          refine am_vret_r ok_M_part rfl rfl rfl ?_
          refine ⟨rfl, _, rfl, ?_⟩
          rw [show gpL rd bf s = [32] by unfold gpL gpB; simp_all]
          subst hY_13
          exact yE_bf (s := (bf, (L ++ [32])))
set_option maxHeartbeats 4000000 in
set_option maxRecDepth 100000 in
theorem lp_M_putWord_0 (d : Nat) (C : wd_C) (Y : wd_Y) (og : Nat → Int64) (rd : Nat) (A : Nat → Int32) (hr : Y.1 16 = nI rd) (hrd : rd ≤ 1) (bf : Nat) (hbf : bf ≤ 5)  : ∀ (fu : Nat) (post : Option Value → am_W → Prop) (k : Nat) (L : List Int32) (Y1 : wd_Y), (Y1 = yE Y A (bf, L)) → (k ≤ st_9.length) → ((L ++ st_9.drop k).length < 2147483648) → (∀ Y2, Y2 = yE Y A (bf, L ++ st_9.drop k) → post none (wd C Y2 og)) → st_9.length - k < fu → am_Rn l D cA ad fm (d + 1) m_M_putWord (wd C Y og).length post (2, [some (.ref 19), some (.int 0), some (.int (nI k))], [], wd C Y1 og) := by
  intro fu
  induction fu with
  | zero => intro post k L Y1 h1 hk2 hb hpo hfu; exact absurd hfu (Nat.not_lt_zero _)
  | succ fu ih =>
    intro post k L Y1 h1 hk2 hb hpo hfu
    refine am_steps_r ok_M_putWord 2 (q' := (4, [some (.ref 19), some (.int 0), some (.int (nI k))], [.int (nI k), .int 0], wd C Y1 og)) rfl ?_
    refine am_callS_r (As := [.int 0, .int (nI k)]) (rest := []) ok_M_putWord rfl rfl ok_M_letter os_M_letter lk_6_106 rfl rfl (Nat.le_of_ble_eq_true rfl) (c_M_letter_0 _ C Y1 og k (by have := hk2; have : st_9.length ≤ 9 := (by decide); omega)) ?_
    rintro v_ w_ ⟨rfl, rfl⟩ -
    refine am_eq_r (q' := (7, [some (.ref 19), some (.int 0), some (.int (nI k))], [.int (st_9.getD k 0)], wd C Y1 og)) rfl ?_
    refine am_steps_r ok_M_putWord 1 (q' := (bif decide ((st_9.getD k 0) ≤ 0) then 25 else 10, [some (.ref 19), some (.int 0), some (.int (nI k))], [], wd C Y1 og)) rfl ?_
    refine am_br_r (fun h_2 => ?_) (fun h_2 => ?_)
    · skip
      have hkl : ¬ k < st_9.length := fun z => absurd ((st_pos_9 k (by have : st_9.length ≤ 9 := (by decide); omega)).mpr z) (Int32.not_lt.mpr h_2)
      refine am_vret_r ok_M_putWord rfl rfl rfl ?_
      exact hpo _ (by rw [List.drop_eq_nil_of_le (by omega), List.append_nil]; exact h1)
    · skip
      have hkl : k < st_9.length := (st_pos_9 k (by have : st_9.length ≤ 9 := (by decide); omega)).mp (Int32.not_le.mp h_2)
      refine am_steps_r ok_M_putWord 3 (q' := (13, [some (.ref 19), some (.int 0), some (.int (nI k))], [.int (nI k), .int 0, .ref 19], wd C Y1 og)) rfl ?_
      refine am_callS_r (As := [.int 0, .int (nI k)]) (rest := [.ref 19]) ok_M_putWord rfl rfl ok_M_letter os_M_letter lk_6_106 rfl rfl (Nat.le_of_ble_eq_true rfl) (c_M_letter_0 _ C Y1 og k (by have := hk2; have : st_9.length ≤ 9 := (by decide); omega)) ?_
      rintro v_ w_ ⟨rfl, rfl⟩ -
      refine am_eq_r (q' := (16, [some (.ref 19), some (.int 0), some (.int (nI k))], [.int (st_9.getD k 0), .ref 19], wd C Y1 og)) rfl ?_
      refine am_callV_r (As := [.int (st_9.getD k 0)]) (rest := []) ok_M_putWord rfl rfl ok_M_put oi_M_put lk_6_270 (Or.inl ⟨_, _, _, rfl, rfl, rfl⟩) rfl rfl (Nat.le_of_ble_eq_true rfl) (c_M_put _ C Y og rd A hr hrd bf L (by omega) Y1 h1 (st_9.getD k 0) (by have h9 := congrArg List.length (drop_get (bs := st_9) (k := k) hkl); simp only [List.length_append, List.length_cons] at hb h9; omega)) ?_
      rintro v_ w_ ⟨rfl, Y_4, rfl, hY_5⟩ -
      refine am_eq_r (q' := (19, [some (.ref 19), some (.int 0), some (.int (nI k))], [], wd C Y_4 og)) rfl ?_
      refine am_steps_r ok_M_putWord 2 (q' := (2, [some (.ref 19), some (.int 0), some (.int ((nI k) + 1))], [], wd C Y_4 og)) rfl ?_
      rw [show ((nI k) + 1 : Int32) = nI (k + 1) from nI_add k 1]
      exact ih post (k + 1) (L ++ [st_9.getD k 0]) Y_4 hY_5 (by omega) (by rw [app_app1, ← drop_get hkl]; exact hb) (by rw [app_app1, ← drop_get hkl]; exact hpo) (by omega)
set_option maxHeartbeats 4000000 in
set_option maxRecDepth 100000 in
theorem c_M_putWord_0 (d : Nat) (C : wd_C) (Y : wd_Y) (og : Nat → Int64) (rd : Nat) (A : Nat → Int32) (hr : Y.1 16 = nI rd) (hrd : rd ≤ 1) (bf : Nat) (L : List Int32) (hbf : bf ≤ 5) (Y1 : wd_Y) (h1 : Y1 = yE Y A (bf, L)) (hb : (L ++ st_9).length < 2147483648) : am_Mt l D cA ad fm (d + 1) m_M_putWord [.ref 19, .int 0] (wd C Y1 og) (fun vr w' => vr = none ∧ ∃ Y2, w' = wd C Y2 og ∧ Y2 = yE Y A (bf, L ++ st_9)) := by
  refine am_mt ok_M_putWord (by simp [am_arg, Value.category, m_M_putWord, am_ml]) ?_
  refine am_eq_r (q' := (0, [some (.ref 19), some (.int 0), none], [], wd C Y1 og)) rfl ?_
  refine am_steps_r ok_M_putWord 2 (q' := (2, [some (.ref 19), some (.int 0), some (.int 0)], [], wd C Y1 og)) rfl ?_
  exact lp_M_putWord_0 d C Y og rd A hr hrd bf hbf (st_9.length + 1) _ 0 L Y1 h1 (Nat.zero_le _) hb (fun Y2 h2 => ⟨rfl, Y2, rfl, h2⟩) (by omega)
set_option maxHeartbeats 4000000 in
set_option maxRecDepth 100000 in
theorem lp_M_putWord_1 (d : Nat) (C : wd_C) (Y : wd_Y) (og : Nat → Int64) (rd : Nat) (A : Nat → Int32) (hr : Y.1 16 = nI rd) (hrd : rd ≤ 1) (bf : Nat) (hbf : bf ≤ 5)  : ∀ (fu : Nat) (post : Option Value → am_W → Prop) (k : Nat) (L : List Int32) (Y1 : wd_Y), (Y1 = yE Y A (bf, L)) → (k ≤ st_10.length) → ((L ++ st_10.drop k).length < 2147483648) → (∀ Y2, Y2 = yE Y A (bf, L ++ st_10.drop k) → post none (wd C Y2 og)) → st_10.length - k < fu → am_Rn l D cA ad fm (d + 1) m_M_putWord (wd C Y og).length post (2, [some (.ref 19), some (.int 1), some (.int (nI k))], [], wd C Y1 og) := by
  intro fu
  induction fu with
  | zero => intro post k L Y1 h1 hk2 hb hpo hfu; exact absurd hfu (Nat.not_lt_zero _)
  | succ fu ih =>
    intro post k L Y1 h1 hk2 hb hpo hfu
    refine am_steps_r ok_M_putWord 2 (q' := (4, [some (.ref 19), some (.int 1), some (.int (nI k))], [.int (nI k), .int 1], wd C Y1 og)) rfl ?_
    refine am_callS_r (As := [.int 1, .int (nI k)]) (rest := []) ok_M_putWord rfl rfl ok_M_letter os_M_letter lk_6_106 rfl rfl (Nat.le_of_ble_eq_true rfl) (c_M_letter_1 _ C Y1 og k (by have := hk2; have : st_10.length ≤ 9 := (by decide); omega)) ?_
    rintro v_ w_ ⟨rfl, rfl⟩ -
    refine am_eq_r (q' := (7, [some (.ref 19), some (.int 1), some (.int (nI k))], [.int (st_10.getD k 0)], wd C Y1 og)) rfl ?_
    refine am_steps_r ok_M_putWord 1 (q' := (bif decide ((st_10.getD k 0) ≤ 0) then 25 else 10, [some (.ref 19), some (.int 1), some (.int (nI k))], [], wd C Y1 og)) rfl ?_
    refine am_br_r (fun h_2 => ?_) (fun h_2 => ?_)
    · skip
      have hkl : ¬ k < st_10.length := fun z => absurd ((st_pos_10 k (by have : st_10.length ≤ 9 := (by decide); omega)).mpr z) (Int32.not_lt.mpr h_2)
      refine am_vret_r ok_M_putWord rfl rfl rfl ?_
      exact hpo _ (by rw [List.drop_eq_nil_of_le (by omega), List.append_nil]; exact h1)
    · skip
      have hkl : k < st_10.length := (st_pos_10 k (by have : st_10.length ≤ 9 := (by decide); omega)).mp (Int32.not_le.mp h_2)
      refine am_steps_r ok_M_putWord 3 (q' := (13, [some (.ref 19), some (.int 1), some (.int (nI k))], [.int (nI k), .int 1, .ref 19], wd C Y1 og)) rfl ?_
      refine am_callS_r (As := [.int 1, .int (nI k)]) (rest := [.ref 19]) ok_M_putWord rfl rfl ok_M_letter os_M_letter lk_6_106 rfl rfl (Nat.le_of_ble_eq_true rfl) (c_M_letter_1 _ C Y1 og k (by have := hk2; have : st_10.length ≤ 9 := (by decide); omega)) ?_
      rintro v_ w_ ⟨rfl, rfl⟩ -
      refine am_eq_r (q' := (16, [some (.ref 19), some (.int 1), some (.int (nI k))], [.int (st_10.getD k 0), .ref 19], wd C Y1 og)) rfl ?_
      refine am_callV_r (As := [.int (st_10.getD k 0)]) (rest := []) ok_M_putWord rfl rfl ok_M_put oi_M_put lk_6_270 (Or.inl ⟨_, _, _, rfl, rfl, rfl⟩) rfl rfl (Nat.le_of_ble_eq_true rfl) (c_M_put _ C Y og rd A hr hrd bf L (by omega) Y1 h1 (st_10.getD k 0) (by have h9 := congrArg List.length (drop_get (bs := st_10) (k := k) hkl); simp only [List.length_append, List.length_cons] at hb h9; omega)) ?_
      rintro v_ w_ ⟨rfl, Y_4, rfl, hY_5⟩ -
      refine am_eq_r (q' := (19, [some (.ref 19), some (.int 1), some (.int (nI k))], [], wd C Y_4 og)) rfl ?_
      refine am_steps_r ok_M_putWord 2 (q' := (2, [some (.ref 19), some (.int 1), some (.int ((nI k) + 1))], [], wd C Y_4 og)) rfl ?_
      rw [show ((nI k) + 1 : Int32) = nI (k + 1) from nI_add k 1]
      exact ih post (k + 1) (L ++ [st_10.getD k 0]) Y_4 hY_5 (by omega) (by rw [app_app1, ← drop_get hkl]; exact hb) (by rw [app_app1, ← drop_get hkl]; exact hpo) (by omega)
set_option maxHeartbeats 4000000 in
set_option maxRecDepth 100000 in
theorem c_M_putWord_1 (d : Nat) (C : wd_C) (Y : wd_Y) (og : Nat → Int64) (rd : Nat) (A : Nat → Int32) (hr : Y.1 16 = nI rd) (hrd : rd ≤ 1) (bf : Nat) (L : List Int32) (hbf : bf ≤ 5) (Y1 : wd_Y) (h1 : Y1 = yE Y A (bf, L)) (hb : (L ++ st_10).length < 2147483648) : am_Mt l D cA ad fm (d + 1) m_M_putWord [.ref 19, .int 1] (wd C Y1 og) (fun vr w' => vr = none ∧ ∃ Y2, w' = wd C Y2 og ∧ Y2 = yE Y A (bf, L ++ st_10)) := by
  refine am_mt ok_M_putWord (by simp [am_arg, Value.category, m_M_putWord, am_ml]) ?_
  refine am_eq_r (q' := (0, [some (.ref 19), some (.int 1), none], [], wd C Y1 og)) rfl ?_
  refine am_steps_r ok_M_putWord 2 (q' := (2, [some (.ref 19), some (.int 1), some (.int 0)], [], wd C Y1 og)) rfl ?_
  exact lp_M_putWord_1 d C Y og rd A hr hrd bf hbf (st_10.length + 1) _ 0 L Y1 h1 (Nat.zero_le _) hb (fun Y2 h2 => ⟨rfl, Y2, rfl, h2⟩) (by omega)
set_option maxHeartbeats 4000000 in
set_option maxRecDepth 100000 in
theorem lp_M_putWord_2 (d : Nat) (C : wd_C) (Y : wd_Y) (og : Nat → Int64) (rd : Nat) (A : Nat → Int32) (hr : Y.1 16 = nI rd) (hrd : rd ≤ 1) (bf : Nat) (hbf : bf ≤ 5)  : ∀ (fu : Nat) (post : Option Value → am_W → Prop) (k : Nat) (L : List Int32) (Y1 : wd_Y), (Y1 = yE Y A (bf, L)) → (k ≤ st_7.length) → ((L ++ st_7.drop k).length < 2147483648) → (∀ Y2, Y2 = yE Y A (bf, L ++ st_7.drop k) → post none (wd C Y2 og)) → st_7.length - k < fu → am_Rn l D cA ad fm (d + 1) m_M_putWord (wd C Y og).length post (2, [some (.ref 19), some (.int 2), some (.int (nI k))], [], wd C Y1 og) := by
  intro fu
  induction fu with
  | zero => intro post k L Y1 h1 hk2 hb hpo hfu; exact absurd hfu (Nat.not_lt_zero _)
  | succ fu ih =>
    intro post k L Y1 h1 hk2 hb hpo hfu
    refine am_steps_r ok_M_putWord 2 (q' := (4, [some (.ref 19), some (.int 2), some (.int (nI k))], [.int (nI k), .int 2], wd C Y1 og)) rfl ?_
    refine am_callS_r (As := [.int 2, .int (nI k)]) (rest := []) ok_M_putWord rfl rfl ok_M_letter os_M_letter lk_6_106 rfl rfl (Nat.le_of_ble_eq_true rfl) (c_M_letter_2 _ C Y1 og k (by have := hk2; have : st_7.length ≤ 9 := (by decide); omega)) ?_
    rintro v_ w_ ⟨rfl, rfl⟩ -
    refine am_eq_r (q' := (7, [some (.ref 19), some (.int 2), some (.int (nI k))], [.int (st_7.getD k 0)], wd C Y1 og)) rfl ?_
    refine am_steps_r ok_M_putWord 1 (q' := (bif decide ((st_7.getD k 0) ≤ 0) then 25 else 10, [some (.ref 19), some (.int 2), some (.int (nI k))], [], wd C Y1 og)) rfl ?_
    refine am_br_r (fun h_2 => ?_) (fun h_2 => ?_)
    · skip
      have hkl : ¬ k < st_7.length := fun z => absurd ((st_pos_7 k (by have : st_7.length ≤ 9 := (by decide); omega)).mpr z) (Int32.not_lt.mpr h_2)
      refine am_vret_r ok_M_putWord rfl rfl rfl ?_
      exact hpo _ (by rw [List.drop_eq_nil_of_le (by omega), List.append_nil]; exact h1)
    · skip
      have hkl : k < st_7.length := (st_pos_7 k (by have : st_7.length ≤ 9 := (by decide); omega)).mp (Int32.not_le.mp h_2)
      refine am_steps_r ok_M_putWord 3 (q' := (13, [some (.ref 19), some (.int 2), some (.int (nI k))], [.int (nI k), .int 2, .ref 19], wd C Y1 og)) rfl ?_
      refine am_callS_r (As := [.int 2, .int (nI k)]) (rest := [.ref 19]) ok_M_putWord rfl rfl ok_M_letter os_M_letter lk_6_106 rfl rfl (Nat.le_of_ble_eq_true rfl) (c_M_letter_2 _ C Y1 og k (by have := hk2; have : st_7.length ≤ 9 := (by decide); omega)) ?_
      rintro v_ w_ ⟨rfl, rfl⟩ -
      refine am_eq_r (q' := (16, [some (.ref 19), some (.int 2), some (.int (nI k))], [.int (st_7.getD k 0), .ref 19], wd C Y1 og)) rfl ?_
      refine am_callV_r (As := [.int (st_7.getD k 0)]) (rest := []) ok_M_putWord rfl rfl ok_M_put oi_M_put lk_6_270 (Or.inl ⟨_, _, _, rfl, rfl, rfl⟩) rfl rfl (Nat.le_of_ble_eq_true rfl) (c_M_put _ C Y og rd A hr hrd bf L (by omega) Y1 h1 (st_7.getD k 0) (by have h9 := congrArg List.length (drop_get (bs := st_7) (k := k) hkl); simp only [List.length_append, List.length_cons] at hb h9; omega)) ?_
      rintro v_ w_ ⟨rfl, Y_4, rfl, hY_5⟩ -
      refine am_eq_r (q' := (19, [some (.ref 19), some (.int 2), some (.int (nI k))], [], wd C Y_4 og)) rfl ?_
      refine am_steps_r ok_M_putWord 2 (q' := (2, [some (.ref 19), some (.int 2), some (.int ((nI k) + 1))], [], wd C Y_4 og)) rfl ?_
      rw [show ((nI k) + 1 : Int32) = nI (k + 1) from nI_add k 1]
      exact ih post (k + 1) (L ++ [st_7.getD k 0]) Y_4 hY_5 (by omega) (by rw [app_app1, ← drop_get hkl]; exact hb) (by rw [app_app1, ← drop_get hkl]; exact hpo) (by omega)
set_option maxHeartbeats 4000000 in
set_option maxRecDepth 100000 in
theorem c_M_putWord_2 (d : Nat) (C : wd_C) (Y : wd_Y) (og : Nat → Int64) (rd : Nat) (A : Nat → Int32) (hr : Y.1 16 = nI rd) (hrd : rd ≤ 1) (bf : Nat) (L : List Int32) (hbf : bf ≤ 5) (Y1 : wd_Y) (h1 : Y1 = yE Y A (bf, L)) (hb : (L ++ st_7).length < 2147483648) : am_Mt l D cA ad fm (d + 1) m_M_putWord [.ref 19, .int 2] (wd C Y1 og) (fun vr w' => vr = none ∧ ∃ Y2, w' = wd C Y2 og ∧ Y2 = yE Y A (bf, L ++ st_7)) := by
  refine am_mt ok_M_putWord (by simp [am_arg, Value.category, m_M_putWord, am_ml]) ?_
  refine am_eq_r (q' := (0, [some (.ref 19), some (.int 2), none], [], wd C Y1 og)) rfl ?_
  refine am_steps_r ok_M_putWord 2 (q' := (2, [some (.ref 19), some (.int 2), some (.int 0)], [], wd C Y1 og)) rfl ?_
  exact lp_M_putWord_2 d C Y og rd A hr hrd bf hbf (st_7.length + 1) _ 0 L Y1 h1 (Nat.zero_le _) hb (fun Y2 h2 => ⟨rfl, Y2, rfl, h2⟩) (by omega)
set_option maxHeartbeats 4000000 in
set_option maxRecDepth 100000 in
theorem lp_M_putWord_3 (d : Nat) (C : wd_C) (Y : wd_Y) (og : Nat → Int64) (rd : Nat) (A : Nat → Int32) (hr : Y.1 16 = nI rd) (hrd : rd ≤ 1) (bf : Nat) (hbf : bf ≤ 5)  : ∀ (fu : Nat) (post : Option Value → am_W → Prop) (k : Nat) (L : List Int32) (Y1 : wd_Y), (Y1 = yE Y A (bf, L)) → (k ≤ st_0.length) → ((L ++ st_0.drop k).length < 2147483648) → (∀ Y2, Y2 = yE Y A (bf, L ++ st_0.drop k) → post none (wd C Y2 og)) → st_0.length - k < fu → am_Rn l D cA ad fm (d + 1) m_M_putWord (wd C Y og).length post (2, [some (.ref 19), some (.int 3), some (.int (nI k))], [], wd C Y1 og) := by
  intro fu
  induction fu with
  | zero => intro post k L Y1 h1 hk2 hb hpo hfu; exact absurd hfu (Nat.not_lt_zero _)
  | succ fu ih =>
    intro post k L Y1 h1 hk2 hb hpo hfu
    refine am_steps_r ok_M_putWord 2 (q' := (4, [some (.ref 19), some (.int 3), some (.int (nI k))], [.int (nI k), .int 3], wd C Y1 og)) rfl ?_
    refine am_callS_r (As := [.int 3, .int (nI k)]) (rest := []) ok_M_putWord rfl rfl ok_M_letter os_M_letter lk_6_106 rfl rfl (Nat.le_of_ble_eq_true rfl) (c_M_letter_3 _ C Y1 og k (by have := hk2; have : st_0.length ≤ 9 := (by decide); omega)) ?_
    rintro v_ w_ ⟨rfl, rfl⟩ -
    refine am_eq_r (q' := (7, [some (.ref 19), some (.int 3), some (.int (nI k))], [.int (st_0.getD k 0)], wd C Y1 og)) rfl ?_
    refine am_steps_r ok_M_putWord 1 (q' := (bif decide ((st_0.getD k 0) ≤ 0) then 25 else 10, [some (.ref 19), some (.int 3), some (.int (nI k))], [], wd C Y1 og)) rfl ?_
    refine am_br_r (fun h_2 => ?_) (fun h_2 => ?_)
    · skip
      have hkl : ¬ k < st_0.length := fun z => absurd ((st_pos_0 k (by have : st_0.length ≤ 9 := (by decide); omega)).mpr z) (Int32.not_lt.mpr h_2)
      refine am_vret_r ok_M_putWord rfl rfl rfl ?_
      exact hpo _ (by rw [List.drop_eq_nil_of_le (by omega), List.append_nil]; exact h1)
    · skip
      have hkl : k < st_0.length := (st_pos_0 k (by have : st_0.length ≤ 9 := (by decide); omega)).mp (Int32.not_le.mp h_2)
      refine am_steps_r ok_M_putWord 3 (q' := (13, [some (.ref 19), some (.int 3), some (.int (nI k))], [.int (nI k), .int 3, .ref 19], wd C Y1 og)) rfl ?_
      refine am_callS_r (As := [.int 3, .int (nI k)]) (rest := [.ref 19]) ok_M_putWord rfl rfl ok_M_letter os_M_letter lk_6_106 rfl rfl (Nat.le_of_ble_eq_true rfl) (c_M_letter_3 _ C Y1 og k (by have := hk2; have : st_0.length ≤ 9 := (by decide); omega)) ?_
      rintro v_ w_ ⟨rfl, rfl⟩ -
      refine am_eq_r (q' := (16, [some (.ref 19), some (.int 3), some (.int (nI k))], [.int (st_0.getD k 0), .ref 19], wd C Y1 og)) rfl ?_
      refine am_callV_r (As := [.int (st_0.getD k 0)]) (rest := []) ok_M_putWord rfl rfl ok_M_put oi_M_put lk_6_270 (Or.inl ⟨_, _, _, rfl, rfl, rfl⟩) rfl rfl (Nat.le_of_ble_eq_true rfl) (c_M_put _ C Y og rd A hr hrd bf L (by omega) Y1 h1 (st_0.getD k 0) (by have h9 := congrArg List.length (drop_get (bs := st_0) (k := k) hkl); simp only [List.length_append, List.length_cons] at hb h9; omega)) ?_
      rintro v_ w_ ⟨rfl, Y_4, rfl, hY_5⟩ -
      refine am_eq_r (q' := (19, [some (.ref 19), some (.int 3), some (.int (nI k))], [], wd C Y_4 og)) rfl ?_
      refine am_steps_r ok_M_putWord 2 (q' := (2, [some (.ref 19), some (.int 3), some (.int ((nI k) + 1))], [], wd C Y_4 og)) rfl ?_
      rw [show ((nI k) + 1 : Int32) = nI (k + 1) from nI_add k 1]
      exact ih post (k + 1) (L ++ [st_0.getD k 0]) Y_4 hY_5 (by omega) (by rw [app_app1, ← drop_get hkl]; exact hb) (by rw [app_app1, ← drop_get hkl]; exact hpo) (by omega)
set_option maxHeartbeats 4000000 in
set_option maxRecDepth 100000 in
theorem c_M_putWord_3 (d : Nat) (C : wd_C) (Y : wd_Y) (og : Nat → Int64) (rd : Nat) (A : Nat → Int32) (hr : Y.1 16 = nI rd) (hrd : rd ≤ 1) (bf : Nat) (L : List Int32) (hbf : bf ≤ 5) (Y1 : wd_Y) (h1 : Y1 = yE Y A (bf, L)) (hb : (L ++ st_0).length < 2147483648) : am_Mt l D cA ad fm (d + 1) m_M_putWord [.ref 19, .int 3] (wd C Y1 og) (fun vr w' => vr = none ∧ ∃ Y2, w' = wd C Y2 og ∧ Y2 = yE Y A (bf, L ++ st_0)) := by
  refine am_mt ok_M_putWord (by simp [am_arg, Value.category, m_M_putWord, am_ml]) ?_
  refine am_eq_r (q' := (0, [some (.ref 19), some (.int 3), none], [], wd C Y1 og)) rfl ?_
  refine am_steps_r ok_M_putWord 2 (q' := (2, [some (.ref 19), some (.int 3), some (.int 0)], [], wd C Y1 og)) rfl ?_
  exact lp_M_putWord_3 d C Y og rd A hr hrd bf hbf (st_0.length + 1) _ 0 L Y1 h1 (Nat.zero_le _) hb (fun Y2 h2 => ⟨rfl, Y2, rfl, h2⟩) (by omega)
set_option maxHeartbeats 4000000 in
set_option maxRecDepth 100000 in
theorem lp_M_putWord_4 (d : Nat) (C : wd_C) (Y : wd_Y) (og : Nat → Int64) (rd : Nat) (A : Nat → Int32) (hr : Y.1 16 = nI rd) (hrd : rd ≤ 1) (bf : Nat) (hbf : bf ≤ 5)  : ∀ (fu : Nat) (post : Option Value → am_W → Prop) (k : Nat) (L : List Int32) (Y1 : wd_Y), (Y1 = yE Y A (bf, L)) → (k ≤ st_5.length) → ((L ++ st_5.drop k).length < 2147483648) → (∀ Y2, Y2 = yE Y A (bf, L ++ st_5.drop k) → post none (wd C Y2 og)) → st_5.length - k < fu → am_Rn l D cA ad fm (d + 1) m_M_putWord (wd C Y og).length post (2, [some (.ref 19), some (.int 4), some (.int (nI k))], [], wd C Y1 og) := by
  intro fu
  induction fu with
  | zero => intro post k L Y1 h1 hk2 hb hpo hfu; exact absurd hfu (Nat.not_lt_zero _)
  | succ fu ih =>
    intro post k L Y1 h1 hk2 hb hpo hfu
    refine am_steps_r ok_M_putWord 2 (q' := (4, [some (.ref 19), some (.int 4), some (.int (nI k))], [.int (nI k), .int 4], wd C Y1 og)) rfl ?_
    refine am_callS_r (As := [.int 4, .int (nI k)]) (rest := []) ok_M_putWord rfl rfl ok_M_letter os_M_letter lk_6_106 rfl rfl (Nat.le_of_ble_eq_true rfl) (c_M_letter_4 _ C Y1 og k (by have := hk2; have : st_5.length ≤ 9 := (by decide); omega)) ?_
    rintro v_ w_ ⟨rfl, rfl⟩ -
    refine am_eq_r (q' := (7, [some (.ref 19), some (.int 4), some (.int (nI k))], [.int (st_5.getD k 0)], wd C Y1 og)) rfl ?_
    refine am_steps_r ok_M_putWord 1 (q' := (bif decide ((st_5.getD k 0) ≤ 0) then 25 else 10, [some (.ref 19), some (.int 4), some (.int (nI k))], [], wd C Y1 og)) rfl ?_
    refine am_br_r (fun h_2 => ?_) (fun h_2 => ?_)
    · skip
      have hkl : ¬ k < st_5.length := fun z => absurd ((st_pos_5 k (by have : st_5.length ≤ 9 := (by decide); omega)).mpr z) (Int32.not_lt.mpr h_2)
      refine am_vret_r ok_M_putWord rfl rfl rfl ?_
      exact hpo _ (by rw [List.drop_eq_nil_of_le (by omega), List.append_nil]; exact h1)
    · skip
      have hkl : k < st_5.length := (st_pos_5 k (by have : st_5.length ≤ 9 := (by decide); omega)).mp (Int32.not_le.mp h_2)
      refine am_steps_r ok_M_putWord 3 (q' := (13, [some (.ref 19), some (.int 4), some (.int (nI k))], [.int (nI k), .int 4, .ref 19], wd C Y1 og)) rfl ?_
      refine am_callS_r (As := [.int 4, .int (nI k)]) (rest := [.ref 19]) ok_M_putWord rfl rfl ok_M_letter os_M_letter lk_6_106 rfl rfl (Nat.le_of_ble_eq_true rfl) (c_M_letter_4 _ C Y1 og k (by have := hk2; have : st_5.length ≤ 9 := (by decide); omega)) ?_
      rintro v_ w_ ⟨rfl, rfl⟩ -
      refine am_eq_r (q' := (16, [some (.ref 19), some (.int 4), some (.int (nI k))], [.int (st_5.getD k 0), .ref 19], wd C Y1 og)) rfl ?_
      refine am_callV_r (As := [.int (st_5.getD k 0)]) (rest := []) ok_M_putWord rfl rfl ok_M_put oi_M_put lk_6_270 (Or.inl ⟨_, _, _, rfl, rfl, rfl⟩) rfl rfl (Nat.le_of_ble_eq_true rfl) (c_M_put _ C Y og rd A hr hrd bf L (by omega) Y1 h1 (st_5.getD k 0) (by have h9 := congrArg List.length (drop_get (bs := st_5) (k := k) hkl); simp only [List.length_append, List.length_cons] at hb h9; omega)) ?_
      rintro v_ w_ ⟨rfl, Y_4, rfl, hY_5⟩ -
      refine am_eq_r (q' := (19, [some (.ref 19), some (.int 4), some (.int (nI k))], [], wd C Y_4 og)) rfl ?_
      refine am_steps_r ok_M_putWord 2 (q' := (2, [some (.ref 19), some (.int 4), some (.int ((nI k) + 1))], [], wd C Y_4 og)) rfl ?_
      rw [show ((nI k) + 1 : Int32) = nI (k + 1) from nI_add k 1]
      exact ih post (k + 1) (L ++ [st_5.getD k 0]) Y_4 hY_5 (by omega) (by rw [app_app1, ← drop_get hkl]; exact hb) (by rw [app_app1, ← drop_get hkl]; exact hpo) (by omega)
set_option maxHeartbeats 4000000 in
set_option maxRecDepth 100000 in
theorem c_M_putWord_4 (d : Nat) (C : wd_C) (Y : wd_Y) (og : Nat → Int64) (rd : Nat) (A : Nat → Int32) (hr : Y.1 16 = nI rd) (hrd : rd ≤ 1) (bf : Nat) (L : List Int32) (hbf : bf ≤ 5) (Y1 : wd_Y) (h1 : Y1 = yE Y A (bf, L)) (hb : (L ++ st_5).length < 2147483648) : am_Mt l D cA ad fm (d + 1) m_M_putWord [.ref 19, .int 4] (wd C Y1 og) (fun vr w' => vr = none ∧ ∃ Y2, w' = wd C Y2 og ∧ Y2 = yE Y A (bf, L ++ st_5)) := by
  refine am_mt ok_M_putWord (by simp [am_arg, Value.category, m_M_putWord, am_ml]) ?_
  refine am_eq_r (q' := (0, [some (.ref 19), some (.int 4), none], [], wd C Y1 og)) rfl ?_
  refine am_steps_r ok_M_putWord 2 (q' := (2, [some (.ref 19), some (.int 4), some (.int 0)], [], wd C Y1 og)) rfl ?_
  exact lp_M_putWord_4 d C Y og rd A hr hrd bf hbf (st_5.length + 1) _ 0 L Y1 h1 (Nat.zero_le _) hb (fun Y2 h2 => ⟨rfl, Y2, rfl, h2⟩) (by omega)
set_option maxHeartbeats 4000000 in
set_option maxRecDepth 100000 in
theorem lp_M_putWord_5 (d : Nat) (C : wd_C) (Y : wd_Y) (og : Nat → Int64) (rd : Nat) (A : Nat → Int32) (hr : Y.1 16 = nI rd) (hrd : rd ≤ 1) (bf : Nat) (hbf : bf ≤ 5)  : ∀ (fu : Nat) (post : Option Value → am_W → Prop) (k : Nat) (L : List Int32) (Y1 : wd_Y), (Y1 = yE Y A (bf, L)) → (k ≤ st_6.length) → ((L ++ st_6.drop k).length < 2147483648) → (∀ Y2, Y2 = yE Y A (bf, L ++ st_6.drop k) → post none (wd C Y2 og)) → st_6.length - k < fu → am_Rn l D cA ad fm (d + 1) m_M_putWord (wd C Y og).length post (2, [some (.ref 19), some (.int 5), some (.int (nI k))], [], wd C Y1 og) := by
  intro fu
  induction fu with
  | zero => intro post k L Y1 h1 hk2 hb hpo hfu; exact absurd hfu (Nat.not_lt_zero _)
  | succ fu ih =>
    intro post k L Y1 h1 hk2 hb hpo hfu
    refine am_steps_r ok_M_putWord 2 (q' := (4, [some (.ref 19), some (.int 5), some (.int (nI k))], [.int (nI k), .int 5], wd C Y1 og)) rfl ?_
    refine am_callS_r (As := [.int 5, .int (nI k)]) (rest := []) ok_M_putWord rfl rfl ok_M_letter os_M_letter lk_6_106 rfl rfl (Nat.le_of_ble_eq_true rfl) (c_M_letter_5 _ C Y1 og k (by have := hk2; have : st_6.length ≤ 9 := (by decide); omega)) ?_
    rintro v_ w_ ⟨rfl, rfl⟩ -
    refine am_eq_r (q' := (7, [some (.ref 19), some (.int 5), some (.int (nI k))], [.int (st_6.getD k 0)], wd C Y1 og)) rfl ?_
    refine am_steps_r ok_M_putWord 1 (q' := (bif decide ((st_6.getD k 0) ≤ 0) then 25 else 10, [some (.ref 19), some (.int 5), some (.int (nI k))], [], wd C Y1 og)) rfl ?_
    refine am_br_r (fun h_2 => ?_) (fun h_2 => ?_)
    · skip
      have hkl : ¬ k < st_6.length := fun z => absurd ((st_pos_6 k (by have : st_6.length ≤ 9 := (by decide); omega)).mpr z) (Int32.not_lt.mpr h_2)
      refine am_vret_r ok_M_putWord rfl rfl rfl ?_
      exact hpo _ (by rw [List.drop_eq_nil_of_le (by omega), List.append_nil]; exact h1)
    · skip
      have hkl : k < st_6.length := (st_pos_6 k (by have : st_6.length ≤ 9 := (by decide); omega)).mp (Int32.not_le.mp h_2)
      refine am_steps_r ok_M_putWord 3 (q' := (13, [some (.ref 19), some (.int 5), some (.int (nI k))], [.int (nI k), .int 5, .ref 19], wd C Y1 og)) rfl ?_
      refine am_callS_r (As := [.int 5, .int (nI k)]) (rest := [.ref 19]) ok_M_putWord rfl rfl ok_M_letter os_M_letter lk_6_106 rfl rfl (Nat.le_of_ble_eq_true rfl) (c_M_letter_5 _ C Y1 og k (by have := hk2; have : st_6.length ≤ 9 := (by decide); omega)) ?_
      rintro v_ w_ ⟨rfl, rfl⟩ -
      refine am_eq_r (q' := (16, [some (.ref 19), some (.int 5), some (.int (nI k))], [.int (st_6.getD k 0), .ref 19], wd C Y1 og)) rfl ?_
      refine am_callV_r (As := [.int (st_6.getD k 0)]) (rest := []) ok_M_putWord rfl rfl ok_M_put oi_M_put lk_6_270 (Or.inl ⟨_, _, _, rfl, rfl, rfl⟩) rfl rfl (Nat.le_of_ble_eq_true rfl) (c_M_put _ C Y og rd A hr hrd bf L (by omega) Y1 h1 (st_6.getD k 0) (by have h9 := congrArg List.length (drop_get (bs := st_6) (k := k) hkl); simp only [List.length_append, List.length_cons] at hb h9; omega)) ?_
      rintro v_ w_ ⟨rfl, Y_4, rfl, hY_5⟩ -
      refine am_eq_r (q' := (19, [some (.ref 19), some (.int 5), some (.int (nI k))], [], wd C Y_4 og)) rfl ?_
      refine am_steps_r ok_M_putWord 2 (q' := (2, [some (.ref 19), some (.int 5), some (.int ((nI k) + 1))], [], wd C Y_4 og)) rfl ?_
      rw [show ((nI k) + 1 : Int32) = nI (k + 1) from nI_add k 1]
      exact ih post (k + 1) (L ++ [st_6.getD k 0]) Y_4 hY_5 (by omega) (by rw [app_app1, ← drop_get hkl]; exact hb) (by rw [app_app1, ← drop_get hkl]; exact hpo) (by omega)
set_option maxHeartbeats 4000000 in
set_option maxRecDepth 100000 in
theorem c_M_putWord_5 (d : Nat) (C : wd_C) (Y : wd_Y) (og : Nat → Int64) (rd : Nat) (A : Nat → Int32) (hr : Y.1 16 = nI rd) (hrd : rd ≤ 1) (bf : Nat) (L : List Int32) (hbf : bf ≤ 5) (Y1 : wd_Y) (h1 : Y1 = yE Y A (bf, L)) (hb : (L ++ st_6).length < 2147483648) : am_Mt l D cA ad fm (d + 1) m_M_putWord [.ref 19, .int 5] (wd C Y1 og) (fun vr w' => vr = none ∧ ∃ Y2, w' = wd C Y2 og ∧ Y2 = yE Y A (bf, L ++ st_6)) := by
  refine am_mt ok_M_putWord (by simp [am_arg, Value.category, m_M_putWord, am_ml]) ?_
  refine am_eq_r (q' := (0, [some (.ref 19), some (.int 5), none], [], wd C Y1 og)) rfl ?_
  refine am_steps_r ok_M_putWord 2 (q' := (2, [some (.ref 19), some (.int 5), some (.int 0)], [], wd C Y1 og)) rfl ?_
  exact lp_M_putWord_5 d C Y og rd A hr hrd bf hbf (st_6.length + 1) _ 0 L Y1 h1 (Nat.zero_le _) hb (fun Y2 h2 => ⟨rfl, Y2, rfl, h2⟩) (by omega)
set_option maxHeartbeats 4000000 in
set_option maxRecDepth 100000 in
theorem lp_M_putWord_6 (d : Nat) (C : wd_C) (Y : wd_Y) (og : Nat → Int64) (rd : Nat) (A : Nat → Int32) (hr : Y.1 16 = nI rd) (hrd : rd ≤ 1) (bf : Nat) (hbf : bf ≤ 5)  : ∀ (fu : Nat) (post : Option Value → am_W → Prop) (k : Nat) (L : List Int32) (Y1 : wd_Y), (Y1 = yE Y A (bf, L)) → (k ≤ st_4.length) → ((L ++ st_4.drop k).length < 2147483648) → (∀ Y2, Y2 = yE Y A (bf, L ++ st_4.drop k) → post none (wd C Y2 og)) → st_4.length - k < fu → am_Rn l D cA ad fm (d + 1) m_M_putWord (wd C Y og).length post (2, [some (.ref 19), some (.int 6), some (.int (nI k))], [], wd C Y1 og) := by
  intro fu
  induction fu with
  | zero => intro post k L Y1 h1 hk2 hb hpo hfu; exact absurd hfu (Nat.not_lt_zero _)
  | succ fu ih =>
    intro post k L Y1 h1 hk2 hb hpo hfu
    refine am_steps_r ok_M_putWord 2 (q' := (4, [some (.ref 19), some (.int 6), some (.int (nI k))], [.int (nI k), .int 6], wd C Y1 og)) rfl ?_
    refine am_callS_r (As := [.int 6, .int (nI k)]) (rest := []) ok_M_putWord rfl rfl ok_M_letter os_M_letter lk_6_106 rfl rfl (Nat.le_of_ble_eq_true rfl) (c_M_letter_6 _ C Y1 og k (by have := hk2; have : st_4.length ≤ 9 := (by decide); omega)) ?_
    rintro v_ w_ ⟨rfl, rfl⟩ -
    refine am_eq_r (q' := (7, [some (.ref 19), some (.int 6), some (.int (nI k))], [.int (st_4.getD k 0)], wd C Y1 og)) rfl ?_
    refine am_steps_r ok_M_putWord 1 (q' := (bif decide ((st_4.getD k 0) ≤ 0) then 25 else 10, [some (.ref 19), some (.int 6), some (.int (nI k))], [], wd C Y1 og)) rfl ?_
    refine am_br_r (fun h_2 => ?_) (fun h_2 => ?_)
    · skip
      have hkl : ¬ k < st_4.length := fun z => absurd ((st_pos_4 k (by have : st_4.length ≤ 9 := (by decide); omega)).mpr z) (Int32.not_lt.mpr h_2)
      refine am_vret_r ok_M_putWord rfl rfl rfl ?_
      exact hpo _ (by rw [List.drop_eq_nil_of_le (by omega), List.append_nil]; exact h1)
    · skip
      have hkl : k < st_4.length := (st_pos_4 k (by have : st_4.length ≤ 9 := (by decide); omega)).mp (Int32.not_le.mp h_2)
      refine am_steps_r ok_M_putWord 3 (q' := (13, [some (.ref 19), some (.int 6), some (.int (nI k))], [.int (nI k), .int 6, .ref 19], wd C Y1 og)) rfl ?_
      refine am_callS_r (As := [.int 6, .int (nI k)]) (rest := [.ref 19]) ok_M_putWord rfl rfl ok_M_letter os_M_letter lk_6_106 rfl rfl (Nat.le_of_ble_eq_true rfl) (c_M_letter_6 _ C Y1 og k (by have := hk2; have : st_4.length ≤ 9 := (by decide); omega)) ?_
      rintro v_ w_ ⟨rfl, rfl⟩ -
      refine am_eq_r (q' := (16, [some (.ref 19), some (.int 6), some (.int (nI k))], [.int (st_4.getD k 0), .ref 19], wd C Y1 og)) rfl ?_
      refine am_callV_r (As := [.int (st_4.getD k 0)]) (rest := []) ok_M_putWord rfl rfl ok_M_put oi_M_put lk_6_270 (Or.inl ⟨_, _, _, rfl, rfl, rfl⟩) rfl rfl (Nat.le_of_ble_eq_true rfl) (c_M_put _ C Y og rd A hr hrd bf L (by omega) Y1 h1 (st_4.getD k 0) (by have h9 := congrArg List.length (drop_get (bs := st_4) (k := k) hkl); simp only [List.length_append, List.length_cons] at hb h9; omega)) ?_
      rintro v_ w_ ⟨rfl, Y_4, rfl, hY_5⟩ -
      refine am_eq_r (q' := (19, [some (.ref 19), some (.int 6), some (.int (nI k))], [], wd C Y_4 og)) rfl ?_
      refine am_steps_r ok_M_putWord 2 (q' := (2, [some (.ref 19), some (.int 6), some (.int ((nI k) + 1))], [], wd C Y_4 og)) rfl ?_
      rw [show ((nI k) + 1 : Int32) = nI (k + 1) from nI_add k 1]
      exact ih post (k + 1) (L ++ [st_4.getD k 0]) Y_4 hY_5 (by omega) (by rw [app_app1, ← drop_get hkl]; exact hb) (by rw [app_app1, ← drop_get hkl]; exact hpo) (by omega)
set_option maxHeartbeats 4000000 in
set_option maxRecDepth 100000 in
theorem c_M_putWord_6 (d : Nat) (C : wd_C) (Y : wd_Y) (og : Nat → Int64) (rd : Nat) (A : Nat → Int32) (hr : Y.1 16 = nI rd) (hrd : rd ≤ 1) (bf : Nat) (L : List Int32) (hbf : bf ≤ 5) (Y1 : wd_Y) (h1 : Y1 = yE Y A (bf, L)) (hb : (L ++ st_4).length < 2147483648) : am_Mt l D cA ad fm (d + 1) m_M_putWord [.ref 19, .int 6] (wd C Y1 og) (fun vr w' => vr = none ∧ ∃ Y2, w' = wd C Y2 og ∧ Y2 = yE Y A (bf, L ++ st_4)) := by
  refine am_mt ok_M_putWord (by simp [am_arg, Value.category, m_M_putWord, am_ml]) ?_
  refine am_eq_r (q' := (0, [some (.ref 19), some (.int 6), none], [], wd C Y1 og)) rfl ?_
  refine am_steps_r ok_M_putWord 2 (q' := (2, [some (.ref 19), some (.int 6), some (.int 0)], [], wd C Y1 og)) rfl ?_
  exact lp_M_putWord_6 d C Y og rd A hr hrd bf hbf (st_4.length + 1) _ 0 L Y1 h1 (Nat.zero_le _) hb (fun Y2 h2 => ⟨rfl, Y2, rfl, h2⟩) (by omega)
set_option maxHeartbeats 4000000 in
set_option maxRecDepth 100000 in
theorem lp_M_putWord_7 (d : Nat) (C : wd_C) (Y : wd_Y) (og : Nat → Int64) (rd : Nat) (A : Nat → Int32) (hr : Y.1 16 = nI rd) (hrd : rd ≤ 1) (bf : Nat) (hbf : bf ≤ 5)  : ∀ (fu : Nat) (post : Option Value → am_W → Prop) (k : Nat) (L : List Int32) (Y1 : wd_Y), (Y1 = yE Y A (bf, L)) → (k ≤ st_8.length) → ((L ++ st_8.drop k).length < 2147483648) → (∀ Y2, Y2 = yE Y A (bf, L ++ st_8.drop k) → post none (wd C Y2 og)) → st_8.length - k < fu → am_Rn l D cA ad fm (d + 1) m_M_putWord (wd C Y og).length post (2, [some (.ref 19), some (.int 7), some (.int (nI k))], [], wd C Y1 og) := by
  intro fu
  induction fu with
  | zero => intro post k L Y1 h1 hk2 hb hpo hfu; exact absurd hfu (Nat.not_lt_zero _)
  | succ fu ih =>
    intro post k L Y1 h1 hk2 hb hpo hfu
    refine am_steps_r ok_M_putWord 2 (q' := (4, [some (.ref 19), some (.int 7), some (.int (nI k))], [.int (nI k), .int 7], wd C Y1 og)) rfl ?_
    refine am_callS_r (As := [.int 7, .int (nI k)]) (rest := []) ok_M_putWord rfl rfl ok_M_letter os_M_letter lk_6_106 rfl rfl (Nat.le_of_ble_eq_true rfl) (c_M_letter_7 _ C Y1 og k (by have := hk2; have : st_8.length ≤ 9 := (by decide); omega)) ?_
    rintro v_ w_ ⟨rfl, rfl⟩ -
    refine am_eq_r (q' := (7, [some (.ref 19), some (.int 7), some (.int (nI k))], [.int (st_8.getD k 0)], wd C Y1 og)) rfl ?_
    refine am_steps_r ok_M_putWord 1 (q' := (bif decide ((st_8.getD k 0) ≤ 0) then 25 else 10, [some (.ref 19), some (.int 7), some (.int (nI k))], [], wd C Y1 og)) rfl ?_
    refine am_br_r (fun h_2 => ?_) (fun h_2 => ?_)
    · skip
      have hkl : ¬ k < st_8.length := fun z => absurd ((st_pos_8 k (by have : st_8.length ≤ 9 := (by decide); omega)).mpr z) (Int32.not_lt.mpr h_2)
      refine am_vret_r ok_M_putWord rfl rfl rfl ?_
      exact hpo _ (by rw [List.drop_eq_nil_of_le (by omega), List.append_nil]; exact h1)
    · skip
      have hkl : k < st_8.length := (st_pos_8 k (by have : st_8.length ≤ 9 := (by decide); omega)).mp (Int32.not_le.mp h_2)
      refine am_steps_r ok_M_putWord 3 (q' := (13, [some (.ref 19), some (.int 7), some (.int (nI k))], [.int (nI k), .int 7, .ref 19], wd C Y1 og)) rfl ?_
      refine am_callS_r (As := [.int 7, .int (nI k)]) (rest := [.ref 19]) ok_M_putWord rfl rfl ok_M_letter os_M_letter lk_6_106 rfl rfl (Nat.le_of_ble_eq_true rfl) (c_M_letter_7 _ C Y1 og k (by have := hk2; have : st_8.length ≤ 9 := (by decide); omega)) ?_
      rintro v_ w_ ⟨rfl, rfl⟩ -
      refine am_eq_r (q' := (16, [some (.ref 19), some (.int 7), some (.int (nI k))], [.int (st_8.getD k 0), .ref 19], wd C Y1 og)) rfl ?_
      refine am_callV_r (As := [.int (st_8.getD k 0)]) (rest := []) ok_M_putWord rfl rfl ok_M_put oi_M_put lk_6_270 (Or.inl ⟨_, _, _, rfl, rfl, rfl⟩) rfl rfl (Nat.le_of_ble_eq_true rfl) (c_M_put _ C Y og rd A hr hrd bf L (by omega) Y1 h1 (st_8.getD k 0) (by have h9 := congrArg List.length (drop_get (bs := st_8) (k := k) hkl); simp only [List.length_append, List.length_cons] at hb h9; omega)) ?_
      rintro v_ w_ ⟨rfl, Y_4, rfl, hY_5⟩ -
      refine am_eq_r (q' := (19, [some (.ref 19), some (.int 7), some (.int (nI k))], [], wd C Y_4 og)) rfl ?_
      refine am_steps_r ok_M_putWord 2 (q' := (2, [some (.ref 19), some (.int 7), some (.int ((nI k) + 1))], [], wd C Y_4 og)) rfl ?_
      rw [show ((nI k) + 1 : Int32) = nI (k + 1) from nI_add k 1]
      exact ih post (k + 1) (L ++ [st_8.getD k 0]) Y_4 hY_5 (by omega) (by rw [app_app1, ← drop_get hkl]; exact hb) (by rw [app_app1, ← drop_get hkl]; exact hpo) (by omega)
set_option maxHeartbeats 4000000 in
set_option maxRecDepth 100000 in
theorem c_M_putWord_7 (d : Nat) (C : wd_C) (Y : wd_Y) (og : Nat → Int64) (rd : Nat) (A : Nat → Int32) (hr : Y.1 16 = nI rd) (hrd : rd ≤ 1) (bf : Nat) (L : List Int32) (hbf : bf ≤ 5) (Y1 : wd_Y) (h1 : Y1 = yE Y A (bf, L)) (hb : (L ++ st_8).length < 2147483648) : am_Mt l D cA ad fm (d + 1) m_M_putWord [.ref 19, .int 7] (wd C Y1 og) (fun vr w' => vr = none ∧ ∃ Y2, w' = wd C Y2 og ∧ Y2 = yE Y A (bf, L ++ st_8)) := by
  refine am_mt ok_M_putWord (by simp [am_arg, Value.category, m_M_putWord, am_ml]) ?_
  refine am_eq_r (q' := (0, [some (.ref 19), some (.int 7), none], [], wd C Y1 og)) rfl ?_
  refine am_steps_r ok_M_putWord 2 (q' := (2, [some (.ref 19), some (.int 7), some (.int 0)], [], wd C Y1 og)) rfl ?_
  exact lp_M_putWord_7 d C Y og rd A hr hrd bf hbf (st_8.length + 1) _ 0 L Y1 h1 (Nat.zero_le _) hb (fun Y2 h2 => ⟨rfl, Y2, rfl, h2⟩) (by omega)
set_option maxHeartbeats 4000000 in
set_option maxRecDepth 100000 in
theorem lp_M_putNumber_50 (d : Nat) (C : wd_C) (Y : wd_Y) (og : Nat → Int64) (rd : Nat) (A : Nat → Int32) (hr : Y.1 16 = nI rd) (hrd : rd ≤ 1) (bf : Nat) (hbf : bf ≤ 5) (x : Int64) (n : Nat) (hn : n < 2 ^ 62)  : ∀ (fu : Nat) (post : Option Value → am_W → Prop) (e : Nat) (L : List Int32) (Y1 : wd_Y), (Y1 = yE Y A (bf, L)) → (e ≤ 9) → ((L ++ fgG n e).length < 2147483648) → (∀ Y2, Y2 = yE Y A (bf, L ++ fgG n e) → post none (wd C Y2 og)) → e < fu → am_Rn l D cA ad fm (d + 1) m_M_putNumber (wd C Y og).length post (50, [some (.ref 19), some (.long x), none, some (.long (lN n)), none, some (.long (lN (un e))), none], [], wd C Y1 og) := by
  intro fu
  induction fu with
  | zero => intro post e L Y1 h1 he hb hpo hfu; exact absurd hfu (Nat.not_lt_zero _)
  | succ fu ih =>
    intro post e L Y1 h1 he hb hpo hfu
    have hu := un_le he
    refine am_steps_r ok_M_putNumber 4 (q' := (bif decide ((lg_cmp (lN (un e)) 0) ≤ 0) then 85 else 57, [some (.ref 19), some (.long x), none, some (.long (lN n)), none, some (.long (lN (un e))), none], [], wd C Y1 og)) rfl ?_
    refine am_br_r (fun h_1 => ?_) (fun h_1 => ?_)
    · skip
      have h_1 : (un e) ≤ 0 := (cN_le (a := un e) (b := 0) (by omega) (by omega)).mp h_1
      refine am_vret_r ok_M_putNumber rfl rfl rfl ?_
      exact hpo _ (by rw [fgG_no (by assumption), List.append_nil]; exact h1)
    · skip
      have h_1 : ¬ (un e) ≤ 0 := fun z => h_1 ((cN_le (a := un e) (b := 0) (by omega) (by omega)).mpr z)
      refine am_steps_r ok_M_putNumber 4 (q' := (64, [some (.ref 19), some (.long x), none, some (.long (lN n)), none, some (.long (lN (un e))), none], [.long (lN (un e)), .long (lN n), .long 48, .ref 19], wd C Y1 og)) rfl ?_
      refine am_ldiv_r ok_M_putNumber rfl (lN_ne0 (a_ := un e) (by omega) (by omega)) ?_
      rw [lNdiv (a_ := n) (b_ := un e) (by omega) (by omega)]
      have hdv_2 := Nat.div_le_self n (un e)
      refine am_eq_r (q' := (65, [some (.ref 19), some (.long x), none, some (.long (lN n)), none, some (.long (lN (un e))), none], [.long (lN (n / (un e))), .long 48, .ref 19], wd C Y1 og)) rfl ?_
      refine am_steps_r ok_M_putNumber 4 (q' := (71, [some (.ref 19), some (.long x), none, some (.long (lN n)), none, some (.long (lN (un e))), none], [.int ((48 + ((lN (n / (un e))) - (lN (n / (un e))) / 10 * 10)).toInt32), .ref 19], wd C Y1 og)) rfl ?_
      rw [show (((lN (n / (un e))) - (lN (n / (un e))) / 10 * 10) : Int64) = lN ((n / (un e)) % 10) from lNrem (a_ := n / (un e)) (b_ := 10) (by omega) (by omega)]
      rw [show (48 + (lN ((n / (un e)) % 10)) : Int64) = lN (48 + ((n / (un e)) % 10)) from (lNadd 48 ((n / (un e)) % 10))]
      rw [show ((lN (48 + ((n / (un e)) % 10))).toInt32 : Int32) = nI (48 + ((n / (un e)) % 10)) from lNi (48 + ((n / (un e)) % 10))]
      refine am_callV_r (As := [.int (nI (48 + ((n / (un e)) % 10)))]) (rest := []) ok_M_putNumber rfl rfl ok_M_put oi_M_put lk_6_270 (Or.inl ⟨_, _, _, rfl, rfl, rfl⟩) rfl rfl (Nat.le_of_ble_eq_true rfl) (c_M_put _ C Y og rd A hr hrd bf L (by omega) Y1 h1 (nI (48 + ((n / (un e)) % 10))) (by rw [fgG_put (by assumption)] at hb; first | omega | (simp only [List.length_append, List.length_cons, List.length_nil] at hb ⊢; omega) | (simp only [List.length_append, List.length_cons, List.length_nil]; omega))) ?_
      rintro v_ w_ ⟨rfl, Y_3, rfl, hY_4⟩ -
      refine am_eq_r (q' := (74, [some (.ref 19), some (.long x), none, some (.long (lN n)), none, some (.long (lN (un e))), none], [], wd C Y_3 og)) rfl ?_
      refine am_steps_r ok_M_putNumber 5 (q' := (50, [some (.ref 19), some (.long x), none, some (.long (lN n)), none, some (.long ((lN (un e)) / 10)), none], [], wd C Y_3 og)) rfl ?_
      rw [show (((lN (un e)) / 10) : Int64) = lN ((un e) / 10) from lNdiv (a_ := un e) (b_ := 10) (by omega) (by omega)]
      rw [un_div]
      exact ih post (e - 1) (L ++ [nI (48 + n / un e % 10)]) Y_3 hY_4 (by omega) (by rw [fgG_put (by assumption), ← app_app1] at hb; exact hb) (by rw [fgG_put (by assumption), ← app_app1] at hpo; exact hpo) (by have := un_ne (show ¬ un e ≤ 0 by assumption); omega)
set_option maxHeartbeats 4000000 in
set_option maxRecDepth 100000 in
theorem lp_M_putNumber_28 (d : Nat) (C : wd_C) (Y : wd_Y) (og : Nat → Int64) (rd : Nat) (A : Nat → Int32) (hr : Y.1 16 = nI rd) (hrd : rd ≤ 1) (bf : Nat) (L : List Int32) (hbf : bf ≤ 5) (Y1 : wd_Y) (h1 : Y1 = yE Y A (bf, L)) (x : Int64) (n : Nat) (hn9 : n < 1000000000) (hb : (L ++ fgL n).length < 2147483648)  : ∀ (fu : Nat) (post : Option Value → am_W → Prop) (j : Nat), (j = 0 ∨ 10 ^ j ≤ n) → (∀ Y2, Y2 = yE Y A (bf, L ++ fgL n) → post none (wd C Y2 og)) → 9 - j < fu → am_Rn l D cA ad fm (d + 1) m_M_putNumber (wd C Y og).length post (28, [some (.ref 19), some (.long x), none, some (.long (lN n)), none, some (.long (lN (10 ^ j))), none], [], wd C Y1 og) := by
  intro fu
  induction fu with
  | zero => intro post j hj hpo hfu; exact absurd hfu (Nat.not_lt_zero _)
  | succ fu ih =>
    intro post j hj hpo hfu
    have hpp : 0 < 10 ^ j := Nat.pow_pos (by decide)
    have hj8 := pw9 hn9 hj
    have hpw : 10 ^ j ≤ 100000000 := Nat.pow_le_pow_right (by decide) hj8
    refine am_steps_r ok_M_putNumber 2 (q' := (31, [some (.ref 19), some (.long x), none, some (.long (lN n)), none, some (.long (lN (10 ^ j))), none], [.long (lN (10 ^ j)), .long (lN n)], wd C Y1 og)) rfl ?_
    refine am_ldiv_r ok_M_putNumber rfl (lN_ne0 (a_ := 10 ^ j) (by omega) (by omega)) ?_
    rw [lNdiv (a_ := n) (b_ := 10 ^ j) (by omega) (by omega)]
    have hdv_1 := Nat.div_le_self n (10 ^ j)
    refine am_eq_r (q' := (32, [some (.ref 19), some (.long x), none, some (.long (lN n)), none, some (.long (lN (10 ^ j))), none], [.long (lN (n / (10 ^ j)))], wd C Y1 og)) rfl ?_
    refine am_steps_r ok_M_putNumber 3 (q' := (bif decide ((lg_cmp (lN (n / (10 ^ j))) 9) ≤ 0) then 50 else 39, [some (.ref 19), some (.long x), none, some (.long (lN n)), none, some (.long (lN (10 ^ j))), none], [], wd C Y1 og)) rfl ?_
    refine am_br_r (fun h_2 => ?_) (fun h_2 => ?_)
    · skip
      have h_2 : (n / (10 ^ j)) ≤ 9 := (cN_le (a := n / (10 ^ j)) (b := 9) (by omega) (by omega)).mp h_2
      have hj2 := pw_dn (n := n) (j := j) (by omega)
      have hL9 := fgL_F hj2 hj (pw9 hn9 hj)
      exact lp_M_putNumber_50 d C Y og rd A hr hrd bf hbf x n (by omega) 11 post (j + 1) L Y1 h1 (by have := pw9 hn9 hj; omega) (by rw [hL9] at hb; exact hb) (by rw [hL9] at hpo; exact hpo) (by have := pw9 hn9 hj; omega)
    · skip
      have h_2 : ¬ (n / (10 ^ j)) ≤ 9 := fun z => h_2 ((cN_le (a := n / (10 ^ j)) (b := 9) (by omega) (by omega)).mpr z)
      refine am_steps_r ok_M_putNumber 5 (q' := (28, [some (.ref 19), some (.long x), none, some (.long (lN n)), none, some (.long (10 * (lN (10 ^ j)))), none], [], wd C Y1 og)) rfl ?_
      rw [show (10 * (lN (10 ^ j)) : Int64) = lN (10 * (10 ^ j)) from (lNmul 10 (10 ^ j))]
      rw [show 10 * 10 ^ j = 10 ^ (j + 1) by rw [Nat.pow_succ, Nat.mul_comm]]
      exact ih post (j + 1) (Or.inr (pw_up (by omega))) hpo (by have := pw9 hn9 (Or.inr (pw_up (n := n) (j := j) (by omega))); omega)
set_option maxHeartbeats 4000000 in
set_option maxRecDepth 100000 in
theorem c_M_putNumber (d : Nat) (C : wd_C) (Y : wd_Y) (og : Nat → Int64) (rd : Nat) (A : Nat → Int32) (hr : Y.1 16 = nI rd) (hrd : rd ≤ 1) (bf : Nat) (L : List Int32) (hbf : bf ≤ 5) (Y1 : wd_Y) (h1 : Y1 = yE Y A (bf, L)) (x : Int64) (hx9 : abN x < 1000000000) (hb : L.length + (fgL (abN x)).length + 2 < 2147483648) : am_Mt l D cA ad fm (d + 1) m_M_putNumber [.ref 19, .long x] (wd C Y1 og) (fun vr w' => vr = none ∧ ∃ Y2, w' = wd C Y2 og ∧ Y2 = yE Y A (bf, L ++ wnL (isN x) (abN x))) := by
  have hx : abN x < 2 ^ 62 := by omega
  refine am_mt ok_M_putNumber (by simp [am_arg, Value.category, m_M_putNumber, am_ml]) ?_
  refine am_eq_r (q' := (0, [some (.ref 19), some (.long x), none, none, none, none, none], [], wd C Y1 og)) rfl ?_
  refine am_steps_r ok_M_putNumber 4 (q' := (bif decide (0 ≤ (lg_cmp x 0)) then 12 else 6, [some (.ref 19), some (.long x), none, none, none, none, none], [], wd C Y1 og)) rfl ?_
  refine am_br_r (fun h_1 => ?_) (fun h_1 => ?_)
  · skip
    have hsg : isN x = false := sgn_ge.mp h_1
    refine am_steps_r ok_M_putNumber 4 (q' := (bif decide (0 ≤ (lg_cmp x 0)) then 23 else 18, [some (.ref 19), some (.long x), none, none, none, none, none], [], wd C Y1 og)) rfl ?_
    refine am_br_r (fun h_2 => ?_) (fun h_2 => ?_)
    · skip
      refine am_steps_r ok_M_putNumber 1 (q' := (24, [some (.ref 19), some (.long x), none, none, none, none, none], [.long x], wd C Y1 og)) rfl ?_
      have hpx : x = lN (abN x) := pos_N hx hsg
      refine am_eq_r (q' := (24, [some (.ref 19), some (.long x), none, none, none, none, none], [.long (lN (abN x))], wd C Y1 og)) (by rw [← hpx]) ?_
      refine am_steps_r ok_M_putNumber 3 (q' := (28, [some (.ref 19), some (.long x), none, some (.long (lN (abN x))), none, some (.long 1), none], [], wd C Y1 og)) rfl ?_
      refine am_eq_r (q' := (28, [some (.ref 19), some (.long x), none, some (.long (lN (abN x))), none, some (.long (lN (10 ^ 0))), none], [], wd C Y1 og)) rfl ?_
      refine lp_M_putNumber_28 d C Y og rd A hr hrd bf L hbf Y1 h1 x (abN x) hx9 (by first | omega | (simp only [List.length_append, List.length_cons, List.length_nil] at hb ⊢; omega) | (simp only [List.length_append, List.length_cons, List.length_nil]; omega)) 10 _ 0 (Or.inl rfl) (fun Y2 h2 => ⟨rfl, Y2, rfl, ?_⟩) (by omega)
      rw [h2, wnL, hsg]
      simp only [ngL, if_true, if_false, Bool.false_eq_true, List.append_assoc, List.nil_append]
    · skip
      exact absurd (sgn_ge.mpr hsg) h_2
  · skip
    have hsg : isN x = true := by rcases hz : isN x with _ | _; exact absurd (sgn_ge.mpr hz) h_1; rfl
    refine am_steps_r ok_M_putNumber 2 (q' := (9, [some (.ref 19), some (.long x), none, none, none, none, none], [.int 45, .ref 19], wd C Y1 og)) rfl ?_
    refine am_callV_r (As := [.int 45]) (rest := []) ok_M_putNumber rfl rfl ok_M_put oi_M_put lk_6_270 (Or.inl ⟨_, _, _, rfl, rfl, rfl⟩) rfl rfl (Nat.le_of_ble_eq_true rfl) (c_M_put _ C Y og rd A hr hrd bf L (by omega) Y1 h1 45 (by first | omega | (simp only [List.length_append, List.length_cons, List.length_nil] at hb ⊢; omega) | (simp only [List.length_append, List.length_cons, List.length_nil]; omega))) ?_
    rintro v_ w_ ⟨rfl, Y_3, rfl, hY_4⟩ -
    refine am_eq_r (q' := (12, [some (.ref 19), some (.long x), none, none, none, none, none], [], wd C Y_3 og)) rfl ?_
    refine am_steps_r ok_M_putNumber 4 (q' := (bif decide (0 ≤ (lg_cmp x 0)) then 23 else 18, [some (.ref 19), some (.long x), none, none, none, none, none], [], wd C Y_3 og)) rfl ?_
    refine am_br_r (fun h_5 => ?_) (fun h_5 => ?_)
    · skip
      exact absurd (hsg.symm.trans (sgn_ge.mp h_5)) (by decide)
    · skip
      refine am_steps_r ok_M_putNumber 3 (q' := (24, [some (.ref 19), some (.long x), none, none, none, none, none], [.long (-x)], wd C Y_3 og)) rfl ?_
      rw [neg_N hx hsg]
      refine am_steps_r ok_M_putNumber 3 (q' := (28, [some (.ref 19), some (.long x), none, some (.long (lN (abN x))), none, some (.long 1), none], [], wd C Y_3 og)) rfl ?_
      refine am_eq_r (q' := (28, [some (.ref 19), some (.long x), none, some (.long (lN (abN x))), none, some (.long (lN (10 ^ 0))), none], [], wd C Y_3 og)) rfl ?_
      refine lp_M_putNumber_28 d C Y og rd A hr hrd bf (L ++ [45]) hbf Y_3 hY_4 x (abN x) hx9 (by first | omega | (simp only [List.length_append, List.length_cons, List.length_nil] at hb ⊢; omega) | (simp only [List.length_append, List.length_cons, List.length_nil]; omega)) 10 _ 0 (Or.inl rfl) (fun Y2 h2 => ⟨rfl, Y2, rfl, ?_⟩) (by omega)
      rw [h2, wnL, hsg]
      simp only [ngL, if_true, if_false, Bool.false_eq_true, List.append_assoc, List.nil_append]
set_option maxHeartbeats 4000000 in
set_option maxRecDepth 100000 in
theorem lp_M_putReal_60 (d : Nat) (C : wd_C) (Y : wd_Y) (og : Nat → Int64) (rd : Nat) (A : Nat → Int32) (hr : Y.1 16 = nI rd) (hrd : rd ≤ 1) (bf : Nat) (hbf : bf ≤ 5) (x : Int64) (n : Nat) (hn : n < 2 ^ 62)  : ∀ (fu : Nat) (post : Option Value → am_W → Prop) (e : Nat) (r : Nat) (L : List Int32) (Y1 : wd_Y), (Y1 = yE Y A (bf, L)) → (e ≤ 9) → (r < 10 ^ e) → ((L ++ frL e r).length + 1 < 2147483648) → (∀ Y2, Y2 = yE Y A (bf, L ++ frL e r ++ (if x = 0 then [48] else [])) → post none (wd C Y2 og)) → e < fu → am_Rn l D cA ad fm (d + 1) m_M_putReal (wd C Y og).length post (60, [some (.ref 19), some (.long x), none, some (.long (lN n)), none, some (.long (lN r)), none, some (.long (lN (un e))), none], [], wd C Y1 og) := by
  intro fu
  induction fu with
  | zero => intro post e r L Y1 h1 he hre hb hpo hfu; exact absurd hfu (Nat.not_lt_zero _)
  | succ fu ih =>
    intro post e r L Y1 h1 he hre hb hpo hfu
    have hu := un_le he
    have hp9 : 10 ^ e ≤ 1000000000 := Nat.pow_le_pow_right (by decide) he
    refine am_steps_r ok_M_putReal 4 (q' := (bif decide ((lg_cmp (lN r) 0) ≤ 0) then 99 else 67, [some (.ref 19), some (.long x), none, some (.long (lN n)), none, some (.long (lN r)), none, some (.long (lN (un e))), none], [], wd C Y1 og)) rfl ?_
    refine am_br_r (fun h_1 => ?_) (fun h_1 => ?_)
    · skip
      have h_1 : r ≤ 0 := (cN_le (a := r) (b := 0) (by omega) (by omega)).mp h_1
      refine am_steps_r ok_M_putReal 4 (q' := (bif decide ((lg_cmp x 0) = 0) then 105 else 111, [some (.ref 19), some (.long x), none, some (.long (lN n)), none, some (.long (lN r)), none, some (.long (lN (un e))), none], [], wd C Y1 og)) rfl ?_
      refine am_br_r (fun h_2 => ?_) (fun h_2 => ?_)
      · skip
        refine am_steps_r ok_M_putReal 2 (q' := (108, [some (.ref 19), some (.long x), none, some (.long (lN n)), none, some (.long (lN r)), none, some (.long (lN (un e))), none], [.int 48, .ref 19], wd C Y1 og)) rfl ?_
        refine am_callV_r (As := [.int 48]) (rest := []) ok_M_putReal rfl rfl ok_M_put oi_M_put lk_6_270 (Or.inl ⟨_, _, _, rfl, rfl, rfl⟩) rfl rfl (Nat.le_of_ble_eq_true rfl) (c_M_put _ C Y og rd A hr hrd bf L (by omega) Y1 h1 48 (by first | (rw [frL_no (Or.inr (by assumption))] at hb; first | omega | (simp only [List.length_append, List.length_cons, List.length_nil] at hb ⊢; omega) | (simp only [List.length_append, List.length_cons, List.length_nil]; omega)) | (rw [frL_put hue (by assumption)] at hb; first | omega | (simp only [List.length_append, List.length_cons, List.length_nil] at hb ⊢; omega) | (simp only [List.length_append, List.length_cons, List.length_nil]; omega)))) ?_
        rintro v_ w_ ⟨rfl, Y_3, rfl, hY_4⟩ -
        refine am_eq_r (q' := (111, [some (.ref 19), some (.long x), none, some (.long (lN n)), none, some (.long (lN r)), none, some (.long (lN (un e))), none], [], wd C Y_3 og)) rfl ?_
        refine am_vret_r ok_M_putReal rfl rfl rfl ?_
        refine hpo _ ?_
        rw [frL_no (e := e) (r := r) (Or.inr (by assumption)), List.append_nil, if_pos (by first | assumption | exact cmp_0.mp (by assumption))]
        exact hY_4
      · skip
        refine am_vret_r ok_M_putReal rfl rfl rfl ?_
        refine hpo _ ?_
        rw [frL_no (e := e) (r := r) (Or.inr (by assumption)), List.append_nil, if_neg (by first | assumption | exact fun z => absurd (cmp_0.mpr z) (by assumption)), List.append_nil]
        exact h1
    · skip
      have h_1 : ¬ r ≤ 0 := fun z => h_1 ((cN_le (a := r) (b := 0) (by omega) (by omega)).mpr z)
      have hue : ¬ un e ≤ 0 := fun z => by rcases e with _ | e; simp at hre; omega; exact absurd z (Nat.not_le_of_lt (Nat.pow_pos (by decide)))
      refine am_steps_r ok_M_putReal 4 (q' := (75, [some (.ref 19), some (.long x), none, some (.long (lN n)), none, some (.long (lN r)), none, some (.long (lN (un e))), none], [.long (lN (un e)), .long (lN r), .long 48, .ref 19], wd C Y1 og)) rfl ?_
      refine am_ldiv_r ok_M_putReal rfl (lN_ne0 (a_ := un e) (by omega) (by omega)) ?_
      rw [lNdiv (a_ := r) (b_ := un e) (by omega) (by omega)]
      have hdv_5 := Nat.div_le_self r (un e)
      refine am_eq_r (q' := (76, [some (.ref 19), some (.long x), none, some (.long (lN n)), none, some (.long (lN r)), none, some (.long (lN (un e))), none], [.long (lN (r / (un e))), .long 48, .ref 19], wd C Y1 og)) rfl ?_
      refine am_steps_r ok_M_putReal 2 (q' := (78, [some (.ref 19), some (.long x), none, some (.long (lN n)), none, some (.long (lN r)), none, some (.long (lN (un e))), none], [.int ((48 + (lN (r / (un e)))).toInt32), .ref 19], wd C Y1 og)) rfl ?_
      rw [show (48 + (lN (r / (un e))) : Int64) = lN (48 + (r / (un e))) from (lNadd 48 (r / (un e)))]
      rw [show ((lN (48 + (r / (un e)))).toInt32 : Int32) = nI (48 + (r / (un e))) from lNi (48 + (r / (un e)))]
      refine am_callV_r (As := [.int (nI (48 + (r / (un e))))]) (rest := []) ok_M_putReal rfl rfl ok_M_put oi_M_put lk_6_270 (Or.inl ⟨_, _, _, rfl, rfl, rfl⟩) rfl rfl (Nat.le_of_ble_eq_true rfl) (c_M_put _ C Y og rd A hr hrd bf L (by omega) Y1 h1 (nI (48 + (r / (un e)))) (by first | (rw [frL_no (Or.inr (by assumption))] at hb; first | omega | (simp only [List.length_append, List.length_cons, List.length_nil] at hb ⊢; omega) | (simp only [List.length_append, List.length_cons, List.length_nil]; omega)) | (rw [frL_put hue (by assumption)] at hb; first | omega | (simp only [List.length_append, List.length_cons, List.length_nil] at hb ⊢; omega) | (simp only [List.length_append, List.length_cons, List.length_nil]; omega)))) ?_
      rintro v_ w_ ⟨rfl, Y_6, rfl, hY_7⟩ -
      refine am_eq_r (q' := (81, [some (.ref 19), some (.long x), none, some (.long (lN n)), none, some (.long (lN r)), none, some (.long (lN (un e))), none], [], wd C Y_6 og)) rfl ?_
      refine am_steps_r ok_M_putReal 2 (q' := (85, [some (.ref 19), some (.long x), none, some (.long (lN n)), none, some (.long (lN r)), none, some (.long (lN (un e))), none], [.long (lN (un e)), .long (lN r)], wd C Y_6 og)) rfl ?_
      refine am_lrem_r ok_M_putReal rfl (lN_ne0 (a_ := un e) (by omega) (by omega)) ?_
      rw [lNrem (a_ := r) (b_ := un e) (by omega) (by omega)]
      have hdv_8 := Nat.mod_le r (un e)
      refine am_eq_r (q' := (86, [some (.ref 19), some (.long x), none, some (.long (lN n)), none, some (.long (lN r)), none, some (.long (lN (un e))), none], [.long (lN (r % (un e)))], wd C Y_6 og)) rfl ?_
      refine am_steps_r ok_M_putReal 6 (q' := (60, [some (.ref 19), some (.long x), none, some (.long (lN n)), none, some (.long (lN (r % (un e)))), none, some (.long ((lN (un e)) / 10)), none], [], wd C Y_6 og)) rfl ?_
      rw [show (((lN (un e)) / 10) : Int64) = lN ((un e) / 10) from lNdiv (a_ := un e) (b_ := 10) (by omega) (by omega)]
      rw [un_div]
      exact ih post (e - 1) (r % un e) (L ++ [nI (48 + r / un e)]) Y_6 hY_7 (by omega) (un_mod hue hre) (by rw [frL_put hue (by assumption), ← app_app1] at hb; exact hb) (by rw [frL_put hue (by assumption), ← app_app1] at hpo; exact hpo) (by have := un_ne hue; omega)
set_option maxHeartbeats 4000000 in
set_option maxRecDepth 100000 in
theorem c_M_putReal (d : Nat) (C : wd_C) (Y : wd_Y) (og : Nat → Int64) (rd : Nat) (A : Nat → Int32) (hr : Y.1 16 = nI rd) (hrd : rd ≤ 1) (bf : Nat) (L : List Int32) (hbf : bf ≤ 5) (Y1 : wd_Y) (h1 : Y1 = yE Y A (bf, L)) (x : Int64) (hx15 : abN x < 1000000000000000) (hb : L.length + (fgL (abN x / 1000000)).length + (frL 6 (abN x % 1000000)).length + 10 < 2147483648) : am_Mt l D cA ad fm (d + 2) m_M_putReal [.ref 19, .long x] (wd C Y1 og) (fun vr w' => vr = none ∧ ∃ Y2, w' = wd C Y2 og ∧ Y2 = yE Y A (bf, L ++ rlL (isN x) (abN x))) := by
  have hx : abN x < 2 ^ 62 := by omega
  refine am_mt ok_M_putReal (by simp [am_arg, Value.category, m_M_putReal, am_ml]) ?_
  refine am_eq_r (q' := (0, [some (.ref 19), some (.long x), none, none, none, none, none, none, none], [], wd C Y1 og)) rfl ?_
  refine am_steps_r ok_M_putReal 4 (q' := (bif decide (0 ≤ (lg_cmp x 0)) then 11 else 6, [some (.ref 19), some (.long x), none, none, none, none, none, none, none], [], wd C Y1 og)) rfl ?_
  refine am_br_r (fun h_1 => ?_) (fun h_1 => ?_)
  · skip
    have hsg : isN x = false := sgn_ge.mp h_1
    refine am_steps_r ok_M_putReal 1 (q' := (12, [some (.ref 19), some (.long x), none, none, none, none, none, none, none], [.long x], wd C Y1 og)) rfl ?_
    have hpx : x = lN (abN x) := pos_N hx hsg
    refine am_eq_r (q' := (12, [some (.ref 19), some (.long x), none, none, none, none, none, none, none], [.long (lN (abN x))], wd C Y1 og)) (by rw [← hpx]) ?_
    refine am_steps_r ok_M_putReal 5 (q' := (bif decide (0 ≤ (lg_cmp x 0)) then 25 else 19, [some (.ref 19), some (.long x), none, some (.long (lN (abN x))), none, none, none, none, none], [], wd C Y1 og)) rfl ?_
    refine am_br_r (fun h_2 => ?_) (fun h_2 => ?_)
    · skip
      refine am_steps_r ok_M_putReal 4 (q' := (bif decide ((lg_cmp (lN (abN x)) 1000000) < 0) then 42 else 33, [some (.ref 19), some (.long x), none, some (.long (lN (abN x))), none, none, none, none, none], [], wd C Y1 og)) rfl ?_
      refine am_br_r (fun h_3 => ?_) (fun h_3 => ?_)
      · skip
        have h_3 : (abN x) < 1000000 := (cN_lt (a := abN x) (b := 1000000) (by omega) (by omega)).mp h_3
        refine am_steps_r ok_M_putReal 2 (q' := (45, [some (.ref 19), some (.long x), none, some (.long (lN (abN x))), none, none, none, none, none], [.int 46, .ref 19], wd C Y1 og)) rfl ?_
        refine am_callV_r (As := [.int 46]) (rest := []) ok_M_putReal rfl rfl ok_M_put oi_M_put lk_6_270 (Or.inl ⟨_, _, _, rfl, rfl, rfl⟩) rfl rfl (Nat.le_of_ble_eq_true rfl) (c_M_put _ C Y og rd A hr hrd bf L (by omega) Y1 h1 46 (by first | omega | (simp only [List.length_append, List.length_cons, List.length_nil] at hb ⊢; omega) | (simp only [List.length_append, List.length_cons, List.length_nil]; omega))) ?_
        rintro v_ w_ ⟨rfl, Y_4, rfl, hY_5⟩ -
        refine am_eq_r (q' := (48, [some (.ref 19), some (.long x), none, some (.long (lN (abN x))), none, none, none, none, none], [], wd C Y_4 og)) rfl ?_
        refine am_steps_r ok_M_putReal 6 (q' := (60, [some (.ref 19), some (.long x), none, some (.long (lN (abN x))), none, some (.long ((lN (abN x)) - (lN (abN x)) / 1000000 * 1000000)), none, some (.long 100000), none], [], wd C Y_4 og)) rfl ?_
        rw [show (((lN (abN x)) - (lN (abN x)) / 1000000 * 1000000) : Int64) = lN ((abN x) % 1000000) from lNrem (a_ := abN x) (b_ := 1000000) (by omega) (by omega)]
        refine am_eq_r (q' := (60, [some (.ref 19), some (.long x), none, some (.long (lN (abN x))), none, some (.long (lN (abN x % 1000000))), none, some (.long (lN (un 6))), none], [], wd C Y_4 og)) rfl ?_
        refine lp_M_putReal_60 (d + 1) C Y og rd A hr hrd bf hbf x (abN x) (by omega) 7 _ 6 (abN x % 1000000) (L ++ [46]) Y_4 hY_5 (by decide) (Nat.mod_lt _ (by decide)) (by first | omega | (simp only [List.length_append, List.length_cons, List.length_nil] at hb ⊢; omega) | (simp only [List.length_append, List.length_cons, List.length_nil]; omega)) (fun Y2 h2 => ⟨rfl, Y2, rfl, ?_⟩) (by omega)
        rw [rlL, hsg, if_neg (by omega), h2]
        simp only [isz_N hx, ngL, if_true, if_false, Bool.false_eq_true, List.append_assoc, List.nil_append, List.append_nil]
      · skip
        have h_3 : ¬ (abN x) < 1000000 := fun z => h_3 ((cN_lt (a := abN x) (b := 1000000) (by omega) (by omega)).mpr z)
        refine am_steps_r ok_M_putReal 4 (q' := (39, [some (.ref 19), some (.long x), none, some (.long (lN (abN x))), none, none, none, none, none], [.long ((lN (abN x)) / 1000000), .ref 19], wd C Y1 og)) rfl ?_
        rw [show (((lN (abN x)) / 1000000) : Int64) = lN ((abN x) / 1000000) from lNdiv (a_ := abN x) (b_ := 1000000) (by omega) (by omega)]
        have hpn := c_M_putNumber (l := l) (D := D) (cA := cA) (ad := ad) (fm := fm) d C Y og rd A hr hrd bf L (by omega) Y1 h1 (lN ((abN x) / 1000000)) (by rw [(is_lN (by omega)).2]; omega) (by rw [(is_lN (by omega)).2]; first | omega | (simp only [List.length_append, List.length_cons, List.length_nil] at hb ⊢; omega) | (simp only [List.length_append, List.length_cons, List.length_nil]; omega))
        rw [wnL_m (by omega)] at hpn
        refine am_callV_r (As := [.long (lN ((abN x) / 1000000))]) (rest := []) ok_M_putReal rfl rfl ok_M_putNumber oi_M_putNumber lk_6_283 (Or.inl ⟨_, _, _, rfl, rfl, rfl⟩) rfl rfl (Nat.le_of_ble_eq_true rfl) hpn ?_
        rintro v_ w_ ⟨rfl, Y_6, rfl, hY_7⟩ -
        refine am_eq_r (q' := (42, [some (.ref 19), some (.long x), none, some (.long (lN (abN x))), none, none, none, none, none], [], wd C Y_6 og)) rfl ?_
        refine am_steps_r ok_M_putReal 2 (q' := (45, [some (.ref 19), some (.long x), none, some (.long (lN (abN x))), none, none, none, none, none], [.int 46, .ref 19], wd C Y_6 og)) rfl ?_
        refine am_callV_r (As := [.int 46]) (rest := []) ok_M_putReal rfl rfl ok_M_put oi_M_put lk_6_270 (Or.inl ⟨_, _, _, rfl, rfl, rfl⟩) rfl rfl (Nat.le_of_ble_eq_true rfl) (c_M_put _ C Y og rd A hr hrd bf (L ++ fgL ((abN x) / 1000000)) (by omega) Y_6 hY_7 46 (by first | omega | (simp only [List.length_append, List.length_cons, List.length_nil] at hb ⊢; omega) | (simp only [List.length_append, List.length_cons, List.length_nil]; omega))) ?_
        rintro v_ w_ ⟨rfl, Y_8, rfl, hY_9⟩ -
        refine am_eq_r (q' := (48, [some (.ref 19), some (.long x), none, some (.long (lN (abN x))), none, none, none, none, none], [], wd C Y_8 og)) rfl ?_
        refine am_steps_r ok_M_putReal 6 (q' := (60, [some (.ref 19), some (.long x), none, some (.long (lN (abN x))), none, some (.long ((lN (abN x)) - (lN (abN x)) / 1000000 * 1000000)), none, some (.long 100000), none], [], wd C Y_8 og)) rfl ?_
        rw [show (((lN (abN x)) - (lN (abN x)) / 1000000 * 1000000) : Int64) = lN ((abN x) % 1000000) from lNrem (a_ := abN x) (b_ := 1000000) (by omega) (by omega)]
        refine am_eq_r (q' := (60, [some (.ref 19), some (.long x), none, some (.long (lN (abN x))), none, some (.long (lN (abN x % 1000000))), none, some (.long (lN (un 6))), none], [], wd C Y_8 og)) rfl ?_
        refine lp_M_putReal_60 (d + 1) C Y og rd A hr hrd bf hbf x (abN x) (by omega) 7 _ 6 (abN x % 1000000) ((L ++ fgL ((abN x) / 1000000)) ++ [46]) Y_8 hY_9 (by decide) (Nat.mod_lt _ (by decide)) (by first | omega | (simp only [List.length_append, List.length_cons, List.length_nil] at hb ⊢; omega) | (simp only [List.length_append, List.length_cons, List.length_nil]; omega)) (fun Y2 h2 => ⟨rfl, Y2, rfl, ?_⟩) (by omega)
        rw [rlL, hsg, if_pos (by omega), h2]
        simp only [isz_N hx, ngL, if_true, if_false, Bool.false_eq_true, List.append_assoc, List.nil_append, List.append_nil]
    · skip
      exact absurd (sgn_ge.mpr hsg) h_2
  · skip
    have hsg : isN x = true := by rcases hz : isN x with _ | _; exact absurd (sgn_ge.mpr hz) h_1; rfl
    refine am_steps_r ok_M_putReal 3 (q' := (12, [some (.ref 19), some (.long x), none, none, none, none, none, none, none], [.long (-x)], wd C Y1 og)) rfl ?_
    rw [neg_N hx hsg]
    refine am_steps_r ok_M_putReal 5 (q' := (bif decide (0 ≤ (lg_cmp x 0)) then 25 else 19, [some (.ref 19), some (.long x), none, some (.long (lN (abN x))), none, none, none, none, none], [], wd C Y1 og)) rfl ?_
    refine am_br_r (fun h_10 => ?_) (fun h_10 => ?_)
    · skip
      exact absurd (hsg.symm.trans (sgn_ge.mp h_10)) (by decide)
    · skip
      refine am_steps_r ok_M_putReal 2 (q' := (22, [some (.ref 19), some (.long x), none, some (.long (lN (abN x))), none, none, none, none, none], [.int 45, .ref 19], wd C Y1 og)) rfl ?_
      refine am_callV_r (As := [.int 45]) (rest := []) ok_M_putReal rfl rfl ok_M_put oi_M_put lk_6_270 (Or.inl ⟨_, _, _, rfl, rfl, rfl⟩) rfl rfl (Nat.le_of_ble_eq_true rfl) (c_M_put _ C Y og rd A hr hrd bf L (by omega) Y1 h1 45 (by first | omega | (simp only [List.length_append, List.length_cons, List.length_nil] at hb ⊢; omega) | (simp only [List.length_append, List.length_cons, List.length_nil]; omega))) ?_
      rintro v_ w_ ⟨rfl, Y_11, rfl, hY_12⟩ -
      refine am_eq_r (q' := (25, [some (.ref 19), some (.long x), none, some (.long (lN (abN x))), none, none, none, none, none], [], wd C Y_11 og)) rfl ?_
      refine am_steps_r ok_M_putReal 4 (q' := (bif decide ((lg_cmp (lN (abN x)) 1000000) < 0) then 42 else 33, [some (.ref 19), some (.long x), none, some (.long (lN (abN x))), none, none, none, none, none], [], wd C Y_11 og)) rfl ?_
      refine am_br_r (fun h_13 => ?_) (fun h_13 => ?_)
      · skip
        have h_13 : (abN x) < 1000000 := (cN_lt (a := abN x) (b := 1000000) (by omega) (by omega)).mp h_13
        refine am_steps_r ok_M_putReal 2 (q' := (45, [some (.ref 19), some (.long x), none, some (.long (lN (abN x))), none, none, none, none, none], [.int 46, .ref 19], wd C Y_11 og)) rfl ?_
        refine am_callV_r (As := [.int 46]) (rest := []) ok_M_putReal rfl rfl ok_M_put oi_M_put lk_6_270 (Or.inl ⟨_, _, _, rfl, rfl, rfl⟩) rfl rfl (Nat.le_of_ble_eq_true rfl) (c_M_put _ C Y og rd A hr hrd bf (L ++ [45]) (by omega) Y_11 hY_12 46 (by first | omega | (simp only [List.length_append, List.length_cons, List.length_nil] at hb ⊢; omega) | (simp only [List.length_append, List.length_cons, List.length_nil]; omega))) ?_
        rintro v_ w_ ⟨rfl, Y_14, rfl, hY_15⟩ -
        refine am_eq_r (q' := (48, [some (.ref 19), some (.long x), none, some (.long (lN (abN x))), none, none, none, none, none], [], wd C Y_14 og)) rfl ?_
        refine am_steps_r ok_M_putReal 6 (q' := (60, [some (.ref 19), some (.long x), none, some (.long (lN (abN x))), none, some (.long ((lN (abN x)) - (lN (abN x)) / 1000000 * 1000000)), none, some (.long 100000), none], [], wd C Y_14 og)) rfl ?_
        rw [show (((lN (abN x)) - (lN (abN x)) / 1000000 * 1000000) : Int64) = lN ((abN x) % 1000000) from lNrem (a_ := abN x) (b_ := 1000000) (by omega) (by omega)]
        refine am_eq_r (q' := (60, [some (.ref 19), some (.long x), none, some (.long (lN (abN x))), none, some (.long (lN (abN x % 1000000))), none, some (.long (lN (un 6))), none], [], wd C Y_14 og)) rfl ?_
        refine lp_M_putReal_60 (d + 1) C Y og rd A hr hrd bf hbf x (abN x) (by omega) 7 _ 6 (abN x % 1000000) ((L ++ [45]) ++ [46]) Y_14 hY_15 (by decide) (Nat.mod_lt _ (by decide)) (by first | omega | (simp only [List.length_append, List.length_cons, List.length_nil] at hb ⊢; omega) | (simp only [List.length_append, List.length_cons, List.length_nil]; omega)) (fun Y2 h2 => ⟨rfl, Y2, rfl, ?_⟩) (by omega)
        rw [rlL, hsg, if_neg (by omega), h2]
        simp only [isz_N hx, ngL, if_true, if_false, Bool.false_eq_true, List.append_assoc, List.nil_append, List.append_nil]
      · skip
        have h_13 : ¬ (abN x) < 1000000 := fun z => h_13 ((cN_lt (a := abN x) (b := 1000000) (by omega) (by omega)).mpr z)
        refine am_steps_r ok_M_putReal 4 (q' := (39, [some (.ref 19), some (.long x), none, some (.long (lN (abN x))), none, none, none, none, none], [.long ((lN (abN x)) / 1000000), .ref 19], wd C Y_11 og)) rfl ?_
        rw [show (((lN (abN x)) / 1000000) : Int64) = lN ((abN x) / 1000000) from lNdiv (a_ := abN x) (b_ := 1000000) (by omega) (by omega)]
        have hpn := c_M_putNumber (l := l) (D := D) (cA := cA) (ad := ad) (fm := fm) d C Y og rd A hr hrd bf (L ++ [45]) (by omega) Y_11 hY_12 (lN ((abN x) / 1000000)) (by rw [(is_lN (by omega)).2]; omega) (by rw [(is_lN (by omega)).2]; first | omega | (simp only [List.length_append, List.length_cons, List.length_nil] at hb ⊢; omega) | (simp only [List.length_append, List.length_cons, List.length_nil]; omega))
        rw [wnL_m (by omega)] at hpn
        refine am_callV_r (As := [.long (lN ((abN x) / 1000000))]) (rest := []) ok_M_putReal rfl rfl ok_M_putNumber oi_M_putNumber lk_6_283 (Or.inl ⟨_, _, _, rfl, rfl, rfl⟩) rfl rfl (Nat.le_of_ble_eq_true rfl) hpn ?_
        rintro v_ w_ ⟨rfl, Y_16, rfl, hY_17⟩ -
        refine am_eq_r (q' := (42, [some (.ref 19), some (.long x), none, some (.long (lN (abN x))), none, none, none, none, none], [], wd C Y_16 og)) rfl ?_
        refine am_steps_r ok_M_putReal 2 (q' := (45, [some (.ref 19), some (.long x), none, some (.long (lN (abN x))), none, none, none, none, none], [.int 46, .ref 19], wd C Y_16 og)) rfl ?_
        refine am_callV_r (As := [.int 46]) (rest := []) ok_M_putReal rfl rfl ok_M_put oi_M_put lk_6_270 (Or.inl ⟨_, _, _, rfl, rfl, rfl⟩) rfl rfl (Nat.le_of_ble_eq_true rfl) (c_M_put _ C Y og rd A hr hrd bf ((L ++ [45]) ++ fgL ((abN x) / 1000000)) (by omega) Y_16 hY_17 46 (by first | omega | (simp only [List.length_append, List.length_cons, List.length_nil] at hb ⊢; omega) | (simp only [List.length_append, List.length_cons, List.length_nil]; omega))) ?_
        rintro v_ w_ ⟨rfl, Y_18, rfl, hY_19⟩ -
        refine am_eq_r (q' := (48, [some (.ref 19), some (.long x), none, some (.long (lN (abN x))), none, none, none, none, none], [], wd C Y_18 og)) rfl ?_
        refine am_steps_r ok_M_putReal 6 (q' := (60, [some (.ref 19), some (.long x), none, some (.long (lN (abN x))), none, some (.long ((lN (abN x)) - (lN (abN x)) / 1000000 * 1000000)), none, some (.long 100000), none], [], wd C Y_18 og)) rfl ?_
        rw [show (((lN (abN x)) - (lN (abN x)) / 1000000 * 1000000) : Int64) = lN ((abN x) % 1000000) from lNrem (a_ := abN x) (b_ := 1000000) (by omega) (by omega)]
        refine am_eq_r (q' := (60, [some (.ref 19), some (.long x), none, some (.long (lN (abN x))), none, some (.long (lN (abN x % 1000000))), none, some (.long (lN (un 6))), none], [], wd C Y_18 og)) rfl ?_
        refine lp_M_putReal_60 (d + 1) C Y og rd A hr hrd bf hbf x (abN x) (by omega) 7 _ 6 (abN x % 1000000) (((L ++ [45]) ++ fgL ((abN x) / 1000000)) ++ [46]) Y_18 hY_19 (by decide) (Nat.mod_lt _ (by decide)) (by first | omega | (simp only [List.length_append, List.length_cons, List.length_nil] at hb ⊢; omega) | (simp only [List.length_append, List.length_cons, List.length_nil]; omega)) (fun Y2 h2 => ⟨rfl, Y2, rfl, ?_⟩) (by omega)
        rw [rlL, hsg, if_pos (by omega), h2]
        simp only [isz_N hx, ngL, if_true, if_false, Bool.false_eq_true, List.append_assoc, List.nil_append, List.append_nil]
set_option maxHeartbeats 4000000 in
set_option maxRecDepth 100000 in
theorem c_M_putHex (d : Nat) (C : wd_C) (Y : wd_Y) (og : Nat → Int64) (rd : Nat) (A : Nat → Int32) (hr : Y.1 16 = nI rd) (hrd : rd ≤ 1) (bf : Nat) (L : List Int32) (hbf : bf ≤ 5) (Y1 : wd_Y) (h1 : Y1 = yE Y A (bf, L)) (j : Nat) (hj : j < 256) (hb : L.length + 2 < 2147483648) : am_Mt l D cA ad fm (d + 1) m_M_putHex [.ref 19, .int (nI j)] (wd C Y1 og) (fun vr w' => vr = none ∧ ∃ Y2, w' = wd C Y2 og ∧ Y2 = yE Y A (bf, L ++ hxL (nI j))) := by
  refine am_mt ok_M_putHex (by simp [am_arg, Value.category, m_M_putHex, am_ml]) ?_
  refine am_eq_r (q' := (0, [some (.ref 19), some (.int (nI j)), none, none], [], wd C Y1 og)) rfl ?_
  refine am_steps_r ok_M_putHex 8 (q' := (9, [some (.ref 19), some (.int (nI j)), some (.int ((nI j) >>> (4 &&& 31))), some (.int ((nI j) &&& 15))], [], wd C Y1 og)) rfl ?_
  rw [(hx_y j hj).1, (hx_y j hj).2]
  refine am_steps_r ok_M_putHex 4 (q' := (bif decide (10 ≤ (nI (j / 16))) then 23 else 16, [some (.ref 19), some (.int (nI j)), some (.int (nI (j / 16))), some (.int (nI (j % 16)))], [.ref 19], wd C Y1 og)) rfl ?_
  refine am_br_r (fun h_1 => ?_) (fun h_1 => ?_)
  · skip
    have h_1 : 10 ≤ (j / 16) := (nI_leI (show 10 < 2 ^ 31 by omega) (show (j / 16) < 2 ^ 31 by omega)).mp h_1
    refine am_steps_r ok_M_putHex 5 (q' := (30, [some (.ref 19), some (.int (nI j)), some (.int (nI (j / 16))), some (.int (nI (j % 16)))], [.int ((65 + (nI (j / 16))) - 10), .ref 19], wd C Y1 og)) rfl ?_
    rw [show (65 + (nI (j / 16)) : Int32) = nI (65 + (j / 16)) from nI_add 65 (j / 16)]
    rw [show ((nI (65 + (j / 16))) - 10 : Int32) = nI ((65 + (j / 16)) - 10) from pk_sub (a := 65 + (j / 16)) (b := 10) (by omega)]
    refine am_callV_r (As := [.int (nI ((65 + (j / 16)) - 10))]) (rest := []) ok_M_putHex rfl rfl ok_M_put oi_M_put lk_6_270 (Or.inl ⟨_, _, _, rfl, rfl, rfl⟩) rfl rfl (Nat.le_of_ble_eq_true rfl) (c_M_put _ C Y og rd A hr hrd bf L (by omega) Y1 h1 (nI ((65 + (j / 16)) - 10)) (by first | omega | (simp only [List.length_append, List.length_cons, List.length_nil] at hb ⊢; omega) | (simp only [List.length_append, List.length_cons, List.length_nil]; omega))) ?_
    rintro v_ w_ ⟨rfl, Y_2, rfl, hY_3⟩ -
    refine am_eq_r (q' := (33, [some (.ref 19), some (.int (nI j)), some (.int (nI (j / 16))), some (.int (nI (j % 16)))], [], wd C Y_2 og)) rfl ?_
    refine am_steps_r ok_M_putHex 4 (q' := (bif decide (10 ≤ (nI (j % 16))) then 47 else 40, [some (.ref 19), some (.int (nI j)), some (.int (nI (j / 16))), some (.int (nI (j % 16)))], [.ref 19], wd C Y_2 og)) rfl ?_
    refine am_br_r (fun h_4 => ?_) (fun h_4 => ?_)
    · skip
      have h_4 : 10 ≤ (j % 16) := (nI_leI (show 10 < 2 ^ 31 by omega) (show (j % 16) < 2 ^ 31 by omega)).mp h_4
      refine am_steps_r ok_M_putHex 5 (q' := (54, [some (.ref 19), some (.int (nI j)), some (.int (nI (j / 16))), some (.int (nI (j % 16)))], [.int ((65 + (nI (j % 16))) - 10), .ref 19], wd C Y_2 og)) rfl ?_
      rw [show (65 + (nI (j % 16)) : Int32) = nI (65 + (j % 16)) from nI_add 65 (j % 16)]
      rw [show ((nI (65 + (j % 16))) - 10 : Int32) = nI ((65 + (j % 16)) - 10) from pk_sub (a := 65 + (j % 16)) (b := 10) (by omega)]
      refine am_callV_r (As := [.int (nI ((65 + (j % 16)) - 10))]) (rest := []) ok_M_putHex rfl rfl ok_M_put oi_M_put lk_6_270 (Or.inl ⟨_, _, _, rfl, rfl, rfl⟩) rfl rfl (Nat.le_of_ble_eq_true rfl) (c_M_put _ C Y og rd A hr hrd bf (L ++ [(nI ((65 + (j / 16)) - 10))]) (by omega) Y_2 hY_3 (nI ((65 + (j % 16)) - 10)) (by first | omega | (simp only [List.length_append, List.length_cons, List.length_nil] at hb ⊢; omega) | (simp only [List.length_append, List.length_cons, List.length_nil]; omega))) ?_
      rintro v_ w_ ⟨rfl, Y_5, rfl, hY_6⟩ -
      refine am_eq_r (q' := (57, [some (.ref 19), some (.int (nI j)), some (.int (nI (j / 16))), some (.int (nI (j % 16)))], [], wd C Y_5 og)) rfl ?_
      refine am_vret_r ok_M_putHex rfl rfl rfl ?_
      refine ⟨rfl, _, rfl, ?_⟩
      rw [hxL_j hj, hx_hi _ (by omega) (by omega), hx_hi _ (by omega) (by omega), ← app_app1]
      exact hY_6
    · skip
      have h_4 : ¬ 10 ≤ (j % 16) := fun z => h_4 ((nI_leI (show 10 < 2 ^ 31 by omega) (show (j % 16) < 2 ^ 31 by omega)).mpr z)
      refine am_steps_r ok_M_putHex 4 (q' := (54, [some (.ref 19), some (.int (nI j)), some (.int (nI (j / 16))), some (.int (nI (j % 16)))], [.int (48 + (nI (j % 16))), .ref 19], wd C Y_2 og)) rfl ?_
      rw [show (48 + (nI (j % 16)) : Int32) = nI (48 + (j % 16)) from nI_add 48 (j % 16)]
      refine am_callV_r (As := [.int (nI (48 + (j % 16)))]) (rest := []) ok_M_putHex rfl rfl ok_M_put oi_M_put lk_6_270 (Or.inl ⟨_, _, _, rfl, rfl, rfl⟩) rfl rfl (Nat.le_of_ble_eq_true rfl) (c_M_put _ C Y og rd A hr hrd bf (L ++ [(nI ((65 + (j / 16)) - 10))]) (by omega) Y_2 hY_3 (nI (48 + (j % 16))) (by first | omega | (simp only [List.length_append, List.length_cons, List.length_nil] at hb ⊢; omega) | (simp only [List.length_append, List.length_cons, List.length_nil]; omega))) ?_
      rintro v_ w_ ⟨rfl, Y_7, rfl, hY_8⟩ -
      refine am_eq_r (q' := (57, [some (.ref 19), some (.int (nI j)), some (.int (nI (j / 16))), some (.int (nI (j % 16)))], [], wd C Y_7 og)) rfl ?_
      refine am_vret_r ok_M_putHex rfl rfl rfl ?_
      refine ⟨rfl, _, rfl, ?_⟩
      rw [hxL_j hj, hx_hi _ (by omega) (by omega), hx_lo _ (by omega), ← app_app1]
      exact hY_8
  · skip
    have h_1 : ¬ 10 ≤ (j / 16) := fun z => h_1 ((nI_leI (show 10 < 2 ^ 31 by omega) (show (j / 16) < 2 ^ 31 by omega)).mpr z)
    refine am_steps_r ok_M_putHex 4 (q' := (30, [some (.ref 19), some (.int (nI j)), some (.int (nI (j / 16))), some (.int (nI (j % 16)))], [.int (48 + (nI (j / 16))), .ref 19], wd C Y1 og)) rfl ?_
    rw [show (48 + (nI (j / 16)) : Int32) = nI (48 + (j / 16)) from nI_add 48 (j / 16)]
    refine am_callV_r (As := [.int (nI (48 + (j / 16)))]) (rest := []) ok_M_putHex rfl rfl ok_M_put oi_M_put lk_6_270 (Or.inl ⟨_, _, _, rfl, rfl, rfl⟩) rfl rfl (Nat.le_of_ble_eq_true rfl) (c_M_put _ C Y og rd A hr hrd bf L (by omega) Y1 h1 (nI (48 + (j / 16))) (by first | omega | (simp only [List.length_append, List.length_cons, List.length_nil] at hb ⊢; omega) | (simp only [List.length_append, List.length_cons, List.length_nil]; omega))) ?_
    rintro v_ w_ ⟨rfl, Y_9, rfl, hY_10⟩ -
    refine am_eq_r (q' := (33, [some (.ref 19), some (.int (nI j)), some (.int (nI (j / 16))), some (.int (nI (j % 16)))], [], wd C Y_9 og)) rfl ?_
    refine am_steps_r ok_M_putHex 4 (q' := (bif decide (10 ≤ (nI (j % 16))) then 47 else 40, [some (.ref 19), some (.int (nI j)), some (.int (nI (j / 16))), some (.int (nI (j % 16)))], [.ref 19], wd C Y_9 og)) rfl ?_
    refine am_br_r (fun h_11 => ?_) (fun h_11 => ?_)
    · skip
      have h_11 : 10 ≤ (j % 16) := (nI_leI (show 10 < 2 ^ 31 by omega) (show (j % 16) < 2 ^ 31 by omega)).mp h_11
      refine am_steps_r ok_M_putHex 5 (q' := (54, [some (.ref 19), some (.int (nI j)), some (.int (nI (j / 16))), some (.int (nI (j % 16)))], [.int ((65 + (nI (j % 16))) - 10), .ref 19], wd C Y_9 og)) rfl ?_
      rw [show (65 + (nI (j % 16)) : Int32) = nI (65 + (j % 16)) from nI_add 65 (j % 16)]
      rw [show ((nI (65 + (j % 16))) - 10 : Int32) = nI ((65 + (j % 16)) - 10) from pk_sub (a := 65 + (j % 16)) (b := 10) (by omega)]
      refine am_callV_r (As := [.int (nI ((65 + (j % 16)) - 10))]) (rest := []) ok_M_putHex rfl rfl ok_M_put oi_M_put lk_6_270 (Or.inl ⟨_, _, _, rfl, rfl, rfl⟩) rfl rfl (Nat.le_of_ble_eq_true rfl) (c_M_put _ C Y og rd A hr hrd bf (L ++ [(nI (48 + (j / 16)))]) (by omega) Y_9 hY_10 (nI ((65 + (j % 16)) - 10)) (by first | omega | (simp only [List.length_append, List.length_cons, List.length_nil] at hb ⊢; omega) | (simp only [List.length_append, List.length_cons, List.length_nil]; omega))) ?_
      rintro v_ w_ ⟨rfl, Y_12, rfl, hY_13⟩ -
      refine am_eq_r (q' := (57, [some (.ref 19), some (.int (nI j)), some (.int (nI (j / 16))), some (.int (nI (j % 16)))], [], wd C Y_12 og)) rfl ?_
      refine am_vret_r ok_M_putHex rfl rfl rfl ?_
      refine ⟨rfl, _, rfl, ?_⟩
      rw [hxL_j hj, hx_lo _ (by omega), hx_hi _ (by omega) (by omega), ← app_app1]
      exact hY_13
    · skip
      have h_11 : ¬ 10 ≤ (j % 16) := fun z => h_11 ((nI_leI (show 10 < 2 ^ 31 by omega) (show (j % 16) < 2 ^ 31 by omega)).mpr z)
      refine am_steps_r ok_M_putHex 4 (q' := (54, [some (.ref 19), some (.int (nI j)), some (.int (nI (j / 16))), some (.int (nI (j % 16)))], [.int (48 + (nI (j % 16))), .ref 19], wd C Y_9 og)) rfl ?_
      rw [show (48 + (nI (j % 16)) : Int32) = nI (48 + (j % 16)) from nI_add 48 (j % 16)]
      refine am_callV_r (As := [.int (nI (48 + (j % 16)))]) (rest := []) ok_M_putHex rfl rfl ok_M_put oi_M_put lk_6_270 (Or.inl ⟨_, _, _, rfl, rfl, rfl⟩) rfl rfl (Nat.le_of_ble_eq_true rfl) (c_M_put _ C Y og rd A hr hrd bf (L ++ [(nI (48 + (j / 16)))]) (by omega) Y_9 hY_10 (nI (48 + (j % 16))) (by first | omega | (simp only [List.length_append, List.length_cons, List.length_nil] at hb ⊢; omega) | (simp only [List.length_append, List.length_cons, List.length_nil]; omega))) ?_
      rintro v_ w_ ⟨rfl, Y_14, rfl, hY_15⟩ -
      refine am_eq_r (q' := (57, [some (.ref 19), some (.int (nI j)), some (.int (nI (j / 16))), some (.int (nI (j % 16)))], [], wd C Y_14 og)) rfl ?_
      refine am_vret_r ok_M_putHex rfl rfl rfl ?_
      refine ⟨rfl, _, rfl, ?_⟩
      rw [hxL_j hj, hx_lo _ (by omega), hx_lo _ (by omega), ← app_app1]
      exact hY_15
end C98
