/-! the component puts numbers, names, strings; printed by wip/gen/g95.py -/
theorem lNdiv {a_ b_ : Nat} (ha : a_ < 2 ^ 62) (hb : b_ < 2 ^ 62) : lN a_ / lN b_ = lN (a_ / b_) := lN_div ha hb
theorem lNrem {a_ b_ : Nat} (ha : a_ < 2 ^ 62) (hb : b_ < 2 ^ 62) : lN a_ - lN a_ / lN b_ * lN b_ = lN (a_ % b_) := lN_rem ha hb
theorem lNmul (a b : Nat) : lN a * lN b = lN (a * b) := by rw [lN_mul]
theorem lNadd (a b : Nat) : lN a + lN b = lN (a + b) := by rw [lN_add]
theorem nIdiv (a b : Nat) (ha : a < 2 ^ 31) (hb : b < 2 ^ 31) : nI a / nI b = nI (a / b) := by
  apply Int32.toInt_inj.mp
  have h3 : a / b ≤ a := Nat.div_le_self _ _
  have e1 : ∀ m, m < 2 ^ 31 → (nI m).toInt = (m : Int) := fun m hm => Int32.toInt_ofNat_of_lt hm
  rw [Int32.toInt_div, e1 a ha, e1 b hb, e1 _ (by omega)]
  have e : (a : Int).tdiv (b : Int) = ((a / b : Nat) : Int) := by
    rw [Int.tdiv_eq_ediv_of_nonneg (by omega)]
    rfl
  rw [e]
  generalize a / b = q at h3
  exact Int.bmod_eq_of_le (by omega) (by omega)
theorem lNi (a : Nat) : (lN a).toInt32 = nI a := lN_i a
theorem lN_ne0 {a_ : Nat} (h : 0 < a_) (h2 : a_ < 2 ^ 62) : lN a_ ≠ 0 := fun z => by
  have := (lN_eq62 h2 (by decide)).mp (show lN a_ = lN 0 from z)
  omega
section DIV
variable {l : Launch} {D : va_G} {cA : Nat → ClassId} {ad : Nat → Nat} {fm : Value} {d n pc : Nat} {M : am_M} {post : Option Value → am_W → Prop} {L : am_L} {S : List Value} {w : am_W} {x y : Int64}
theorem am_ldiv_r (hM : am_ok M) (ht : am_tb M pc = some (.ldiv, 1)) (hy : y ≠ 0) (r : am_Rn l D cA ad fm d M n post (pc + 1, L, .long (x / y) :: S, w)) : am_Rn l D cA ad fm d M n post (pc, L, .long y :: .long x :: S, w) := by
  have e : am_step (am_co M) (am_ml M) (am_tb M) (pc, L, .long y :: .long x :: S, w) = (bif decide (y = 0) then none else some (pc + 1, L, .long (x / y) :: S, w)) := by simp only [am_step, ht]; rfl
  exact am_steps_r hM 1 (by simp only [am_steps, e, decide_eq_false hy, cond_false]) r
theorem am_lrem_r (hM : am_ok M) (ht : am_tb M pc = some (.lrem, 1)) (hy : y ≠ 0) (r : am_Rn l D cA ad fm d M n post (pc + 1, L, .long (x - x / y * y) :: S, w)) : am_Rn l D cA ad fm d M n post (pc, L, .long y :: .long x :: S, w) := by
  have e : am_step (am_co M) (am_ml M) (am_tb M) (pc, L, .long y :: .long x :: S, w) = (bif decide (y = 0) then none else some (pc + 1, L, .long (x - x / y * y) :: S, w)) := by simp only [am_step, ht]; rfl
  exact am_steps_r hM 1 (by simp only [am_steps, e, decide_eq_false hy, cond_false]) r
end DIV
theorem nIl (a : Nat) (h : a < 2 ^ 31) : (nI a).toInt64 = lN a := nI_l h
/-- the unit of the e-th figure -/
def un : Nat → Nat
  | 0 => 0
  | e + 1 => 10 ^ e
theorem un_div (e : Nat) : un e / 10 = un (e - 1) := by
  rcases e with _ | _ | e
  · rfl
  · rfl
  · show 10 ^ (e + 1) / 10 = 10 ^ e
    rw [Nat.pow_succ, Nat.mul_div_cancel _ (by decide)]
theorem un_ne {e : Nat} (h : ¬ un e ≤ 0) : 0 < e := by
  rcases e with _ | e
  · exact absurd (Nat.le_refl _) h
  · omega
theorem un_le {e : Nat} (h : e ≤ 9) : un e ≤ 100000000 := by
  rcases e with _ | e
  · exact Nat.zero_le _
  · exact Nat.pow_le_pow_right (by decide) (show e ≤ 8 by omega)
def fgU (n : Nat) : Nat → List Int32
  | 0 => []
  | e + 1 => fgD n e
theorem fgU_no {n e : Nat} (h : un e ≤ 0) : fgU n e = [] := by
  rcases e with _ | e
  · rfl
  · exact absurd h (Nat.not_le_of_lt (Nat.pow_pos (by decide)))
theorem fgU_put {n e : Nat} (h : ¬ un e ≤ 0) (h2 : un e ≤ n ∨ un e = 1) : fgU n e = nI (48 + n / un e % 10) :: fgU n (e - 1) := by
  rcases e with _ | _ | e
  · exact absurd (Nat.le_refl _) h
  · show [nI (48 + n % 10)] = nI (48 + n / 1 % 10) :: []
    rw [Nat.div_one]
  · have e1 : un (e + 1 + 1) = 10 ^ (e + 1) := rfl
    rw [e1] at h2 ⊢
    have : 10 ^ (e + 1) ≤ n := h2.resolve_right (by have := Nat.one_lt_pow (n := e + 1) (a := 10) (by omega) (by decide); omega)
    show fgD n (e + 1) = _
    rw [fgD, if_pos this]
    rfl
theorem fgU_skip {n e : Nat} (h : ¬ un e ≤ 0) (h2 : ¬ un e ≤ n) (h3 : ¬ un e = 1) : fgU n e = fgU n (e - 1) := by
  rcases e with _ | _ | e
  · exact absurd (Nat.le_refl _) h
  · exact absurd rfl h3
  · show fgD n (e + 1) = fgD n e
    rw [fgD, if_neg (show ¬ 10 ^ (e + 1) ≤ n from h2)]
theorem frL_no {e r : Nat} (h : un e ≤ 0 ∨ r ≤ 0) : frL e r = [] := by
  rcases e with _ | e
  · rfl
  · rw [frL, if_pos (by rcases h with h | h; exact absurd h (Nat.not_le_of_lt (Nat.pow_pos (by decide))); omega)]
theorem frL_put {e r : Nat} (h : ¬ un e ≤ 0) (h2 : ¬ r ≤ 0) : frL e r = nI (48 + r / un e) :: frL (e - 1) (r % un e) := by
  rcases e with _ | e
  · exact absurd (Nat.le_refl _) h
  · rw [frL, if_neg (by omega)]
    rfl
theorem sgn_ge {x : Int64} : 0 ≤ lg_cmp x 0 ↔ isN x = false := by
  rw [← Int32.not_lt, cmp_lt0, isN]
  simp
theorem abs_N {x : Int64} (h : abN x < 2 ^ 62) : (if 0 < x then x else -x) = lN (abN x) := by
  apply Int64.toInt_inj.mp
  rw [lN_toInt63 (by omega)]
  unfold abN at *
  by_cases h2 : 0 < x
  · rw [if_pos h2]
    have := Int64.lt_iff_toInt_lt.mp h2
    have e : (0 : Int64).toInt = 0 := rfl
    omega
  · rw [if_neg h2]
    have h3 : ¬ (0 : Int64).toInt < x.toInt := fun z => h2 (Int64.lt_iff_toInt_lt.mpr z)
    have e : (0 : Int64).toInt = 0 := rfl
    rw [Int64.toInt_neg, Int.bmod_eq_of_le (by omega) (by omega)]
    omega
theorem is_lN {m : Nat} (h : m < 2 ^ 62) : isN (lN m) = false ∧ abN (lN m) = m := by
  have e := lN_toInt63 (n := m) (by omega)
  constructor
  · rw [isN, decide_eq_false]
    intro z
    have := Int64.lt_iff_toInt_lt.mp z
    have e0 : (0 : Int64).toInt = 0 := rfl
    omega
  · rw [abN, e]; rfl
theorem wnL_m {m : Nat} (h : m < 2 ^ 62) : wnL (isN (lN m)) (abN (lN m)) = fgL m := by
  rw [(is_lN h).1, (is_lN h).2]; rfl
theorem hx_all : ∀ j, j < 256 → (nI j >>> (4 &&& 31) &&& 15 = nI (j / 16) ∧ nI j &&& 15 = nI (j % 16)) := by decide +kernel
theorem hxL_j {j : Nat} (h : j < 256) : hxL (nI j) = [st_13.getD (j / 16) 0, st_13.getD (j % 16) 0] := by
  rw [hxL, nI_clamp (by omega)]
theorem vs1 {C C1 : wd_C} {kp : Nat} {A : Nat → Int32} {s : WS} {nv u : Nat} {V : VT} (hS : vsC C nv u V) (h1 : C1 = wE C kp A s) : vsC C1 nv u V := by
  subst h1
  exact vsC_ca hS rfl rfl (fun j j1 j2 => by show wd_u C.2.1 11 _ j = C.2.1 j; rw [wd_u, if_neg (by omega)]) rfl
section C95
variable {l : Launch} {D : va_G} {cA : Nat → ClassId} {ad : Nat → Nat} {fm : Value}
section VV
variable {C C1 : wd_C} {Y : wd_Y} {og : Nat → Int64} {kp : Nat} {A : Nat → Int32} {s : WS} {nv u : Nat} {V : VT} {v : Nat}
theorem v_kind (d : Nat) (hS : vsC C nv u V) (h1 : C1 = wE C kp A s) (hv : v < nv) : am_Mt l D cA ad fm (d + 1) m_V_kindOf [.ref 3, .int (nI v)] (wd C1 Y og) (fun vr w' => vr = some (.int (V.1 v)) ∧ w' = wd C1 Y og) := by
  have h := c_V_kindOf_in (l := l) (D := D) (cA := cA) (ad := ad) (fm := fm) d C1 Y og nv u (vs1 hS h1).1 v hv
  rw [((vs1 hS h1).2.1 v hv).1] at h
  exact h
theorem v_parts (d : Nat) (hS : vsC C nv u V) (h1 : C1 = wE C kp A s) (hv : v < nv) : am_Mt l D cA ad fm (d + 1) m_V_partsOf [.ref 3, .int (nI v)] (wd C1 Y og) (fun vr w' => vr = some (.int (nI (V.2.2.1 v).length)) ∧ w' = wd C1 Y og) := by
  have h := c_V_partsOf_in (l := l) (D := D) (cA := cA) (ad := ad) (fm := fm) d C1 Y og nv u (vs1 hS h1).1 v hv
  rw [((vs1 hS h1).2.1 v hv).2.2.1] at h
  exact h
theorem v_number (d : Nat) (hS : vsC C nv u V) (h1 : C1 = wE C kp A s) (hv : v < nv) : am_Mt l D cA ad fm (d + 1) m_V_numberOf [.ref 3, .int (nI v)] (wd C1 Y og) (fun vr w' => vr = some (.long (V.2.1 v)) ∧ w' = wd C1 Y og) := by
  have h := c_V_numberOf_in (l := l) (D := D) (cA := cA) (ad := ad) (fm := fm) d C1 Y og nv u (vs1 hS h1).1 v hv
  rw [((vs1 hS h1).2.1 v hv).2.1] at h
  exact h
theorem v_len (d : Nat) (hS : vsC C nv u V) (h1 : C1 = wE C kp A s) (hv : v < nv) : am_Mt l D cA ad fm (d + 0) m_V_lengthOf [.ref 3, .int (nI v)] (wd C1 Y og) (fun vr w' => vr = some (.int (nI (V.2.2.2 v).length)) ∧ w' = wd C1 Y og) := by
  have h := c_V_lengthOf_in (l := l) (D := D) (cA := cA) (ad := ad) (fm := fm) d C1 Y og nv u (vs1 hS h1).1 v hv
  obtain ⟨q, -, q2, -⟩ := (vsC_bt (vs1 hS h1) hv).1
  rw [q2] at h
  exact h
theorem v_first (d : Nat) (hS : vsC C nv u V) (h1 : C1 = wE C kp A s) (hv : v < nv) : am_Mt l D cA ad fm (d + 1) m_V_firstOf [.ref 3, .int (nI v)] (wd C1 Y og) (fun vr w' => vr = some (.int (C.2.1 5 v)) ∧ w' = wd C1 Y og) := by
  have h := c_V_firstOf_in (l := l) (D := D) (cA := cA) (ad := ad) (fm := fm) d C1 Y og nv u (vs1 hS h1).1 v hv
  rw [show C1.2.1 5 v = C.2.1 5 v by rw [h1]; rfl] at h
  exact h
theorem v_next (d : Nat) (hS : vsC C nv u V) (h1 : C1 = wE C kp A s) (hv : v < nv) : am_Mt l D cA ad fm (d + 1) m_V_nextOf [.ref 3, .int (nI v)] (wd C1 Y og) (fun vr w' => vr = some (.int (C.2.1 7 v)) ∧ w' = wd C1 Y og) := by
  have h := c_V_nextOf_in (l := l) (D := D) (cA := cA) (ad := ad) (fm := fm) d C1 Y og nv u (vs1 hS h1).1 v hv
  rw [show C1.2.1 7 v = C.2.1 7 v by rw [h1]; rfl] at h
  exact h
theorem v_held (d : Nat) (hS : vsC C nv u V) (h1 : C1 = wE C kp A s) (hv : v < nv) : am_Mt l D cA ad fm (d + 1) m_V_heldBy [.ref 3, .int (nI v)] (wd C1 Y og) (fun vr w' => vr = some (.int (C.2.1 8 v)) ∧ w' = wd C1 Y og) := by
  have h := c_V_heldBy_in (l := l) (D := D) (cA := cA) (ad := ad) (fm := fm) d C1 Y og nv u (vs1 hS h1).1 v hv
  rw [show C1.2.1 8 v = C.2.1 8 v by rw [h1]; rfl] at h
  exact h
theorem v_byte (d : Nat) (hS : vsC C nv u V) (h1 : C1 = wE C kp A s) (hv : v < nv) {k : Nat} (hk : k < (V.2.2.2 v).length) : am_Mt l D cA ad fm (d + 0) m_V_byteAt [.ref 3, .int (nI v), .int (nI k)] (wd C1 Y og) (fun vr w' => vr = some (.int ((V.2.2.2 v).getD k 0)) ∧ w' = wd C1 Y og) := by
  have hb := vsC_bt (vs1 hS h1) hv
  have h := c_V_byteAt_in (l := l) (D := D) (cA := cA) (ad := ad) (fm := fm) d C1 Y og nv u (vs1 hS h1).1 v k hv (by omega) _ hb.1
  rw [gD_in (e' := 0) hk] at h
  exact h
theorem v_by {k : Nat} (hS : vsC C nv u V) (hv : v < nv) (hk : k < (V.2.2.2 v).length) : ∃ j, j < 256 ∧ (V.2.2.2 v).getD k 0 = nI j := by
  obtain ⟨q, -, -, -, q4⟩ := (vsC_bt hS hv).1
  obtain ⟨j, j1, j2, -⟩ := q4 k hk
  exact ⟨j, j1, j2⟩
end VV
set_option maxHeartbeats 4000000 in
set_option maxRecDepth 100000 in
theorem lp_W_putFigures_4 (d : Nat) (C : wd_C) (Y : wd_Y) (og : Nat → Int64) (kp rd : Nat) (A : Nat → Int32) (hk : C.1 13 = nI kp) (hkp : kp ≤ 1) (hr : C.1 14 = nI rd) (hrd : rd ≤ 1) (bf : Nat) (hbf : bf ≤ 5) (n : Nat) (hn : n < 2 ^ 62)  : ∀ (fu : Nat) (post : Option Value → am_W → Prop) (e : Nat) (L : List Int32) (C1 : wd_C), (C1 = wE C kp A (bf, L)) → (e ≤ 9) → ((L ++ fgU n e).length < 2147483648) → (∀ C2, C2 = wE C kp A (bf, L ++ fgU n e) → post none (wd C2 Y og)) → e < fu → am_Rn l D cA ad fm (d + 1) m_W_putFigures (wd C Y og).length post (4, [some (.ref 17), some (.long (lN n)), none, some (.long (lN (un e))), none], [], wd C1 Y og) := by
  intro fu
  induction fu with
  | zero => intro post e L C1 h1 he hb hpo hfu; exact absurd hfu (Nat.not_lt_zero _)
  | succ fu ih =>
    intro post e L C1 h1 he hb hpo hfu
    have hu := un_le he
    refine am_steps_r ok_W_putFigures 4 (q' := (bif decide ((lg_cmp (lN (un e)) 0) ≤ 0) then 46 else 10, [some (.ref 17), some (.long (lN n)), none, some (.long (lN (un e))), none], [], wd C1 Y og)) rfl ?_
    refine am_br_r (fun h_1 => ?_) (fun h_1 => ?_)
    · skip
      have h_1 : (un e) ≤ 0 := (cN_le (a := un e) (b := 0) (by omega) (by omega)).mp h_1
      refine am_vret_r ok_W_putFigures rfl rfl rfl ?_
      exact hpo _ (by rw [fgU_no (by assumption), List.append_nil]; exact h1)
    · skip
      have h_1 : ¬ (un e) ≤ 0 := fun z => h_1 ((cN_le (a := un e) (b := 0) (by omega) (by omega)).mpr z)
      refine am_steps_r ok_W_putFigures 4 (q' := (bif decide (0 ≤ (lg_cmp (lN n) (lN (un e)))) then 22 else 16, [some (.ref 17), some (.long (lN n)), none, some (.long (lN (un e))), none], [], wd C1 Y og)) rfl ?_
      refine am_br_r (fun h_2 => ?_) (fun h_2 => ?_)
      · skip
        have h_2 : (un e) ≤ n := (cN_ge (a := n) (b := un e) (by omega) (by omega)).mp h_2
        refine am_steps_r ok_W_putFigures 4 (q' := (27, [some (.ref 17), some (.long (lN n)), none, some (.long (lN (un e))), none], [.long (lN (un e)), .long (lN n), .int 48, .ref 17], wd C1 Y og)) rfl ?_
        refine am_ldiv_r ok_W_putFigures rfl (lN_ne0 (a_ := un e) (by omega) (by omega)) ?_
        rw [lNdiv (a_ := n) (b_ := un e) (by omega) (by omega)]
        have hdv_3 := Nat.div_le_self n (un e)
        refine am_eq_r (q' := (28, [some (.ref 17), some (.long (lN n)), none, some (.long (lN (un e))), none], [.long (lN (n / (un e))), .int 48, .ref 17], wd C1 Y og)) rfl ?_
        refine am_steps_r ok_W_putFigures 4 (q' := (34, [some (.ref 17), some (.long (lN n)), none, some (.long (lN (un e))), none], [.int (48 + ((lN (n / (un e))) - (lN (n / (un e))) / 10 * 10).toInt32), .ref 17], wd C1 Y og)) rfl ?_
        rw [show (((lN (n / (un e))) - (lN (n / (un e))) / 10 * 10) : Int64) = lN ((n / (un e)) % 10) from lNrem (a_ := n / (un e)) (b_ := 10) (by omega) (by omega)]
        rw [show ((lN ((n / (un e)) % 10)).toInt32 : Int32) = nI ((n / (un e)) % 10) from lNi ((n / (un e)) % 10)]
        rw [show (48 + (nI ((n / (un e)) % 10)) : Int32) = nI (48 + ((n / (un e)) % 10)) from nI_add 48 ((n / (un e)) % 10)]
        have hp0 : ¬ un e ≤ 0 := by assumption
        have hp2 : un e ≤ n ∨ un e = 1 := by first | exact Or.inl (by assumption) | exact Or.inr (by assumption)
        refine am_callV_r (As := [.int (nI (48 + ((n / (un e)) % 10)))]) (rest := []) ok_W_putFigures rfl rfl ok_W_putByte oi_W_putByte lk_4_75 (Or.inl ⟨_, _, _, rfl, rfl, rfl⟩) rfl rfl (Nat.le_of_ble_eq_true rfl) (c_W_putByte _ C Y og kp rd A hk hkp hr hrd bf L (by omega) C1 h1 (nI (48 + ((n / (un e)) % 10))) (by rw [fgU_put hp0 hp2] at hb; simp only [List.length_append, List.length_cons, List.length_nil] at hb; omega)) ?_
        rintro v_ w_ ⟨rfl, C_4, rfl, hC_5⟩ -
        refine am_eq_r (q' := (37, [some (.ref 17), some (.long (lN n)), none, some (.long (lN (un e))), none], [], wd C_4 Y og)) rfl ?_
        refine am_steps_r ok_W_putFigures 5 (q' := (4, [some (.ref 17), some (.long (lN n)), none, some (.long ((lN (un e)) / 10)), none], [], wd C_4 Y og)) rfl ?_
        rw [show (((lN (un e)) / 10) : Int64) = lN ((un e) / 10) from lNdiv (a_ := un e) (b_ := 10) (by omega) (by omega)]
        rw [un_div]
        exact ih post (e - 1) (L ++ [nI (48 + n / un e % 10)]) C_4 hC_5 (by omega) (by rw [fgU_put hp0 hp2, ← app_app1] at hb; exact hb) (by rw [fgU_put hp0 hp2, ← app_app1] at hpo; exact hpo) (by have := un_ne (show ¬ un e ≤ 0 by assumption); omega)
      · skip
        have h_2 : ¬ (un e) ≤ n := fun z => h_2 ((cN_ge (a := n) (b := un e) (by omega) (by omega)).mpr z)
        refine am_steps_r ok_W_putFigures 4 (q' := (bif decide ((lg_cmp (lN (un e)) 1) = 0) then 22 else 37, [some (.ref 17), some (.long (lN n)), none, some (.long (lN (un e))), none], [], wd C1 Y og)) rfl ?_
        refine am_br_r (fun h_6 => ?_) (fun h_6 => ?_)
        · skip
          have h_6 : (un e) = 1 := (cN_eq (a := un e) (b := 1) (by omega) (by omega)).mp h_6
          refine am_steps_r ok_W_putFigures 4 (q' := (27, [some (.ref 17), some (.long (lN n)), none, some (.long (lN (un e))), none], [.long (lN (un e)), .long (lN n), .int 48, .ref 17], wd C1 Y og)) rfl ?_
          refine am_ldiv_r ok_W_putFigures rfl (lN_ne0 (a_ := un e) (by omega) (by omega)) ?_
          rw [lNdiv (a_ := n) (b_ := un e) (by omega) (by omega)]
          have hdv_7 := Nat.div_le_self n (un e)
          refine am_eq_r (q' := (28, [some (.ref 17), some (.long (lN n)), none, some (.long (lN (un e))), none], [.long (lN (n / (un e))), .int 48, .ref 17], wd C1 Y og)) rfl ?_
          refine am_steps_r ok_W_putFigures 4 (q' := (34, [some (.ref 17), some (.long (lN n)), none, some (.long (lN (un e))), none], [.int (48 + ((lN (n / (un e))) - (lN (n / (un e))) / 10 * 10).toInt32), .ref 17], wd C1 Y og)) rfl ?_
          rw [show (((lN (n / (un e))) - (lN (n / (un e))) / 10 * 10) : Int64) = lN ((n / (un e)) % 10) from lNrem (a_ := n / (un e)) (b_ := 10) (by omega) (by omega)]
          rw [show ((lN ((n / (un e)) % 10)).toInt32 : Int32) = nI ((n / (un e)) % 10) from lNi ((n / (un e)) % 10)]
          rw [show (48 + (nI ((n / (un e)) % 10)) : Int32) = nI (48 + ((n / (un e)) % 10)) from nI_add 48 ((n / (un e)) % 10)]
          have hp0 : ¬ un e ≤ 0 := by assumption
          have hp2 : un e ≤ n ∨ un e = 1 := by first | exact Or.inl (by assumption) | exact Or.inr (by assumption)
          refine am_callV_r (As := [.int (nI (48 + ((n / (un e)) % 10)))]) (rest := []) ok_W_putFigures rfl rfl ok_W_putByte oi_W_putByte lk_4_75 (Or.inl ⟨_, _, _, rfl, rfl, rfl⟩) rfl rfl (Nat.le_of_ble_eq_true rfl) (c_W_putByte _ C Y og kp rd A hk hkp hr hrd bf L (by omega) C1 h1 (nI (48 + ((n / (un e)) % 10))) (by rw [fgU_put hp0 hp2] at hb; simp only [List.length_append, List.length_cons, List.length_nil] at hb; omega)) ?_
          rintro v_ w_ ⟨rfl, C_8, rfl, hC_9⟩ -
          refine am_eq_r (q' := (37, [some (.ref 17), some (.long (lN n)), none, some (.long (lN (un e))), none], [], wd C_8 Y og)) rfl ?_
          refine am_steps_r ok_W_putFigures 5 (q' := (4, [some (.ref 17), some (.long (lN n)), none, some (.long ((lN (un e)) / 10)), none], [], wd C_8 Y og)) rfl ?_
          rw [show (((lN (un e)) / 10) : Int64) = lN ((un e) / 10) from lNdiv (a_ := un e) (b_ := 10) (by omega) (by omega)]
          rw [un_div]
          exact ih post (e - 1) (L ++ [nI (48 + n / un e % 10)]) C_8 hC_9 (by omega) (by rw [fgU_put hp0 hp2, ← app_app1] at hb; exact hb) (by rw [fgU_put hp0 hp2, ← app_app1] at hpo; exact hpo) (by have := un_ne (show ¬ un e ≤ 0 by assumption); omega)
        · skip
          have h_6 : ¬ (un e) = 1 := fun z => h_6 ((cN_eq (a := un e) (b := 1) (by omega) (by omega)).mpr z)
          refine am_steps_r ok_W_putFigures 5 (q' := (4, [some (.ref 17), some (.long (lN n)), none, some (.long ((lN (un e)) / 10)), none], [], wd C1 Y og)) rfl ?_
          rw [show (((lN (un e)) / 10) : Int64) = lN ((un e) / 10) from lNdiv (a_ := un e) (b_ := 10) (by omega) (by omega)]
          rw [un_div]
          exact ih post (e - 1) L C1 h1 (by omega) (by rw [fgU_skip (by assumption) (by assumption) (by assumption)] at hb; exact hb) (by rw [fgU_skip (by assumption) (by assumption) (by assumption)] at hpo; exact hpo) (by have := un_ne (show ¬ un e ≤ 0 by assumption); omega)
set_option maxHeartbeats 4000000 in
set_option maxRecDepth 100000 in
theorem c_W_putFigures (d : Nat) (C : wd_C) (Y : wd_Y) (og : Nat → Int64) (kp rd : Nat) (A : Nat → Int32) (hk : C.1 13 = nI kp) (hkp : kp ≤ 1) (hr : C.1 14 = nI rd) (hrd : rd ≤ 1) (bf : Nat) (L : List Int32) (hbf : bf ≤ 5) (C1 : wd_C) (h1 : C1 = wE C kp A (bf, L)) (n : Nat) (hn : n < 2 ^ 62) (hb : (L ++ fgL n).length < 2147483648) : am_Mt l D cA ad fm (d + 1) m_W_putFigures [.ref 17, .long (lN n)] (wd C1 Y og) (fun vr w' => vr = none ∧ ∃ C2, w' = wd C2 Y og ∧ C2 = wE C kp A (bf, L ++ fgL n)) := by
  refine am_mt ok_W_putFigures (by simp [am_arg, Value.category, m_W_putFigures, am_ml]) ?_
  refine am_eq_r (q' := (0, [some (.ref 17), some (.long (lN n)), none, none, none], [], wd C1 Y og)) rfl ?_
  refine am_steps_r ok_W_putFigures 2 (q' := (4, [some (.ref 17), some (.long (lN n)), none, some (.long 100000000), none], [], wd C1 Y og)) rfl ?_
  refine am_eq_r (q' := (4, [some (.ref 17), some (.long (lN n)), none, some (.long (lN (un 9))), none], [], wd C1 Y og)) rfl ?_
  exact lp_W_putFigures_4 d C Y og kp rd A hk hkp hr hrd bf hbf n hn 10 _ 9 L C1 h1 (Nat.le_refl _) hb (fun C2 h2 => ⟨rfl, C2, rfl, h2⟩) (by omega)
set_option maxHeartbeats 4000000 in
set_option maxRecDepth 100000 in
theorem c_W_putFigures16 (d : Nat) (C : wd_C) (Y : wd_Y) (og : Nat → Int64) (kp rd : Nat) (A : Nat → Int32) (hk : C.1 13 = nI kp) (hkp : kp ≤ 1) (hr : C.1 14 = nI rd) (hrd : rd ≤ 1) (bf : Nat) (L : List Int32) (hbf : bf ≤ 5) (C1 : wd_C) (h1 : C1 = wE C kp A (bf, L)) (hfm : fm = .null ∨ fm = .ref 3000) (j : Nat) (hj : j < 256) (hb : L.length + 2 < 2147483648) : am_Mt l D cA ad fm (d + 4) m_W_putFigures16 [.ref 17, .int (nI j)] (wd C1 Y og) (fun vr w' => vr = none ∧ ∃ C2, w' = wd C2 Y og ∧ C2 = wE C kp A (bf, L ++ hxL (nI j))) := by
  refine am_mt ok_W_putFigures16 (by simp [am_arg, Value.category, m_W_putFigures16, am_ml]) ?_
  refine am_eq_r (q' := (0, [some (.ref 17), some (.int (nI j))], [], wd C1 Y og)) rfl ?_
  refine am_steps_r ok_W_putFigures16 7 (q' := (9, [some (.ref 17), some (.int (nI j))], [.int (((nI j) >>> (4 &&& 31)) &&& 15), .ref 1013, .ref 17], wd C1 Y og)) rfl ?_
  rw [(hx_all j hj).1]
  refine am_callV_r (As := [.int (nI (j / 16))]) (rest := [.ref 17]) ok_W_putFigures16 rfl rfl ok_J_charAt oi_J_charAt lk_4_85 (Or.inr ⟨rfl, 13, _, rfl, rfl⟩) rfl rfl (Nat.le_of_ble_eq_true rfl) (c_J_charAt _ C1 Y og 13 _ _ _ st_13 rfl (by decide) (j / 16) (by show _ < 16; omega) hfm) ?_
  rintro v_ w_ ⟨rfl, rfl⟩ -
  refine am_eq_r (q' := (12, [some (.ref 17), some (.int (nI j))], [.int (st_13.getD (j / 16) 0), .ref 17], wd C1 Y og)) rfl ?_
  refine am_callV_r (As := [.int (st_13.getD (j / 16) 0)]) (rest := []) ok_W_putFigures16 rfl rfl ok_W_putByte oi_W_putByte lk_4_75 (Or.inl ⟨_, _, _, rfl, rfl, rfl⟩) rfl rfl (Nat.le_of_ble_eq_true rfl) (c_W_putByte _ C Y og kp rd A hk hkp hr hrd bf L (by omega) C1 h1 (st_13.getD (j / 16) 0) (by first | exact hb | (first | omega | (simp only [List.length_append, List.length_cons, List.length_nil] at hb ⊢; omega) | (simp only [List.length_append, List.length_cons, List.length_nil]; omega)))) ?_
  rintro v_ w_ ⟨rfl, C_2, rfl, hC_3⟩ -
  refine am_eq_r (q' := (15, [some (.ref 17), some (.int (nI j))], [], wd C_2 Y og)) rfl ?_
  refine am_steps_r ok_W_putFigures16 5 (q' := (22, [some (.ref 17), some (.int (nI j))], [.int ((nI j) &&& 15), .ref 1013, .ref 17], wd C_2 Y og)) rfl ?_
  rw [(hx_all j hj).2]
  refine am_callV_r (As := [.int (nI (j % 16))]) (rest := [.ref 17]) ok_W_putFigures16 rfl rfl ok_J_charAt oi_J_charAt lk_4_85 (Or.inr ⟨rfl, 13, _, rfl, rfl⟩) rfl rfl (Nat.le_of_ble_eq_true rfl) (c_J_charAt _ C_2 Y og 13 _ _ _ st_13 rfl (by decide) (j % 16) (by show _ < 16; omega) hfm) ?_
  rintro v_ w_ ⟨rfl, rfl⟩ -
  refine am_eq_r (q' := (25, [some (.ref 17), some (.int (nI j))], [.int (st_13.getD (j % 16) 0), .ref 17], wd C_2 Y og)) rfl ?_
  refine am_callV_r (As := [.int (st_13.getD (j % 16) 0)]) (rest := []) ok_W_putFigures16 rfl rfl ok_W_putByte oi_W_putByte lk_4_75 (Or.inl ⟨_, _, _, rfl, rfl, rfl⟩) rfl rfl (Nat.le_of_ble_eq_true rfl) (c_W_putByte _ C Y og kp rd A hk hkp hr hrd bf (L ++ [(st_13.getD (j / 16) 0)]) (by omega) C_2 hC_3 (st_13.getD (j % 16) 0) (by first | exact hb | (first | omega | (simp only [List.length_append, List.length_cons, List.length_nil] at hb ⊢; omega) | (simp only [List.length_append, List.length_cons, List.length_nil]; omega)))) ?_
  rintro v_ w_ ⟨rfl, C_5, rfl, hC_6⟩ -
  refine am_eq_r (q' := (28, [some (.ref 17), some (.int (nI j))], [], wd C_5 Y og)) rfl ?_
  refine am_vret_r ok_W_putFigures16 rfl rfl rfl ?_
  exact ⟨rfl, _, rfl, by rw [hxL_j hj, ← app_app1]; exact hC_6⟩
set_option maxHeartbeats 4000000 in
set_option maxRecDepth 100000 in
theorem c_W_putWhole (d : Nat) (C : wd_C) (Y : wd_Y) (og : Nat → Int64) (kp rd : Nat) (A : Nat → Int32) (hk : C.1 13 = nI kp) (hkp : kp ≤ 1) (hr : C.1 14 = nI rd) (hrd : rd ≤ 1) (bf : Nat) (L : List Int32) (hbf : bf ≤ 5) (C1 : wd_C) (h1 : C1 = wE C kp A (bf, L)) (x : Int64) (hx : abN x < 2 ^ 62) (hb : L.length + (fgL (abN x)).length + 2 < 2147483648) : am_Mt l D cA ad fm (d + 2) m_W_putWhole [.ref 17, .long x] (wd C1 Y og) (fun vr w' => vr = none ∧ ∃ C2, w' = wd C2 Y og ∧ C2 = wE C kp A (1, L ++ gpL rd bf 1 ++ wnL (isN x) (abN x))) := by
  refine am_mt ok_W_putWhole (by simp [am_arg, Value.category, m_W_putWhole, am_ml]) ?_
  refine am_eq_r (q' := (0, [some (.ref 17), some (.long x), none], [], wd C1 Y og)) rfl ?_
  refine am_steps_r ok_W_putWhole 2 (q' := (2, [some (.ref 17), some (.long x), none], [.int 1, .ref 17], wd C1 Y og)) rfl ?_
  have hgp := gpL_1 rd bf 1
  refine am_callV_r (As := [.int 1]) (rest := []) ok_W_putWhole rfl rfl ok_W_putGap oi_W_putGap lk_4_95 (Or.inl ⟨_, _, _, rfl, rfl, rfl⟩) rfl rfl (Nat.le_of_ble_eq_true rfl) (c_W_putGap _ C Y og kp rd A hk hkp hr hrd bf L (by omega) C1 h1 1 (by omega) (by first | omega | (simp only [List.length_append, List.length_cons, List.length_nil] at hb ⊢; omega) | (simp only [List.length_append, List.length_cons, List.length_nil]; omega))) ?_
  rintro v_ w_ ⟨rfl, C_1, rfl, hC_2⟩ -
  refine am_eq_r (q' := (5, [some (.ref 17), some (.long x), none], [], wd C_1 Y og)) rfl ?_
  refine am_steps_r ok_W_putWhole 4 (q' := (bif decide (0 ≤ (lg_cmp x 0)) then 17 else 11, [some (.ref 17), some (.long x), none], [], wd C_1 Y og)) rfl ?_
  refine am_br_r (fun h_3 => ?_) (fun h_3 => ?_)
  · skip
    have h_3 : isN x = false := sgn_ge.mp h_3
    refine am_steps_r ok_W_putWhole 2 (q' := (19, [some (.ref 17), some (.long x), none], [.long x, .ref 17], wd C_1 Y og)) rfl ?_
    refine am_mabs_r ok_W_putWhole rfl (hrs := Nat.le_of_ble_eq_true rfl) (am_in 946 (by decide +kernel) rfl) ?_
    rw [abs_N hx]
    refine am_callV_r (As := [.long (lN (abN x))]) (rest := []) ok_W_putWhole rfl rfl ok_W_putFigures oi_W_putFigures lk_4_71 (Or.inl ⟨_, _, _, rfl, rfl, rfl⟩) rfl rfl (Nat.le_of_ble_eq_true rfl) (c_W_putFigures _ C Y og kp rd A hk hkp hr hrd 1 (L ++ gpL rd bf 1) (by omega) C_1 hC_2 (abN x) (by omega) (by first | omega | (simp only [List.length_append, List.length_cons, List.length_nil]; omega))) ?_
    rintro v_ w_ ⟨rfl, C_4, rfl, hC_5⟩ -
    refine am_eq_r (q' := (25, [some (.ref 17), some (.long x), none], [], wd C_4 Y og)) rfl ?_
    refine am_vret_r ok_W_putWhole rfl rfl rfl ?_
    refine ⟨rfl, _, rfl, ?_⟩
    rw [wnL, h_3]
    rw [show ngL false = [] from rfl, List.nil_append]
    exact hC_5
  · skip
    have h_3 : isN x = true := by rcases hz : isN x with _ | _; exact absurd (sgn_ge.mpr hz) h_3; rfl
    refine am_steps_r ok_W_putWhole 2 (q' := (14, [some (.ref 17), some (.long x), none], [.int 45, .ref 17], wd C_1 Y og)) rfl ?_
    refine am_callV_r (As := [.int 45]) (rest := []) ok_W_putWhole rfl rfl ok_W_putByte oi_W_putByte lk_4_75 (Or.inl ⟨_, _, _, rfl, rfl, rfl⟩) rfl rfl (Nat.le_of_ble_eq_true rfl) (c_W_putByte _ C Y og kp rd A hk hkp hr hrd 1 (L ++ gpL rd bf 1) (by omega) C_1 hC_2 45 (by first | omega | (simp only [List.length_append, List.length_cons, List.length_nil]; omega))) ?_
    rintro v_ w_ ⟨rfl, C_6, rfl, hC_7⟩ -
    refine am_eq_r (q' := (17, [some (.ref 17), some (.long x), none], [], wd C_6 Y og)) rfl ?_
    refine am_steps_r ok_W_putWhole 2 (q' := (19, [some (.ref 17), some (.long x), none], [.long x, .ref 17], wd C_6 Y og)) rfl ?_
    refine am_mabs_r ok_W_putWhole rfl (hrs := Nat.le_of_ble_eq_true rfl) (am_in 946 (by decide +kernel) rfl) ?_
    rw [abs_N hx]
    refine am_callV_r (As := [.long (lN (abN x))]) (rest := []) ok_W_putWhole rfl rfl ok_W_putFigures oi_W_putFigures lk_4_71 (Or.inl ⟨_, _, _, rfl, rfl, rfl⟩) rfl rfl (Nat.le_of_ble_eq_true rfl) (c_W_putFigures _ C Y og kp rd A hk hkp hr hrd 1 ((L ++ gpL rd bf 1) ++ [45]) (by omega) C_6 hC_7 (abN x) (by omega) (by first | omega | (simp only [List.length_append, List.length_cons, List.length_nil]; omega))) ?_
    rintro v_ w_ ⟨rfl, C_8, rfl, hC_9⟩ -
    refine am_eq_r (q' := (25, [some (.ref 17), some (.long x), none], [], wd C_8 Y og)) rfl ?_
    refine am_vret_r ok_W_putWhole rfl rfl rfl ?_
    refine ⟨rfl, _, rfl, ?_⟩
    rw [wnL, h_3]
    rw [show ngL true = [45] from rfl, ← List.append_assoc]
    exact hC_9
end C95
