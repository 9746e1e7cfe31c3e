/-! the component puts reals, references, names, strings; printed by wip/gen/g96.py -/
theorem nw_1 {c : Int32} (h : isReg c = true) (h2 : ¬ c = 35) : nwC c = [c] := if_pos ⟨h, h2⟩
theorem nw_2 {c : Int32} (h : isReg c = false) : nwC c = 35 :: hxL c := if_neg (fun z => absurd (h.symm.trans z.1) (by decide))
theorem nw_3 {c : Int32} (h : c = 35) : nwC c = 35 :: hxL c := if_neg (fun z => z.2 h)
theorem sw_0 {c : Int32} (h1 : ¬ c = 92) (h2 : ¬ c = 40) (h3 : ¬ c = 41) (h4 : ¬ c = 13) : swC c = [c] := if_neg (fun z => by rcases z with z | z | z | z <;> contradiction)
theorem sw_r {c : Int32} (h : c = 13) : swC c = [92, 114] := by rw [swC, if_pos (Or.inr (Or.inr (Or.inr h))), if_pos h]
theorem sw_y {c : Int32} (h : c = 92 ∨ c = 40 ∨ c = 41) (h2 : ¬ c = 13) : swC c = [92, c] := by rw [swC, if_pos (by rcases h with h | h | h <;> simp [h]), if_neg h2]
theorem gpL_app (L : List Int32) (rd bf s : Nat) : (L ++ gpL rd bf s).length ≤ L.length + 1 := by
  rw [List.length_append]
  have := gpL_1 rd bf s
  omega
theorem sw_2 {c : Int32} (h : c = 92 ∨ c = 40 ∨ c = 41 ∨ c = 13) : swC c = [92, if c = 13 then 114 else c] := if_pos h
section C96
variable {l : Launch} {D : va_G} {cA : Nat → ClassId} {ad : Nat → Nat} {fm : Value}
set_option maxHeartbeats 4000000 in
set_option maxRecDepth 100000 in
theorem lp_W_putReal_57 (d : Nat) (C : wd_C) (Y : wd_Y) (og : Nat → Int64) (kp rd : Nat) (A : Nat → Int32) (hk : C.1 13 = nI kp) (hkp : kp ≤ 1) (hr : C.1 14 = nI rd) (hrd : rd ≤ 1) (bf : Nat) (hbf : bf ≤ 5) (x : Int64) (n : Nat) (hn : n < 2 ^ 62)  : ∀ (fu : Nat) (post : Option Value → am_W → Prop) (e : Nat) (r : Nat) (L : List Int32) (C1 : wd_C), (C1 = wE C kp A (bf, L)) → (e ≤ 9) → (r < 2 ^ 62) → ((L ++ frL e r).length + 1 < 2147483648) → (∀ C2, C2 = wE C kp A (bf, L ++ frL e r ++ (if n = 0 then [48] else [])) → post none (wd C2 Y og)) → e < fu → am_Rn l D cA ad fm (d + 1) m_W_putReal (wd C Y og).length post (57, [some (.ref 17), some (.long x), none, some (.long (lN n)), none, some (.long (lN r)), none, some (.long (lN (un e))), none], [], wd C1 Y og) := by
  intro fu
  induction fu with
  | zero => intro post e r L C1 h1 he hr62 hb hpo hfu; exact absurd hfu (Nat.not_lt_zero _)
  | succ fu ih =>
    intro post e r L C1 h1 he hr62 hb hpo hfu
    have hu := un_le he
    refine am_steps_r ok_W_putReal 4 (q' := (bif decide ((lg_cmp (lN (un e)) 0) ≤ 0) then 102 else 64, [some (.ref 17), some (.long x), none, some (.long (lN n)), none, some (.long (lN r)), none, some (.long (lN (un e))), none], [], wd C1 Y og)) rfl ?_
    refine am_br_r (fun h_1 => ?_) (fun h_1 => ?_)
    · skip
      have h_1 : (un e) ≤ 0 := (cN_le (a := un e) (b := 0) (by omega) (by omega)).mp h_1
      refine am_steps_r ok_W_putReal 4 (q' := (bif decide ((lg_cmp (lN n) 0) = 0) then 108 else 114, [some (.ref 17), some (.long x), none, some (.long (lN n)), none, some (.long (lN r)), none, some (.long (lN (un e))), none], [], wd C1 Y og)) rfl ?_
      refine am_br_r (fun h_2 => ?_) (fun h_2 => ?_)
      · skip
        have h_2 : n = 0 := (cN_eq (a := n) (b := 0) (by omega) (by omega)).mp h_2
        refine am_steps_r ok_W_putReal 2 (q' := (111, [some (.ref 17), some (.long x), none, some (.long (lN n)), none, some (.long (lN r)), none, some (.long (lN (un e))), none], [.int 48, .ref 17], wd C1 Y og)) rfl ?_
        refine am_callV_r (As := [.int 48]) (rest := []) ok_W_putReal rfl rfl ok_W_putByte oi_W_putByte lk_4_75 (Or.inl ⟨_, _, _, rfl, rfl, rfl⟩) rfl rfl (Nat.le_of_ble_eq_true rfl) (c_W_putByte _ C Y og kp rd A hk hkp hr hrd bf L (by omega) C1 h1 48 (by first | (rw [frL_no (by first | exact Or.inl (by assumption) | exact Or.inr (by assumption))] at hb; first | omega | (simp only [List.length_append, List.length_cons, List.length_nil] at hb ⊢; omega) | (simp only [List.length_append, List.length_cons, List.length_nil]; omega)) | (rw [frL_put (by assumption) (by assumption)] at hb; first | omega | (simp only [List.length_append, List.length_cons, List.length_nil] at hb ⊢; omega) | (simp only [List.length_append, List.length_cons, List.length_nil]; omega)))) ?_
        rintro v_ w_ ⟨rfl, C_3, rfl, hC_4⟩ -
        refine am_eq_r (q' := (114, [some (.ref 17), some (.long x), none, some (.long (lN n)), none, some (.long (lN r)), none, some (.long (lN (un e))), none], [], wd C_3 Y og)) rfl ?_
        refine am_vret_r ok_W_putReal rfl rfl rfl ?_
        refine hpo _ ?_
        rw [(frL_no (e := e) (r := r) (by first | exact Or.inl (by assumption) | exact Or.inr (by assumption))), List.append_nil, if_pos (by assumption)]
        exact hC_4
      · skip
        have h_2 : ¬ n = 0 := fun z => h_2 ((cN_eq (a := n) (b := 0) (by omega) (by omega)).mpr z)
        refine am_vret_r ok_W_putReal rfl rfl rfl ?_
        refine hpo _ ?_
        rw [(frL_no (e := e) (r := r) (by first | exact Or.inl (by assumption) | exact Or.inr (by assumption))), List.append_nil, if_neg (by assumption), List.append_nil]
        exact h1
    · skip
      have h_1 : ¬ (un e) ≤ 0 := fun z => h_1 ((cN_le (a := un e) (b := 0) (by omega) (by omega)).mpr z)
      refine am_steps_r ok_W_putReal 4 (q' := (bif decide ((lg_cmp (lN r) 0) ≤ 0) then 102 else 71, [some (.ref 17), some (.long x), none, some (.long (lN n)), none, some (.long (lN r)), none, some (.long (lN (un e))), none], [], wd C1 Y og)) rfl ?_
      refine am_br_r (fun h_5 => ?_) (fun h_5 => ?_)
      · skip
        have h_5 : r ≤ 0 := (cN_le (a := r) (b := 0) (by omega) (by omega)).mp h_5
        refine am_steps_r ok_W_putReal 4 (q' := (bif decide ((lg_cmp (lN n) 0) = 0) then 108 else 114, [some (.ref 17), some (.long x), none, some (.long (lN n)), none, some (.long (lN r)), none, some (.long (lN (un e))), none], [], wd C1 Y og)) rfl ?_
        refine am_br_r (fun h_6 => ?_) (fun h_6 => ?_)
        · skip
          have h_6 : n = 0 := (cN_eq (a := n) (b := 0) (by omega) (by omega)).mp h_6
          refine am_steps_r ok_W_putReal 2 (q' := (111, [some (.ref 17), some (.long x), none, some (.long (lN n)), none, some (.long (lN r)), none, some (.long (lN (un e))), none], [.int 48, .ref 17], wd C1 Y og)) rfl ?_
          refine am_callV_r (As := [.int 48]) (rest := []) ok_W_putReal rfl rfl ok_W_putByte oi_W_putByte lk_4_75 (Or.inl ⟨_, _, _, rfl, rfl, rfl⟩) rfl rfl (Nat.le_of_ble_eq_true rfl) (c_W_putByte _ C Y og kp rd A hk hkp hr hrd bf L (by omega) C1 h1 48 (by first | (rw [frL_no (by first | exact Or.inl (by assumption) | exact Or.inr (by assumption))] at hb; first | omega | (simp only [List.length_append, List.length_cons, List.length_nil] at hb ⊢; omega) | (simp only [List.length_append, List.length_cons, List.length_nil]; omega)) | (rw [frL_put (by assumption) (by assumption)] at hb; first | omega | (simp only [List.length_append, List.length_cons, List.length_nil] at hb ⊢; omega) | (simp only [List.length_append, List.length_cons, List.length_nil]; omega)))) ?_
          rintro v_ w_ ⟨rfl, C_7, rfl, hC_8⟩ -
          refine am_eq_r (q' := (114, [some (.ref 17), some (.long x), none, some (.long (lN n)), none, some (.long (lN r)), none, some (.long (lN (un e))), none], [], wd C_7 Y og)) rfl ?_
          refine am_vret_r ok_W_putReal rfl rfl rfl ?_
          refine hpo _ ?_
          rw [(frL_no (e := e) (r := r) (by first | exact Or.inl (by assumption) | exact Or.inr (by assumption))), List.append_nil, if_pos (by assumption)]
          exact hC_8
        · skip
          have h_6 : ¬ n = 0 := fun z => h_6 ((cN_eq (a := n) (b := 0) (by omega) (by omega)).mpr z)
          refine am_vret_r ok_W_putReal rfl rfl rfl ?_
          refine hpo _ ?_
          rw [(frL_no (e := e) (r := r) (by first | exact Or.inl (by assumption) | exact Or.inr (by assumption))), List.append_nil, if_neg (by assumption), List.append_nil]
          exact h1
      · skip
        have h_5 : ¬ r ≤ 0 := fun z => h_5 ((cN_le (a := r) (b := 0) (by omega) (by omega)).mpr z)
        refine am_steps_r ok_W_putReal 4 (q' := (78, [some (.ref 17), some (.long x), none, some (.long (lN n)), none, some (.long (lN r)), none, some (.long (lN (un e))), none], [.long (lN (un e)), .long (lN r), .int 48, .ref 17], wd C1 Y og)) rfl ?_
        refine am_ldiv_r ok_W_putReal rfl (lN_ne0 (a_ := un e) (by omega) (by omega)) ?_
        rw [lNdiv (a_ := r) (b_ := un e) (by omega) (by omega)]
        have hdv_9 := Nat.div_le_self r (un e)
        refine am_eq_r (q' := (79, [some (.ref 17), some (.long x), none, some (.long (lN n)), none, some (.long (lN r)), none, some (.long (lN (un e))), none], [.long (lN (r / (un e))), .int 48, .ref 17], wd C1 Y og)) rfl ?_
        refine am_steps_r ok_W_putReal 2 (q' := (81, [some (.ref 17), some (.long x), none, some (.long (lN n)), none, some (.long (lN r)), none, some (.long (lN (un e))), none], [.int (48 + (lN (r / (un e))).toInt32), .ref 17], wd C1 Y og)) rfl ?_
        rw [show ((lN (r / (un e))).toInt32 : Int32) = nI (r / (un e)) from lNi (r / (un e))]
        rw [show (48 + (nI (r / (un e))) : Int32) = nI (48 + (r / (un e))) from nI_add 48 (r / (un e))]
        refine am_callV_r (As := [.int (nI (48 + (r / (un e))))]) (rest := []) ok_W_putReal rfl rfl ok_W_putByte oi_W_putByte lk_4_75 (Or.inl ⟨_, _, _, rfl, rfl, rfl⟩) rfl rfl (Nat.le_of_ble_eq_true rfl) (c_W_putByte _ C Y og kp rd A hk hkp hr hrd bf L (by omega) C1 h1 (nI (48 + (r / (un e)))) (by first | (rw [frL_no (by first | exact Or.inl (by assumption) | exact Or.inr (by assumption))] at hb; first | omega | (simp only [List.length_append, List.length_cons, List.length_nil] at hb ⊢; omega) | (simp only [List.length_append, List.length_cons, List.length_nil]; omega)) | (rw [frL_put (by assumption) (by assumption)] at hb; first | omega | (simp only [List.length_append, List.length_cons, List.length_nil] at hb ⊢; omega) | (simp only [List.length_append, List.length_cons, List.length_nil]; omega)))) ?_
        rintro v_ w_ ⟨rfl, C_10, rfl, hC_11⟩ -
        refine am_eq_r (q' := (84, [some (.ref 17), some (.long x), none, some (.long (lN n)), none, some (.long (lN r)), none, some (.long (lN (un e))), none], [], wd C_10 Y og)) rfl ?_
        refine am_steps_r ok_W_putReal 2 (q' := (88, [some (.ref 17), some (.long x), none, some (.long (lN n)), none, some (.long (lN r)), none, some (.long (lN (un e))), none], [.long (lN (un e)), .long (lN r)], wd C_10 Y og)) rfl ?_
        refine am_lrem_r ok_W_putReal rfl (lN_ne0 (a_ := un e) (by omega) (by omega)) ?_
        rw [lNrem (a_ := r) (b_ := un e) (by omega) (by omega)]
        have hdv_12 := Nat.mod_le r (un e)
        refine am_eq_r (q' := (89, [some (.ref 17), some (.long x), none, some (.long (lN n)), none, some (.long (lN r)), none, some (.long (lN (un e))), none], [.long (lN (r % (un e)))], wd C_10 Y og)) rfl ?_
        refine am_steps_r ok_W_putReal 6 (q' := (57, [some (.ref 17), some (.long x), none, some (.long (lN n)), none, some (.long (lN (r % (un e)))), none, some (.long ((lN (un e)) / 10)), none], [], wd C_10 Y og)) rfl ?_
        rw [show (((lN (un e)) / 10) : Int64) = lN ((un e) / 10) from lNdiv (a_ := un e) (b_ := 10) (by omega) (by omega)]
        rw [un_div]
        exact ih post (e - 1) (r % un e) (L ++ [nI (48 + r / un e)]) C_10 hC_11 (by omega) (by have := Nat.mod_le r (un e); omega) (by rw [frL_put (by assumption) (by assumption), ← app_app1] at hb; exact hb) (by rw [frL_put (by assumption) (by assumption), ← app_app1] at hpo; exact hpo) (by have := un_ne (show ¬ un e ≤ 0 by assumption); omega)
set_option maxHeartbeats 4000000 in
set_option maxRecDepth 100000 in
theorem c_W_putReal (d : Nat) (C : wd_C) (Y : wd_Y) (og : Nat → Int64) (kp rd : Nat) (A : Nat → Int32) (hk : C.1 13 = nI kp) (hkp : kp ≤ 1) (hr : C.1 14 = nI rd) (hrd : rd ≤ 1) (bf : Nat) (L : List Int32) (hbf : bf ≤ 5) (C1 : wd_C) (h1 : C1 = wE C kp A (bf, L)) (x : Int64) (hx : abN x < 2 ^ 62) (hb : L.length + (fgL (abN x / 1000000)).length + (frL 6 (abN x % 1000000)).length + 10 < 2147483648) : am_Mt l D cA ad fm (d + 2) m_W_putReal [.ref 17, .long x] (wd C1 Y og) (fun vr w' => vr = none ∧ ∃ C2, w' = wd C2 Y og ∧ C2 = wE C kp A (1, L ++ gpL rd bf 1 ++ rlL (isN x) (abN x))) := by
  refine am_mt ok_W_putReal (by simp [am_arg, Value.category, m_W_putReal, am_ml]) ?_
  refine am_eq_r (q' := (0, [some (.ref 17), some (.long x), none, none, none, none, none, none, none], [], wd C1 Y og)) rfl ?_
  refine am_steps_r ok_W_putReal 1 (q' := (1, [some (.ref 17), some (.long x), none, none, none, none, none, none, none], [.long x], wd C1 Y og)) rfl ?_
  refine am_mabs_r ok_W_putReal rfl (hrs := Nat.le_of_ble_eq_true rfl) (am_in 946 (by decide +kernel) rfl) ?_
  rw [abs_N hx]
  refine am_steps_r ok_W_putReal 3 (q' := (7, [some (.ref 17), some (.long x), none, some (.long (lN (abN x))), none, none, none, none, none], [.int 1, .ref 17], wd C1 Y og)) rfl ?_
  have hgp := gpL_1 rd bf 1
  refine am_callV_r (As := [.int 1]) (rest := []) ok_W_putReal rfl rfl ok_W_putGap oi_W_putGap lk_4_95 (Or.inl ⟨_, _, _, rfl, rfl, rfl⟩) rfl rfl (Nat.le_of_ble_eq_true rfl) (c_W_putGap _ C Y og kp rd A hk hkp hr hrd bf L (by omega) C1 h1 1 (by omega) (by first | omega | (simp only [List.length_append, List.length_cons, List.length_nil] at hb ⊢; omega) | (simp only [List.length_append, List.length_cons, List.length_nil]; omega))) ?_
  rintro v_ w_ ⟨rfl, C_1, rfl, hC_2⟩ -
  refine am_eq_r (q' := (10, [some (.ref 17), some (.long x), none, some (.long (lN (abN x))), none, none, none, none, none], [], wd C_1 Y og)) rfl ?_
  refine am_steps_r ok_W_putReal 4 (q' := (bif decide (0 ≤ (lg_cmp x 0)) then 22 else 16, [some (.ref 17), some (.long x), none, some (.long (lN (abN x))), none, none, none, none, none], [], wd C_1 Y og)) rfl ?_
  refine am_br_r (fun h_3 => ?_) (fun h_3 => ?_)
  · skip
    have h_3 : isN x = false := sgn_ge.mp h_3
    refine am_steps_r ok_W_putReal 4 (q' := (bif decide ((lg_cmp (lN (abN x)) 1000000) < 0) then 39 else 30, [some (.ref 17), some (.long x), none, some (.long (lN (abN x))), none, none, none, none, none], [], wd C_1 Y og)) rfl ?_
    refine am_br_r (fun h_4 => ?_) (fun h_4 => ?_)
    · skip
      have h_4 : (abN x) < 1000000 := (cN_lt (a := abN x) (b := 1000000) (by omega) (by omega)).mp h_4
      refine am_steps_r ok_W_putReal 2 (q' := (42, [some (.ref 17), some (.long x), none, some (.long (lN (abN x))), none, none, none, none, none], [.int 46, .ref 17], wd C_1 Y og)) rfl ?_
      refine am_callV_r (As := [.int 46]) (rest := []) ok_W_putReal rfl rfl ok_W_putByte oi_W_putByte lk_4_75 (Or.inl ⟨_, _, _, rfl, rfl, rfl⟩) rfl rfl (Nat.le_of_ble_eq_true rfl) (c_W_putByte _ C Y og kp rd A hk hkp hr hrd 1 (L ++ gpL rd bf 1) (by omega) C_1 hC_2 46 (by first | omega | (simp only [List.length_append, List.length_cons, List.length_nil] at hb ⊢; omega) | (simp only [List.length_append, List.length_cons, List.length_nil]; omega))) ?_
      rintro v_ w_ ⟨rfl, C_5, rfl, hC_6⟩ -
      refine am_eq_r (q' := (45, [some (.ref 17), some (.long x), none, some (.long (lN (abN x))), none, none, none, none, none], [], wd C_5 Y og)) rfl ?_
      refine am_steps_r ok_W_putReal 6 (q' := (57, [some (.ref 17), some (.long x), none, some (.long (lN (abN x))), none, some (.long ((lN (abN x)) - (lN (abN x)) / 1000000 * 1000000)), none, some (.long 100000), none], [], wd C_5 Y og)) rfl ?_
      rw [show (((lN (abN x)) - (lN (abN x)) / 1000000 * 1000000) : Int64) = lN ((abN x) % 1000000) from lNrem (a_ := abN x) (b_ := 1000000) (by omega) (by omega)]
      refine am_eq_r (q' := (57, [some (.ref 17), some (.long x), none, some (.long (lN (abN x))), none, some (.long (lN (abN x % 1000000))), none, some (.long (lN (un 6))), none], [], wd C_5 Y og)) rfl ?_
      refine lp_W_putReal_57 (d + 1) C Y og kp rd A hk hkp hr hrd 1 (by omega) x (abN x) (by omega) 7 _ 6 (abN x % 1000000) ((L ++ gpL rd bf 1) ++ [46]) C_5 hC_6 (by decide) (by omega) (by first | omega | (simp only [List.length_append, List.length_cons, List.length_nil] at hb ⊢; omega) | (simp only [List.length_append, List.length_cons, List.length_nil]; omega)) (fun C2 h2 => ⟨rfl, C2, rfl, ?_⟩) (by omega)
      rw [rlL, h_3, if_neg (by omega), h2]
      simp only [ngL, if_true, if_false, Bool.false_eq_true, List.append_assoc, List.nil_append, List.append_nil]
    · skip
      have h_4 : ¬ (abN x) < 1000000 := fun z => h_4 ((cN_lt (a := abN x) (b := 1000000) (by omega) (by omega)).mpr z)
      refine am_steps_r ok_W_putReal 4 (q' := (36, [some (.ref 17), some (.long x), none, some (.long (lN (abN x))), none, none, none, none, none], [.long ((lN (abN x)) / 1000000), .ref 17], wd C_1 Y og)) rfl ?_
      rw [show (((lN (abN x)) / 1000000) : Int64) = lN ((abN x) / 1000000) from lNdiv (a_ := abN x) (b_ := 1000000) (by omega) (by omega)]
      refine am_callV_r (As := [.long (lN ((abN x) / 1000000))]) (rest := []) ok_W_putReal rfl rfl ok_W_putFigures oi_W_putFigures lk_4_71 (Or.inl ⟨_, _, _, rfl, rfl, rfl⟩) rfl rfl (Nat.le_of_ble_eq_true rfl) (c_W_putFigures _ C Y og kp rd A hk hkp hr hrd 1 (L ++ gpL rd bf 1) (by omega) C_1 hC_2 ((abN x) / 1000000) (by omega) (by first | omega | (simp only [List.length_append, List.length_cons, List.length_nil] at hb ⊢; omega) | (simp only [List.length_append, List.length_cons, List.length_nil]; omega))) ?_
      rintro v_ w_ ⟨rfl, C_7, rfl, hC_8⟩ -
      refine am_eq_r (q' := (39, [some (.ref 17), some (.long x), none, some (.long (lN (abN x))), none, none, none, none, none], [], wd C_7 Y og)) rfl ?_
      refine am_steps_r ok_W_putReal 2 (q' := (42, [some (.ref 17), some (.long x), none, some (.long (lN (abN x))), none, none, none, none, none], [.int 46, .ref 17], wd C_7 Y og)) rfl ?_
      refine am_callV_r (As := [.int 46]) (rest := []) ok_W_putReal rfl rfl ok_W_putByte oi_W_putByte lk_4_75 (Or.inl ⟨_, _, _, rfl, rfl, rfl⟩) rfl rfl (Nat.le_of_ble_eq_true rfl) (c_W_putByte _ C Y og kp rd A hk hkp hr hrd 1 ((L ++ gpL rd bf 1) ++ fgL ((abN x) / 1000000)) (by omega) C_7 hC_8 46 (by first | omega | (simp only [List.length_append, List.length_cons, List.length_nil] at hb ⊢; omega) | (simp only [List.length_append, List.length_cons, List.length_nil]; omega))) ?_
      rintro v_ w_ ⟨rfl, C_9, rfl, hC_10⟩ -
      refine am_eq_r (q' := (45, [some (.ref 17), some (.long x), none, some (.long (lN (abN x))), none, none, none, none, none], [], wd C_9 Y og)) rfl ?_
      refine am_steps_r ok_W_putReal 6 (q' := (57, [some (.ref 17), some (.long x), none, some (.long (lN (abN x))), none, some (.long ((lN (abN x)) - (lN (abN x)) / 1000000 * 1000000)), none, some (.long 100000), none], [], wd C_9 Y og)) rfl ?_
      rw [show (((lN (abN x)) - (lN (abN x)) / 1000000 * 1000000) : Int64) = lN ((abN x) % 1000000) from lNrem (a_ := abN x) (b_ := 1000000) (by omega) (by omega)]
      refine am_eq_r (q' := (57, [some (.ref 17), some (.long x), none, some (.long (lN (abN x))), none, some (.long (lN (abN x % 1000000))), none, some (.long (lN (un 6))), none], [], wd C_9 Y og)) rfl ?_
      refine lp_W_putReal_57 (d + 1) C Y og kp rd A hk hkp hr hrd 1 (by omega) x (abN x) (by omega) 7 _ 6 (abN x % 1000000) (((L ++ gpL rd bf 1) ++ fgL ((abN x) / 1000000)) ++ [46]) C_9 hC_10 (by decide) (by omega) (by first | omega | (simp only [List.length_append, List.length_cons, List.length_nil] at hb ⊢; omega) | (simp only [List.length_append, List.length_cons, List.length_nil]; omega)) (fun C2 h2 => ⟨rfl, C2, rfl, ?_⟩) (by omega)
      rw [rlL, h_3, if_pos (by omega), h2]
      simp only [ngL, if_true, if_false, Bool.false_eq_true, List.append_assoc, List.nil_append, List.append_nil]
  · skip
    have h_3 : isN x = true := by rcases hz : isN x with _ | _; exact absurd (sgn_ge.mpr hz) h_3; rfl
    refine am_steps_r ok_W_putReal 2 (q' := (19, [some (.ref 17), some (.long x), none, some (.long (lN (abN x))), none, none, none, none, none], [.int 45, .ref 17], wd C_1 Y og)) rfl ?_
    refine am_callV_r (As := [.int 45]) (rest := []) ok_W_putReal rfl rfl ok_W_putByte oi_W_putByte lk_4_75 (Or.inl ⟨_, _, _, rfl, rfl, rfl⟩) rfl rfl (Nat.le_of_ble_eq_true rfl) (c_W_putByte _ C Y og kp rd A hk hkp hr hrd 1 (L ++ gpL rd bf 1) (by omega) C_1 hC_2 45 (by first | omega | (simp only [List.length_append, List.length_cons, List.length_nil] at hb ⊢; omega) | (simp only [List.length_append, List.length_cons, List.length_nil]; omega))) ?_
    rintro v_ w_ ⟨rfl, C_11, rfl, hC_12⟩ -
    refine am_eq_r (q' := (22, [some (.ref 17), some (.long x), none, some (.long (lN (abN x))), none, none, none, none, none], [], wd C_11 Y og)) rfl ?_
    refine am_steps_r ok_W_putReal 4 (q' := (bif decide ((lg_cmp (lN (abN x)) 1000000) < 0) then 39 else 30, [some (.ref 17), some (.long x), none, some (.long (lN (abN x))), none, none, none, none, none], [], wd C_11 Y og)) rfl ?_
    refine am_br_r (fun h_13 => ?_) (fun h_13 => ?_)
    · skip
      have h_13 : (abN x) < 1000000 := (cN_lt (a := abN x) (b := 1000000) (by omega) (by omega)).mp h_13
      refine am_steps_r ok_W_putReal 2 (q' := (42, [some (.ref 17), some (.long x), none, some (.long (lN (abN x))), none, none, none, none, none], [.int 46, .ref 17], wd C_11 Y og)) rfl ?_
      refine am_callV_r (As := [.int 46]) (rest := []) ok_W_putReal rfl rfl ok_W_putByte oi_W_putByte lk_4_75 (Or.inl ⟨_, _, _, rfl, rfl, rfl⟩) rfl rfl (Nat.le_of_ble_eq_true rfl) (c_W_putByte _ C Y og kp rd A hk hkp hr hrd 1 ((L ++ gpL rd bf 1) ++ [45]) (by omega) C_11 hC_12 46 (by first | omega | (simp only [List.length_append, List.length_cons, List.length_nil] at hb ⊢; omega) | (simp only [List.length_append, List.length_cons, List.length_nil]; omega))) ?_
      rintro v_ w_ ⟨rfl, C_14, rfl, hC_15⟩ -
      refine am_eq_r (q' := (45, [some (.ref 17), some (.long x), none, some (.long (lN (abN x))), none, none, none, none, none], [], wd C_14 Y og)) rfl ?_
      refine am_steps_r ok_W_putReal 6 (q' := (57, [some (.ref 17), some (.long x), none, some (.long (lN (abN x))), none, some (.long ((lN (abN x)) - (lN (abN x)) / 1000000 * 1000000)), none, some (.long 100000), none], [], wd C_14 Y og)) rfl ?_
      rw [show (((lN (abN x)) - (lN (abN x)) / 1000000 * 1000000) : Int64) = lN ((abN x) % 1000000) from lNrem (a_ := abN x) (b_ := 1000000) (by omega) (by omega)]
      refine am_eq_r (q' := (57, [some (.ref 17), some (.long x), none, some (.long (lN (abN x))), none, some (.long (lN (abN x % 1000000))), none, some (.long (lN (un 6))), none], [], wd C_14 Y og)) rfl ?_
      refine lp_W_putReal_57 (d + 1) C Y og kp rd A hk hkp hr hrd 1 (by omega) x (abN x) (by omega) 7 _ 6 (abN x % 1000000) (((L ++ gpL rd bf 1) ++ [45]) ++ [46]) C_14 hC_15 (by decide) (by omega) (by first | omega | (simp only [List.length_append, List.length_cons, List.length_nil] at hb ⊢; omega) | (simp only [List.length_append, List.length_cons, List.length_nil]; omega)) (fun C2 h2 => ⟨rfl, C2, rfl, ?_⟩) (by omega)
      rw [rlL, h_3, if_neg (by omega), h2]
      simp only [ngL, if_true, if_false, Bool.false_eq_true, List.append_assoc, List.nil_append, List.append_nil]
    · skip
      have h_13 : ¬ (abN x) < 1000000 := fun z => h_13 ((cN_lt (a := abN x) (b := 1000000) (by omega) (by omega)).mpr z)
      refine am_steps_r ok_W_putReal 4 (q' := (36, [some (.ref 17), some (.long x), none, some (.long (lN (abN x))), none, none, none, none, none], [.long ((lN (abN x)) / 1000000), .ref 17], wd C_11 Y og)) rfl ?_
      rw [show (((lN (abN x)) / 1000000) : Int64) = lN ((abN x) / 1000000) from lNdiv (a_ := abN x) (b_ := 1000000) (by omega) (by omega)]
      refine am_callV_r (As := [.long (lN ((abN x) / 1000000))]) (rest := []) ok_W_putReal rfl rfl ok_W_putFigures oi_W_putFigures lk_4_71 (Or.inl ⟨_, _, _, rfl, rfl, rfl⟩) rfl rfl (Nat.le_of_ble_eq_true rfl) (c_W_putFigures _ C Y og kp rd A hk hkp hr hrd 1 ((L ++ gpL rd bf 1) ++ [45]) (by omega) C_11 hC_12 ((abN x) / 1000000) (by omega) (by first | omega | (simp only [List.length_append, List.length_cons, List.length_nil] at hb ⊢; omega) | (simp only [List.length_append, List.length_cons, List.length_nil]; omega))) ?_
      rintro v_ w_ ⟨rfl, C_16, rfl, hC_17⟩ -
      refine am_eq_r (q' := (39, [some (.ref 17), some (.long x), none, some (.long (lN (abN x))), none, none, none, none, none], [], wd C_16 Y og)) rfl ?_
      refine am_steps_r ok_W_putReal 2 (q' := (42, [some (.ref 17), some (.long x), none, some (.long (lN (abN x))), none, none, none, none, none], [.int 46, .ref 17], wd C_16 Y og)) rfl ?_
      refine am_callV_r (As := [.int 46]) (rest := []) ok_W_putReal rfl rfl ok_W_putByte oi_W_putByte lk_4_75 (Or.inl ⟨_, _, _, rfl, rfl, rfl⟩) rfl rfl (Nat.le_of_ble_eq_true rfl) (c_W_putByte _ C Y og kp rd A hk hkp hr hrd 1 (((L ++ gpL rd bf 1) ++ [45]) ++ fgL ((abN x) / 1000000)) (by omega) C_16 hC_17 46 (by first | omega | (simp only [List.length_append, List.length_cons, List.length_nil] at hb ⊢; omega) | (simp only [List.length_append, List.length_cons, List.length_nil]; omega))) ?_
      rintro v_ w_ ⟨rfl, C_18, rfl, hC_19⟩ -
      refine am_eq_r (q' := (45, [some (.ref 17), some (.long x), none, some (.long (lN (abN x))), none, none, none, none, none], [], wd C_18 Y og)) rfl ?_
      refine am_steps_r ok_W_putReal 6 (q' := (57, [some (.ref 17), some (.long x), none, some (.long (lN (abN x))), none, some (.long ((lN (abN x)) - (lN (abN x)) / 1000000 * 1000000)), none, some (.long 100000), none], [], wd C_18 Y og)) rfl ?_
      rw [show (((lN (abN x)) - (lN (abN x)) / 1000000 * 1000000) : Int64) = lN ((abN x) % 1000000) from lNrem (a_ := abN x) (b_ := 1000000) (by omega) (by omega)]
      refine am_eq_r (q' := (57, [some (.ref 17), some (.long x), none, some (.long (lN (abN x))), none, some (.long (lN (abN x % 1000000))), none, some (.long (lN (un 6))), none], [], wd C_18 Y og)) rfl ?_
      refine lp_W_putReal_57 (d + 1) C Y og kp rd A hk hkp hr hrd 1 (by omega) x (abN x) (by omega) 7 _ 6 (abN x % 1000000) ((((L ++ gpL rd bf 1) ++ [45]) ++ fgL ((abN x) / 1000000)) ++ [46]) C_18 hC_19 (by decide) (by omega) (by first | omega | (simp only [List.length_append, List.length_cons, List.length_nil] at hb ⊢; omega) | (simp only [List.length_append, List.length_cons, List.length_nil]; omega)) (fun C2 h2 => ⟨rfl, C2, rfl, ?_⟩) (by omega)
      rw [rlL, h_3, if_pos (by omega), h2]
      simp only [ngL, if_true, if_false, Bool.false_eq_true, List.append_assoc, List.nil_append, List.append_nil]
set_option maxHeartbeats 4000000 in
set_option maxRecDepth 100000 in
theorem c_W_putReference (d : Nat) (C : wd_C) (Y : wd_Y) (og : Nat → Int64) (kp rd : Nat) (A : Nat → Int32) (hk : C.1 13 = nI kp) (hkp : kp ≤ 1) (hr : C.1 14 = nI rd) (hrd : rd ≤ 1) (bf : Nat) (L : List Int32) (hbf : bf ≤ 5) (C1 : wd_C) (h1 : C1 = wE C kp A (bf, L)) (hfm : fm = .null ∨ fm = .ref 3000) (n : Nat) (hn : n < 2 ^ 62) (hb : L.length + (fgL (n % 1000000000)).length + (fgL (n / 1000000000)).length + 100 < 2147483648) : am_Mt l D cA ad fm (d + 5) m_W_putReference [.ref 17, .long (lN n)] (wd C1 Y og) (fun vr w' => vr = none ∧ ∃ C2, w' = wd C2 Y og ∧ C2 = wE C kp A (1, L ++ gpL rd bf 1 ++ rfL (n % 1000000000) (n / 1000000000))) := by
  refine am_mt ok_W_putReference (by simp [am_arg, Value.category, m_W_putReference, am_ml]) ?_
  refine am_eq_r (q' := (0, [some (.ref 17), some (.long (lN n)), none], [], wd C1 Y og)) rfl ?_
  refine am_steps_r ok_W_putReference 2 (q' := (2, [some (.ref 17), some (.long (lN n)), none], [.int 1, .ref 17], wd C1 Y og)) rfl ?_
  have hgp := gpL_1 rd bf 1
  refine am_callV_r (As := [.int 1]) (rest := []) ok_W_putReference rfl rfl ok_W_putGap oi_W_putGap lk_4_95 (Or.inl ⟨_, _, _, rfl, rfl, rfl⟩) rfl rfl (Nat.le_of_ble_eq_true rfl) (c_W_putGap _ C Y og kp rd A hk hkp hr hrd bf L (by omega) C1 h1 1 (by omega) (by first | omega | (simp only [List.length_append, List.length_cons, List.length_nil] at hb ⊢; omega) | (simp only [List.length_append, List.length_cons, List.length_nil]; omega))) ?_
  rintro v_ w_ ⟨rfl, C_1, rfl, hC_2⟩ -
  refine am_eq_r (q' := (5, [some (.ref 17), some (.long (lN n)), none], [], wd C_1 Y og)) rfl ?_
  refine am_steps_r ok_W_putReference 4 (q' := (11, [some (.ref 17), some (.long (lN n)), none], [.long ((lN n) - (lN n) / 1000000000 * 1000000000), .ref 17], wd C_1 Y og)) rfl ?_
  rw [show (((lN n) - (lN n) / 1000000000 * 1000000000) : Int64) = lN (n % 1000000000) from lNrem (a_ := n) (b_ := 1000000000) (by omega) (by omega)]
  refine am_callV_r (As := [.long (lN (n % 1000000000))]) (rest := []) ok_W_putReference rfl rfl ok_W_putFigures oi_W_putFigures lk_4_71 (Or.inl ⟨_, _, _, rfl, rfl, rfl⟩) rfl rfl (Nat.le_of_ble_eq_true rfl) (c_W_putFigures _ C Y og kp rd A hk hkp hr hrd 1 (L ++ gpL rd bf 1) (by omega) C_1 hC_2 (n % 1000000000) (by omega) (by first | omega | (simp only [List.length_append, List.length_cons, List.length_nil] at hb ⊢; omega) | (simp only [List.length_append, List.length_cons, List.length_nil]; omega))) ?_
  rintro v_ w_ ⟨rfl, C_3, rfl, hC_4⟩ -
  refine am_eq_r (q' := (14, [some (.ref 17), some (.long (lN n)), none], [], wd C_3 Y og)) rfl ?_
  refine am_steps_r ok_W_putReference 2 (q' := (17, [some (.ref 17), some (.long (lN n)), none], [.int 32, .ref 17], wd C_3 Y og)) rfl ?_
  refine am_callV_r (As := [.int 32]) (rest := []) ok_W_putReference rfl rfl ok_W_putByte oi_W_putByte lk_4_75 (Or.inl ⟨_, _, _, rfl, rfl, rfl⟩) rfl rfl (Nat.le_of_ble_eq_true rfl) (c_W_putByte _ C Y og kp rd A hk hkp hr hrd 1 ((L ++ gpL rd bf 1) ++ fgL (n % 1000000000)) (by omega) C_3 hC_4 32 (by first | omega | (simp only [List.length_append, List.length_cons, List.length_nil] at hb ⊢; omega) | (simp only [List.length_append, List.length_cons, List.length_nil]; omega))) ?_
  rintro v_ w_ ⟨rfl, C_5, rfl, hC_6⟩ -
  refine am_eq_r (q' := (20, [some (.ref 17), some (.long (lN n)), none], [], wd C_5 Y og)) rfl ?_
  refine am_steps_r ok_W_putReference 4 (q' := (26, [some (.ref 17), some (.long (lN n)), none], [.long ((lN n) / 1000000000), .ref 17], wd C_5 Y og)) rfl ?_
  rw [show (((lN n) / 1000000000) : Int64) = lN (n / 1000000000) from lNdiv (a_ := n) (b_ := 1000000000) (by omega) (by omega)]
  refine am_callV_r (As := [.long (lN (n / 1000000000))]) (rest := []) ok_W_putReference rfl rfl ok_W_putFigures oi_W_putFigures lk_4_71 (Or.inl ⟨_, _, _, rfl, rfl, rfl⟩) rfl rfl (Nat.le_of_ble_eq_true rfl) (c_W_putFigures _ C Y og kp rd A hk hkp hr hrd 1 (((L ++ gpL rd bf 1) ++ fgL (n % 1000000000)) ++ [32]) (by omega) C_5 hC_6 (n / 1000000000) (by omega) (by first | omega | (simp only [List.length_append, List.length_cons, List.length_nil] at hb ⊢; omega) | (simp only [List.length_append, List.length_cons, List.length_nil]; omega))) ?_
  rintro v_ w_ ⟨rfl, C_7, rfl, hC_8⟩ -
  refine am_eq_r (q' := (29, [some (.ref 17), some (.long (lN n)), none], [], wd C_7 Y og)) rfl ?_
  refine am_steps_r ok_W_putReference 2 (q' := (32, [some (.ref 17), some (.long (lN n)), none], [.ref 1021, .ref 17], wd C_7 Y og)) rfl ?_
  refine am_callV_r (As := [.ref 1021]) (rest := []) ok_W_putReference rfl rfl ok_W_putText oi_W_putText lk_4_63 (Or.inl ⟨_, _, _, rfl, rfl, rfl⟩) rfl rfl (Nat.le_of_ble_eq_true rfl) (c_W_putText _ C Y og kp rd A hk hkp hr hrd 1 ((((L ++ gpL rd bf 1) ++ fgL (n % 1000000000)) ++ [32]) ++ fgL (n / 1000000000)) (by omega) C_7 hC_8 21 _ _ _ st_21 rfl (by decide) hfm (by have hL9 : st_21.length < 20 := (by decide); first | omega | (simp only [List.length_append, List.length_cons, List.length_nil] at hb ⊢; omega) | (simp only [List.length_append, List.length_cons, List.length_nil]; omega))) ?_
  rintro v_ w_ ⟨rfl, C_9, rfl, hC_10⟩ -
  refine am_eq_r (q' := (35, [some (.ref 17), some (.long (lN n)), none], [], wd C_9 Y og)) rfl ?_
  refine am_vret_r ok_W_putReference rfl rfl rfl ?_
  refine ⟨rfl, _, rfl, ?_⟩
  rw [hC_10]
  simp only [rfL, List.append_assoc]
  rfl
set_option maxHeartbeats 4000000 in
set_option maxRecDepth 100000 in
theorem lp_W_putName_13 (d : Nat) (C : wd_C) (Y : wd_Y) (og : Nat → Int64) (kp rd : Nat) (A : Nat → Int32) (hk : C.1 13 = nI kp) (hkp : kp ≤ 1) (hr : C.1 14 = nI rd) (hrd : rd ≤ 1) (bf : Nat) (hbf : bf ≤ 5) (hfm : fm = .null ∨ fm = .ref 3000) (nv u : Nat) (V : VT) (hS : vsC C nv u V) (v : Nat) (hv : v < nv)  : ∀ (fu : Nat) (post : Option Value → am_W → Prop) (k : Nat) (L : List Int32) (C1 : wd_C), (C1 = wE C kp A (bf, L)) → (k ≤ (V.2.2.2 v).length) → ((L ++ (nwL ((V.2.2.2 v).drop k))).length < 2147483648) → (∀ C2, C2 = wE C kp A (bf, L ++ (nwL ((V.2.2.2 v).drop k))) → post none (wd C2 Y og)) → (V.2.2.2 v).length - k < fu → am_Rn l D cA ad fm (d + 5) m_W_putName (wd C Y og).length post (13, [some (.ref 17), some (.int (nI v)), some (.int (nI k)), none], [], wd C1 Y og) := by
  intro fu
  induction fu with
  | zero => intro post k L C1 h1 hkl hb hpo hfu; exact absurd hfu (Nat.not_lt_zero _)
  | succ fu ih =>
    intro post k L C1 h1 hkl hb hpo hfu
    have hvl := (vsC_bt hS hv).2
    have hnv := hS.1.2.1
    refine am_steps_r ok_W_putName 4 (q' := (19, [some (.ref 17), some (.int (nI v)), some (.int (nI k)), none], [.int (nI v), .ref 3, .int (nI k)], wd C1 Y og)) rfl ?_
    refine am_callV_r (As := [.int (nI v)]) (rest := [.int (nI k)]) ok_W_putName rfl rfl ok_V_lengthOf oi_V_lengthOf lk_4_140 (Or.inl ⟨_, _, _, rfl, rfl, rfl⟩) rfl rfl (Nat.le_of_ble_eq_true rfl) (v_len _ hS h1 (v := v) hv) ?_
    rintro v_ w_ ⟨rfl, rfl⟩ -
    refine am_eq_r (q' := (22, [some (.ref 17), some (.int (nI v)), some (.int (nI k)), none], [.int (nI ((V.2.2.2 v).length)), .int (nI k)], wd C1 Y og)) rfl ?_
    refine am_steps_r ok_W_putName 1 (q' := (bif decide ((nI ((V.2.2.2 v).length)) ≤ (nI k)) then 73 else 25, [some (.ref 17), some (.int (nI v)), some (.int (nI k)), none], [], wd C1 Y og)) rfl ?_
    refine am_br_r (fun h_2 => ?_) (fun h_2 => ?_)
    · skip
      have h_2 : ((V.2.2.2 v).length) ≤ k := (nI_leI (show ((V.2.2.2 v).length) < 2 ^ 31 by omega) (show k < 2 ^ 31 by omega)).mp h_2
      refine am_vret_r ok_W_putName rfl rfl rfl ?_
      exact hpo _ (by rw [List.drop_eq_nil_of_le (by omega)]; simp only [nwL, List.append_nil]; exact h1)
    · skip
      have h_2 : ¬ ((V.2.2.2 v).length) ≤ k := fun z => h_2 ((nI_leI (show ((V.2.2.2 v).length) < 2 ^ 31 by omega) (show k < 2 ^ 31 by omega)).mpr z)
      refine am_steps_r ok_W_putName 4 (q' := (31, [some (.ref 17), some (.int (nI v)), some (.int (nI k)), none], [.int (nI k), .int (nI v), .ref 3], wd C1 Y og)) rfl ?_
      refine am_callV_r (As := [.int (nI v), .int (nI k)]) (rest := []) ok_W_putName rfl rfl ok_V_byteAt oi_V_byteAt lk_4_162 (Or.inl ⟨_, _, _, rfl, rfl, rfl⟩) rfl rfl (Nat.le_of_ble_eq_true rfl) (v_byte _ hS h1 (v := v) hv (k := k) (by omega)) ?_
      rintro v_ w_ ⟨rfl, rfl⟩ -
      refine am_eq_r (q' := (34, [some (.ref 17), some (.int (nI v)), some (.int (nI k)), none], [.int ((V.2.2.2 v).getD k 0)], wd C1 Y og)) rfl ?_
      refine am_steps_r ok_W_putName 2 (q' := (36, [some (.ref 17), some (.int (nI v)), some (.int (nI k)), some (.int ((V.2.2.2 v).getD k 0))], [.int ((V.2.2.2 v).getD k 0)], wd C1 Y og)) rfl ?_
      refine am_callN_r (As := [.int ((V.2.2.2 v).getD k 0)]) (rest := []) ok_W_putName rfl rfl ok_S_isRegular os_S_isRegular ln_4_165 rfl rfl (Nat.le_of_ble_eq_true rfl) (c_S_isRegular _ C1 Y og ((V.2.2.2 v).getD k 0)) ?_
      rintro v_ w_ ⟨rfl, rfl⟩ -
      refine am_eq_r (q' := (39, [some (.ref 17), some (.int (nI v)), some (.int (nI k)), some (.int ((V.2.2.2 v).getD k 0))], [.int (bz (isReg ((V.2.2.2 v).getD k 0)))], wd C1 Y og)) rfl ?_
      refine am_steps_r ok_W_putName 1 (q' := (bif decide ((bz (isReg ((V.2.2.2 v).getD k 0))) = 0) then 56 else 42, [some (.ref 17), some (.int (nI v)), some (.int (nI k)), some (.int ((V.2.2.2 v).getD k 0))], [], wd C1 Y og)) rfl ?_
      refine am_bz_r (fun h_5 => ?_) (fun h_5 => ?_)
      · skip
        refine am_steps_r ok_W_putName 3 (q' := (bif decide (((V.2.2.2 v).getD k 0) = 35) then 56 else 48, [some (.ref 17), some (.int (nI v)), some (.int (nI k)), some (.int ((V.2.2.2 v).getD k 0))], [], wd C1 Y og)) rfl ?_
        refine am_br_r (fun h_6 => ?_) (fun h_6 => ?_)
        · skip
          refine am_steps_r ok_W_putName 2 (q' := (59, [some (.ref 17), some (.int (nI v)), some (.int (nI k)), some (.int ((V.2.2.2 v).getD k 0))], [.int 35, .ref 17], wd C1 Y og)) rfl ?_
          refine am_callV_r (As := [.int 35]) (rest := []) ok_W_putName rfl rfl ok_W_putByte oi_W_putByte lk_4_75 (Or.inl ⟨_, _, _, rfl, rfl, rfl⟩) rfl rfl (Nat.le_of_ble_eq_true rfl) (c_W_putByte _ C Y og kp rd A hk hkp hr hrd bf L (by omega) C1 h1 35 (by rw [drop_get (bs := V.2.2.2 v) (k := k) (by omega), show nwL (((V.2.2.2 v).getD k 0) :: (V.2.2.2 v).drop (k + 1)) = nwC ((V.2.2.2 v).getD k 0) ++ nwL ((V.2.2.2 v).drop (k + 1)) from rfl] at hb; rw [show nwC ((V.2.2.2 v).getD k 0) = 35 :: hxL ((V.2.2.2 v).getD k 0) by first | exact nw_1 (by assumption) (by assumption) | exact nw_2 (by assumption) | exact nw_3 (by assumption)] at hb; simp only [hxL, List.length_append, List.length_cons, List.length_nil] at hb ⊢; omega)) ?_
          rintro v_ w_ ⟨rfl, C_7, rfl, hC_8⟩ -
          refine am_eq_r (q' := (62, [some (.ref 17), some (.int (nI v)), some (.int (nI k)), some (.int ((V.2.2.2 v).getD k 0))], [], wd C_7 Y og)) rfl ?_
          refine am_steps_r ok_W_putName 2 (q' := (64, [some (.ref 17), some (.int (nI v)), some (.int (nI k)), some (.int ((V.2.2.2 v).getD k 0))], [.int ((V.2.2.2 v).getD k 0), .ref 17], wd C_7 Y og)) rfl ?_
          obtain ⟨j, hj, hej⟩ := v_by hS hv (k := k) (by omega)
          have hb9 : (L ++ [35]).length + 2 < 2147483648 := (by rw [drop_get (bs := V.2.2.2 v) (k := k) (by omega), show nwL (((V.2.2.2 v).getD k 0) :: (V.2.2.2 v).drop (k + 1)) = nwC ((V.2.2.2 v).getD k 0) ++ nwL ((V.2.2.2 v).drop (k + 1)) from rfl] at hb; rw [show nwC ((V.2.2.2 v).getD k 0) = 35 :: hxL ((V.2.2.2 v).getD k 0) by first | exact nw_1 (by assumption) (by assumption) | exact nw_2 (by assumption) | exact nw_3 (by assumption)] at hb; simp only [hxL, List.length_append, List.length_cons, List.length_nil] at hb ⊢; omega)
          have hc9 := c_W_putFigures16 (l := l) (D := D) (cA := cA) (ad := ad) (fm := fm) d C Y og kp rd A hk hkp hr hrd bf (L ++ [35]) (by omega) C_7 hC_8 hfm j hj hb9
          rw [← hej] at hc9
          refine am_callV_r (As := [.int ((V.2.2.2 v).getD k 0)]) (rest := []) ok_W_putName rfl rfl ok_W_putFigures16 oi_W_putFigures16 lk_4_169 (Or.inl ⟨_, _, _, rfl, rfl, rfl⟩) rfl rfl (Nat.le_of_ble_eq_true rfl) hc9 ?_
          rintro v_ w_ ⟨rfl, C_9, rfl, hC_10⟩ -
          refine am_eq_r (q' := (67, [some (.ref 17), some (.int (nI v)), some (.int (nI k)), some (.int ((V.2.2.2 v).getD k 0))], [], wd C_9 Y og)) rfl ?_
          refine am_steps_r ok_W_putName 2 (q' := (13, [some (.ref 17), some (.int (nI v)), some (.int ((nI k) + 1)), some (.int ((V.2.2.2 v).getD k 0))], [], wd C_9 Y og)) rfl ?_
          rw [show ((nI k) + 1 : Int32) = nI (k + 1) from nI_add k 1]
          refine am_drop_r [3] (L' := [some (.ref 17), some (.int (nI v)), some (.int (nI (k + 1))), none]) rfl ?_
          have e9 : nwC ((V.2.2.2 v).getD k 0) = (35 :: hxL ((V.2.2.2 v).getD k 0)) := by first | exact nw_1 (by assumption) (by assumption) | exact nw_2 (by assumption) | exact nw_3 (by assumption)
          have hC9 : C_9 = wE C kp A (bf, (L ++ (35 :: hxL ((V.2.2.2 v).getD k 0)))) := by rw [hC_10]; simp only [List.append_assoc, List.cons_append, List.nil_append]
          exact ih post (k + 1) (L ++ (35 :: hxL ((V.2.2.2 v).getD k 0))) C_9 hC9 (by omega) (by rw [drop_get (bs := V.2.2.2 v) (k := k) (by omega), show nwL (((V.2.2.2 v).getD k 0) :: (V.2.2.2 v).drop (k + 1)) = nwC ((V.2.2.2 v).getD k 0) ++ nwL ((V.2.2.2 v).drop (k + 1)) from rfl, e9, ← List.append_assoc] at hb; exact hb) (by rw [drop_get (bs := V.2.2.2 v) (k := k) (by omega), show nwL (((V.2.2.2 v).getD k 0) :: (V.2.2.2 v).drop (k + 1)) = nwC ((V.2.2.2 v).getD k 0) ++ nwL ((V.2.2.2 v).drop (k + 1)) from rfl, e9, ← List.append_assoc] at hpo; exact hpo) (by omega)
        · skip
          refine am_steps_r ok_W_putName 2 (q' := (50, [some (.ref 17), some (.int (nI v)), some (.int (nI k)), some (.int ((V.2.2.2 v).getD k 0))], [.int ((V.2.2.2 v).getD k 0), .ref 17], wd C1 Y og)) rfl ?_
          refine am_callV_r (As := [.int ((V.2.2.2 v).getD k 0)]) (rest := []) ok_W_putName rfl rfl ok_W_putByte oi_W_putByte lk_4_75 (Or.inl ⟨_, _, _, rfl, rfl, rfl⟩) rfl rfl (Nat.le_of_ble_eq_true rfl) (c_W_putByte _ C Y og kp rd A hk hkp hr hrd bf L (by omega) C1 h1 ((V.2.2.2 v).getD k 0) (by rw [drop_get (bs := V.2.2.2 v) (k := k) (by omega), show nwL (((V.2.2.2 v).getD k 0) :: (V.2.2.2 v).drop (k + 1)) = nwC ((V.2.2.2 v).getD k 0) ++ nwL ((V.2.2.2 v).drop (k + 1)) from rfl] at hb; rw [show nwC ((V.2.2.2 v).getD k 0) = [((V.2.2.2 v).getD k 0)] by first | exact nw_1 (by assumption) (by assumption) | exact nw_2 (by assumption) | exact nw_3 (by assumption)] at hb; simp only [hxL, List.length_append, List.length_cons, List.length_nil] at hb ⊢; omega)) ?_
          rintro v_ w_ ⟨rfl, C_11, rfl, hC_12⟩ -
          refine am_eq_r (q' := (53, [some (.ref 17), some (.int (nI v)), some (.int (nI k)), some (.int ((V.2.2.2 v).getD k 0))], [], wd C_11 Y og)) rfl ?_
          refine am_steps_r ok_W_putName 3 (q' := (13, [some (.ref 17), some (.int (nI v)), some (.int ((nI k) + 1)), some (.int ((V.2.2.2 v).getD k 0))], [], wd C_11 Y og)) rfl ?_
          rw [show ((nI k) + 1 : Int32) = nI (k + 1) from nI_add k 1]
          refine am_drop_r [3] (L' := [some (.ref 17), some (.int (nI v)), some (.int (nI (k + 1))), none]) rfl ?_
          have e9 : nwC ((V.2.2.2 v).getD k 0) = [((V.2.2.2 v).getD k 0)] := by first | exact nw_1 (by assumption) (by assumption) | exact nw_2 (by assumption) | exact nw_3 (by assumption)
          exact ih post (k + 1) (L ++ [((V.2.2.2 v).getD k 0)]) C_11 hC_12 (by omega) (by rw [drop_get (bs := V.2.2.2 v) (k := k) (by omega), show nwL (((V.2.2.2 v).getD k 0) :: (V.2.2.2 v).drop (k + 1)) = nwC ((V.2.2.2 v).getD k 0) ++ nwL ((V.2.2.2 v).drop (k + 1)) from rfl, e9, ← List.append_assoc] at hb; exact hb) (by rw [drop_get (bs := V.2.2.2 v) (k := k) (by omega), show nwL (((V.2.2.2 v).getD k 0) :: (V.2.2.2 v).drop (k + 1)) = nwC ((V.2.2.2 v).getD k 0) ++ nwL ((V.2.2.2 v).drop (k + 1)) from rfl, e9, ← List.append_assoc] at hpo; exact hpo) (by omega)
      · skip
        refine am_steps_r ok_W_putName 2 (q' := (59, [some (.ref 17), some (.int (nI v)), some (.int (nI k)), some (.int ((V.2.2.2 v).getD k 0))], [.int 35, .ref 17], wd C1 Y og)) rfl ?_
        refine am_callV_r (As := [.int 35]) (rest := []) ok_W_putName rfl rfl ok_W_putByte oi_W_putByte lk_4_75 (Or.inl ⟨_, _, _, rfl, rfl, rfl⟩) rfl rfl (Nat.le_of_ble_eq_true rfl) (c_W_putByte _ C Y og kp rd A hk hkp hr hrd bf L (by omega) C1 h1 35 (by rw [drop_get (bs := V.2.2.2 v) (k := k) (by omega), show nwL (((V.2.2.2 v).getD k 0) :: (V.2.2.2 v).drop (k + 1)) = nwC ((V.2.2.2 v).getD k 0) ++ nwL ((V.2.2.2 v).drop (k + 1)) from rfl] at hb; rw [show nwC ((V.2.2.2 v).getD k 0) = 35 :: hxL ((V.2.2.2 v).getD k 0) by first | exact nw_1 (by assumption) (by assumption) | exact nw_2 (by assumption) | exact nw_3 (by assumption)] at hb; simp only [hxL, List.length_append, List.length_cons, List.length_nil] at hb ⊢; omega)) ?_
        rintro v_ w_ ⟨rfl, C_13, rfl, hC_14⟩ -
        refine am_eq_r (q' := (62, [some (.ref 17), some (.int (nI v)), some (.int (nI k)), some (.int ((V.2.2.2 v).getD k 0))], [], wd C_13 Y og)) rfl ?_
        refine am_steps_r ok_W_putName 2 (q' := (64, [some (.ref 17), some (.int (nI v)), some (.int (nI k)), some (.int ((V.2.2.2 v).getD k 0))], [.int ((V.2.2.2 v).getD k 0), .ref 17], wd C_13 Y og)) rfl ?_
        obtain ⟨j, hj, hej⟩ := v_by hS hv (k := k) (by omega)
        have hb9 : (L ++ [35]).length + 2 < 2147483648 := (by rw [drop_get (bs := V.2.2.2 v) (k := k) (by omega), show nwL (((V.2.2.2 v).getD k 0) :: (V.2.2.2 v).drop (k + 1)) = nwC ((V.2.2.2 v).getD k 0) ++ nwL ((V.2.2.2 v).drop (k + 1)) from rfl] at hb; rw [show nwC ((V.2.2.2 v).getD k 0) = 35 :: hxL ((V.2.2.2 v).getD k 0) by first | exact nw_1 (by assumption) (by assumption) | exact nw_2 (by assumption) | exact nw_3 (by assumption)] at hb; simp only [hxL, List.length_append, List.length_cons, List.length_nil] at hb ⊢; omega)
        have hc9 := c_W_putFigures16 (l := l) (D := D) (cA := cA) (ad := ad) (fm := fm) d C Y og kp rd A hk hkp hr hrd bf (L ++ [35]) (by omega) C_13 hC_14 hfm j hj hb9
        rw [← hej] at hc9
        refine am_callV_r (As := [.int ((V.2.2.2 v).getD k 0)]) (rest := []) ok_W_putName rfl rfl ok_W_putFigures16 oi_W_putFigures16 lk_4_169 (Or.inl ⟨_, _, _, rfl, rfl, rfl⟩) rfl rfl (Nat.le_of_ble_eq_true rfl) hc9 ?_
        rintro v_ w_ ⟨rfl, C_15, rfl, hC_16⟩ -
        refine am_eq_r (q' := (67, [some (.ref 17), some (.int (nI v)), some (.int (nI k)), some (.int ((V.2.2.2 v).getD k 0))], [], wd C_15 Y og)) rfl ?_
        refine am_steps_r ok_W_putName 2 (q' := (13, [some (.ref 17), some (.int (nI v)), some (.int ((nI k) + 1)), some (.int ((V.2.2.2 v).getD k 0))], [], wd C_15 Y og)) rfl ?_
        rw [show ((nI k) + 1 : Int32) = nI (k + 1) from nI_add k 1]
        refine am_drop_r [3] (L' := [some (.ref 17), some (.int (nI v)), some (.int (nI (k + 1))), none]) rfl ?_
        have e9 : nwC ((V.2.2.2 v).getD k 0) = (35 :: hxL ((V.2.2.2 v).getD k 0)) := by first | exact nw_1 (by assumption) (by assumption) | exact nw_2 (by assumption) | exact nw_3 (by assumption)
        have hC9 : C_15 = wE C kp A (bf, (L ++ (35 :: hxL ((V.2.2.2 v).getD k 0)))) := by rw [hC_16]; simp only [List.append_assoc, List.cons_append, List.nil_append]
        exact ih post (k + 1) (L ++ (35 :: hxL ((V.2.2.2 v).getD k 0))) C_15 hC9 (by omega) (by rw [drop_get (bs := V.2.2.2 v) (k := k) (by omega), show nwL (((V.2.2.2 v).getD k 0) :: (V.2.2.2 v).drop (k + 1)) = nwC ((V.2.2.2 v).getD k 0) ++ nwL ((V.2.2.2 v).drop (k + 1)) from rfl, e9, ← List.append_assoc] at hb; exact hb) (by rw [drop_get (bs := V.2.2.2 v) (k := k) (by omega), show nwL (((V.2.2.2 v).getD k 0) :: (V.2.2.2 v).drop (k + 1)) = nwC ((V.2.2.2 v).getD k 0) ++ nwL ((V.2.2.2 v).drop (k + 1)) from rfl, e9, ← List.append_assoc] at hpo; exact hpo) (by omega)
set_option maxHeartbeats 4000000 in
set_option maxRecDepth 100000 in
theorem c_W_putName (d : Nat) (C : wd_C) (Y : wd_Y) (og : Nat → Int64) (kp rd : Nat) (A : Nat → Int32) (hk : C.1 13 = nI kp) (hkp : kp ≤ 1) (hr : C.1 14 = nI rd) (hrd : rd ≤ 1) (bf : Nat) (L : List Int32) (hbf : bf ≤ 5) (C1 : wd_C) (h1 : C1 = wE C kp A (bf, L)) (hfm : fm = .null ∨ fm = .ref 3000) (nv u : Nat) (V : VT) (hS : vsC C nv u V) (v : Nat) (hv : v < nv) (hb : L.length + (nwL (V.2.2.2 v)).length + 10 < 2147483648) : am_Mt l D cA ad fm (d + 5) m_W_putName [.ref 17, .int (nI v)] (wd C1 Y og) (fun vr w' => vr = none ∧ ∃ C2, w' = wd C2 Y og ∧ C2 = wE C kp A (2, L ++ gpL rd bf 2 ++ (47 :: nwL (V.2.2.2 v)))) := by
  have hnv := hS.1.2.1
  refine am_mt ok_W_putName (by simp [am_arg, Value.category, m_W_putName, am_ml]) ?_
  refine am_eq_r (q' := (0, [some (.ref 17), some (.int (nI v)), none, none], [], wd C1 Y og)) rfl ?_
  refine am_steps_r ok_W_putName 2 (q' := (2, [some (.ref 17), some (.int (nI v)), none, none], [.int 2, .ref 17], wd C1 Y og)) rfl ?_
  have hgp := gpL_1 rd bf 2
  refine am_callV_r (As := [.int 2]) (rest := []) ok_W_putName rfl rfl ok_W_putGap oi_W_putGap lk_4_95 (Or.inl ⟨_, _, _, rfl, rfl, rfl⟩) rfl rfl (Nat.le_of_ble_eq_true rfl) (c_W_putGap _ C Y og kp rd A hk hkp hr hrd bf L (by omega) C1 h1 2 (by omega) (by first | omega | (simp only [List.length_append, List.length_cons, List.length_nil] at hb ⊢; omega) | (simp only [List.length_append, List.length_cons, List.length_nil]; omega))) ?_
  rintro v_ w_ ⟨rfl, C_1, rfl, hC_2⟩ -
  refine am_eq_r (q' := (5, [some (.ref 17), some (.int (nI v)), none, none], [], wd C_1 Y og)) rfl ?_
  refine am_steps_r ok_W_putName 2 (q' := (8, [some (.ref 17), some (.int (nI v)), none, none], [.int 47, .ref 17], wd C_1 Y og)) rfl ?_
  refine am_callV_r (As := [.int 47]) (rest := []) ok_W_putName rfl rfl ok_W_putByte oi_W_putByte lk_4_75 (Or.inl ⟨_, _, _, rfl, rfl, rfl⟩) rfl rfl (Nat.le_of_ble_eq_true rfl) (c_W_putByte _ C Y og kp rd A hk hkp hr hrd 2 (L ++ gpL rd bf 2) (by omega) C_1 hC_2 47 (by first | omega | (simp only [List.length_append, List.length_cons, List.length_nil] at hb ⊢; omega) | (simp only [List.length_append, List.length_cons, List.length_nil]; omega))) ?_
  rintro v_ w_ ⟨rfl, C_3, rfl, hC_4⟩ -
  refine am_eq_r (q' := (11, [some (.ref 17), some (.int (nI v)), none, none], [], wd C_3 Y og)) rfl ?_
  refine am_steps_r ok_W_putName 2 (q' := (13, [some (.ref 17), some (.int (nI v)), some (.int 0), none], [], wd C_3 Y og)) rfl ?_
  refine am_eq_r (q' := (13, [some (.ref 17), some (.int (nI v)), some (.int (nI 0)), none], [], wd C_3 Y og)) rfl ?_
  exact lp_W_putName_13 d C Y og kp rd A hk hkp hr hrd 2 (by omega) hfm nv u V hS v hv ((V.2.2.2 v).length + 1) _ 0 ((L ++ gpL rd bf 2) ++ [47]) C_3 hC_4 (Nat.zero_le _) (by rw [List.drop_zero]; first | omega | (simp only [List.length_append, List.length_cons, List.length_nil] at hb ⊢; omega) | (simp only [List.length_append, List.length_cons, List.length_nil]; omega)) (fun C2 h2 => ⟨rfl, C2, rfl, by rw [h2, app_app1]; rfl⟩) (by omega)
set_option maxHeartbeats 4000000 in
set_option maxRecDepth 100000 in
theorem lp_W_putString_9 (d : Nat) (C : wd_C) (Y : wd_Y) (og : Nat → Int64) (kp rd : Nat) (A : Nat → Int32) (hk : C.1 13 = nI kp) (hkp : kp ≤ 1) (hr : C.1 14 = nI rd) (hrd : rd ≤ 1) (bf : Nat) (hbf : bf ≤ 5) (hfm : fm = .null ∨ fm = .ref 3000) (nv u : Nat) (V : VT) (hS : vsC C nv u V) (v : Nat) (hv : v < nv)  : ∀ (fu : Nat) (post : Option Value → am_W → Prop) (k : Nat) (L : List Int32) (C1 : wd_C), (C1 = wE C kp A (bf, L)) → (k ≤ (V.2.2.2 v).length) → ((L ++ (swL ((V.2.2.2 v).drop k))).length + 1 < 2147483648) → (∀ C2, C2 = wE C kp A (bf, L ++ (swL ((V.2.2.2 v).drop k)) ++ [41]) → post none (wd C2 Y og)) → (V.2.2.2 v).length - k < fu → am_Rn l D cA ad fm (d + 4) m_W_putString (wd C Y og).length post (9, [some (.ref 17), some (.int (nI v)), some (.int (nI k)), none], [], wd C1 Y og) := by
  intro fu
  induction fu with
  | zero => intro post k L C1 h1 hkl hb hpo hfu; exact absurd hfu (Nat.not_lt_zero _)
  | succ fu ih =>
    intro post k L C1 h1 hkl hb hpo hfu
    have hvl := (vsC_bt hS hv).2
    have hnv := hS.1.2.1
    refine am_steps_r ok_W_putString 4 (q' := (15, [some (.ref 17), some (.int (nI v)), some (.int (nI k)), none], [.int (nI v), .ref 3, .int (nI k)], wd C1 Y og)) rfl ?_
    refine am_callV_r (As := [.int (nI v)]) (rest := [.int (nI k)]) ok_W_putString rfl rfl ok_V_lengthOf oi_V_lengthOf lk_4_140 (Or.inl ⟨_, _, _, rfl, rfl, rfl⟩) rfl rfl (Nat.le_of_ble_eq_true rfl) (v_len _ hS h1 (v := v) hv) ?_
    rintro v_ w_ ⟨rfl, rfl⟩ -
    refine am_eq_r (q' := (18, [some (.ref 17), some (.int (nI v)), some (.int (nI k)), none], [.int (nI ((V.2.2.2 v).length)), .int (nI k)], wd C1 Y og)) rfl ?_
    refine am_steps_r ok_W_putString 1 (q' := (bif decide ((nI ((V.2.2.2 v).length)) ≤ (nI k)) then 83 else 21, [some (.ref 17), some (.int (nI v)), some (.int (nI k)), none], [], wd C1 Y og)) rfl ?_
    refine am_br_r (fun h_2 => ?_) (fun h_2 => ?_)
    · skip
      have h_2 : ((V.2.2.2 v).length) ≤ k := (nI_leI (show ((V.2.2.2 v).length) < 2 ^ 31 by omega) (show k < 2 ^ 31 by omega)).mp h_2
      refine am_steps_r ok_W_putString 2 (q' := (86, [some (.ref 17), some (.int (nI v)), some (.int (nI k)), none], [.int 41, .ref 17], wd C1 Y og)) rfl ?_
      refine am_callV_r (As := [.int 41]) (rest := []) ok_W_putString rfl rfl ok_W_putByte oi_W_putByte lk_4_75 (Or.inl ⟨_, _, _, rfl, rfl, rfl⟩) rfl rfl (Nat.le_of_ble_eq_true rfl) (c_W_putByte _ C Y og kp rd A hk hkp hr hrd bf L (by omega) C1 h1 41 (by first | omega | (simp only [List.length_append, List.length_cons, List.length_nil] at hb ⊢; omega) | (simp only [List.length_append, List.length_cons, List.length_nil]; omega))) ?_
      rintro v_ w_ ⟨rfl, C_3, rfl, hC_4⟩ -
      refine am_eq_r (q' := (89, [some (.ref 17), some (.int (nI v)), some (.int (nI k)), none], [], wd C_3 Y og)) rfl ?_
      refine am_vret_r ok_W_putString rfl rfl rfl ?_
      exact hpo _ (by rw [List.drop_eq_nil_of_le (by omega)]; simp only [swL, List.append_nil]; exact hC_4)
    · skip
      have h_2 : ¬ ((V.2.2.2 v).length) ≤ k := fun z => h_2 ((nI_leI (show ((V.2.2.2 v).length) < 2 ^ 31 by omega) (show k < 2 ^ 31 by omega)).mpr z)
      refine am_steps_r ok_W_putString 4 (q' := (27, [some (.ref 17), some (.int (nI v)), some (.int (nI k)), none], [.int (nI k), .int (nI v), .ref 3], wd C1 Y og)) rfl ?_
      refine am_callV_r (As := [.int (nI v), .int (nI k)]) (rest := []) ok_W_putString rfl rfl ok_V_byteAt oi_V_byteAt lk_4_162 (Or.inl ⟨_, _, _, rfl, rfl, rfl⟩) rfl rfl (Nat.le_of_ble_eq_true rfl) (v_byte _ hS h1 (v := v) hv (k := k) (by omega)) ?_
      rintro v_ w_ ⟨rfl, rfl⟩ -
      refine am_eq_r (q' := (30, [some (.ref 17), some (.int (nI v)), some (.int (nI k)), none], [.int ((V.2.2.2 v).getD k 0)], wd C1 Y og)) rfl ?_
      refine am_steps_r ok_W_putString 4 (q' := (bif decide (((V.2.2.2 v).getD k 0) = 92) then 55 else 37, [some (.ref 17), some (.int (nI v)), some (.int (nI k)), some (.int ((V.2.2.2 v).getD k 0))], [], wd C1 Y og)) rfl ?_
      refine am_br_r (fun h_6 => ?_) (fun h_6 => ?_)
      · skip
        refine am_steps_r ok_W_putString 2 (q' := (58, [some (.ref 17), some (.int (nI v)), some (.int (nI k)), some (.int ((V.2.2.2 v).getD k 0))], [.int 92, .ref 17], wd C1 Y og)) rfl ?_
        refine am_callV_r (As := [.int 92]) (rest := []) ok_W_putString rfl rfl ok_W_putByte oi_W_putByte lk_4_75 (Or.inl ⟨_, _, _, rfl, rfl, rfl⟩) rfl rfl (Nat.le_of_ble_eq_true rfl) (c_W_putByte _ C Y og kp rd A hk hkp hr hrd bf L (by omega) C1 h1 92 (by rw [drop_get (bs := V.2.2.2 v) (k := k) (by omega), show swL (((V.2.2.2 v).getD k 0) :: (V.2.2.2 v).drop (k + 1)) = swC ((V.2.2.2 v).getD k 0) ++ swL ((V.2.2.2 v).drop (k + 1)) from rfl, sw_2 (c := ((V.2.2.2 v).getD k 0)) (by first | exact Or.inl h_6 | exact Or.inr (Or.inl h_6) | exact Or.inr (Or.inr (Or.inl h_6)) | exact Or.inr (Or.inr (Or.inr h_6)))] at hb; first | omega | (simp only [List.length_append, List.length_cons, List.length_nil] at hb ⊢; omega) | (simp only [List.length_append, List.length_cons, List.length_nil]; omega))) ?_
        rintro v_ w_ ⟨rfl, C_7, rfl, hC_8⟩ -
        refine am_eq_r (q' := (61, [some (.ref 17), some (.int (nI v)), some (.int (nI k)), some (.int ((V.2.2.2 v).getD k 0))], [], wd C_7 Y og)) rfl ?_
        refine am_steps_r ok_W_putString 4 (q' := (bif decide (((V.2.2.2 v).getD k 0) = 13) then 68 else 73, [some (.ref 17), some (.int (nI v)), some (.int (nI k)), some (.int ((V.2.2.2 v).getD k 0))], [.ref 17], wd C_7 Y og)) rfl ?_
        refine am_br_r (fun h_9 => ?_) (fun h_9 => ?_)
        · skip
          exact absurd (h_6.symm.trans h_9) (by decide)
        · skip
          refine am_steps_r ok_W_putString 1 (q' := (74, [some (.ref 17), some (.int (nI v)), some (.int (nI k)), some (.int ((V.2.2.2 v).getD k 0))], [.int ((V.2.2.2 v).getD k 0), .ref 17], wd C_7 Y og)) rfl ?_
          refine am_callV_r (As := [.int ((V.2.2.2 v).getD k 0)]) (rest := []) ok_W_putString rfl rfl ok_W_putByte oi_W_putByte lk_4_75 (Or.inl ⟨_, _, _, rfl, rfl, rfl⟩) rfl rfl (Nat.le_of_ble_eq_true rfl) (c_W_putByte _ C Y og kp rd A hk hkp hr hrd bf (L ++ [92]) (by omega) C_7 hC_8 ((V.2.2.2 v).getD k 0) (by rw [drop_get (bs := V.2.2.2 v) (k := k) (by omega), show swL (((V.2.2.2 v).getD k 0) :: (V.2.2.2 v).drop (k + 1)) = swC ((V.2.2.2 v).getD k 0) ++ swL ((V.2.2.2 v).drop (k + 1)) from rfl] at hb; rw [show swC ((V.2.2.2 v).getD k 0) = [92, ((V.2.2.2 v).getD k 0)] by first | exact sw_0 (by assumption) (by assumption) (by assumption) (by assumption) | exact sw_r (by assumption) | exact sw_y (Or.inl (by assumption)) (by assumption) | exact sw_y (Or.inr (Or.inl (by assumption))) (by assumption) | exact sw_y (Or.inr (Or.inr (by assumption))) (by assumption)] at hb; first | omega | (simp only [List.length_append, List.length_cons, List.length_nil] at hb ⊢; omega) | (simp only [List.length_append, List.length_cons, List.length_nil]; omega))) ?_
          rintro v_ w_ ⟨rfl, C_10, rfl, hC_11⟩ -
          refine am_eq_r (q' := (77, [some (.ref 17), some (.int (nI v)), some (.int (nI k)), some (.int ((V.2.2.2 v).getD k 0))], [], wd C_10 Y og)) rfl ?_
          refine am_steps_r ok_W_putString 2 (q' := (9, [some (.ref 17), some (.int (nI v)), some (.int ((nI k) + 1)), some (.int ((V.2.2.2 v).getD k 0))], [], wd C_10 Y og)) rfl ?_
          rw [show ((nI k) + 1 : Int32) = nI (k + 1) from nI_add k 1]
          refine am_drop_r [3] (L' := [some (.ref 17), some (.int (nI v)), some (.int (nI (k + 1))), none]) rfl ?_
          have e9 : swC ((V.2.2.2 v).getD k 0) = [92, ((V.2.2.2 v).getD k 0)] := by first | exact sw_0 (by assumption) (by assumption) (by assumption) (by assumption) | exact sw_r (by assumption) | exact sw_y (Or.inl (by assumption)) (by assumption) | exact sw_y (Or.inr (Or.inl (by assumption))) (by assumption) | exact sw_y (Or.inr (Or.inr (by assumption))) (by assumption)
          have hC9 : C_10 = wE C kp A (bf, (L ++ [92, ((V.2.2.2 v).getD k 0)])) := by rw [hC_11]; simp only [List.append_assoc, List.cons_append, List.nil_append]
          exact ih post (k + 1) (L ++ [92, ((V.2.2.2 v).getD k 0)]) C_10 hC9 (by omega) (by rw [drop_get (bs := V.2.2.2 v) (k := k) (by omega), show swL (((V.2.2.2 v).getD k 0) :: (V.2.2.2 v).drop (k + 1)) = swC ((V.2.2.2 v).getD k 0) ++ swL ((V.2.2.2 v).drop (k + 1)) from rfl, e9, ← List.append_assoc] at hb; exact hb) (by rw [drop_get (bs := V.2.2.2 v) (k := k) (by omega), show swL (((V.2.2.2 v).getD k 0) :: (V.2.2.2 v).drop (k + 1)) = swC ((V.2.2.2 v).getD k 0) ++ swL ((V.2.2.2 v).drop (k + 1)) from rfl, e9, ← List.append_assoc] at hpo; exact hpo) (by omega)
      · skip
        refine am_steps_r ok_W_putString 3 (q' := (bif decide (((V.2.2.2 v).getD k 0) = 40) then 55 else 43, [some (.ref 17), some (.int (nI v)), some (.int (nI k)), some (.int ((V.2.2.2 v).getD k 0))], [], wd C1 Y og)) rfl ?_
        refine am_br_r (fun h_12 => ?_) (fun h_12 => ?_)
        · skip
          refine am_steps_r ok_W_putString 2 (q' := (58, [some (.ref 17), some (.int (nI v)), some (.int (nI k)), some (.int ((V.2.2.2 v).getD k 0))], [.int 92, .ref 17], wd C1 Y og)) rfl ?_
          refine am_callV_r (As := [.int 92]) (rest := []) ok_W_putString rfl rfl ok_W_putByte oi_W_putByte lk_4_75 (Or.inl ⟨_, _, _, rfl, rfl, rfl⟩) rfl rfl (Nat.le_of_ble_eq_true rfl) (c_W_putByte _ C Y og kp rd A hk hkp hr hrd bf L (by omega) C1 h1 92 (by rw [drop_get (bs := V.2.2.2 v) (k := k) (by omega), show swL (((V.2.2.2 v).getD k 0) :: (V.2.2.2 v).drop (k + 1)) = swC ((V.2.2.2 v).getD k 0) ++ swL ((V.2.2.2 v).drop (k + 1)) from rfl, sw_2 (c := ((V.2.2.2 v).getD k 0)) (by first | exact Or.inl h_12 | exact Or.inr (Or.inl h_12) | exact Or.inr (Or.inr (Or.inl h_12)) | exact Or.inr (Or.inr (Or.inr h_12)))] at hb; first | omega | (simp only [List.length_append, List.length_cons, List.length_nil] at hb ⊢; omega) | (simp only [List.length_append, List.length_cons, List.length_nil]; omega))) ?_
          rintro v_ w_ ⟨rfl, C_13, rfl, hC_14⟩ -
          refine am_eq_r (q' := (61, [some (.ref 17), some (.int (nI v)), some (.int (nI k)), some (.int ((V.2.2.2 v).getD k 0))], [], wd C_13 Y og)) rfl ?_
          refine am_steps_r ok_W_putString 4 (q' := (bif decide (((V.2.2.2 v).getD k 0) = 13) then 68 else 73, [some (.ref 17), some (.int (nI v)), some (.int (nI k)), some (.int ((V.2.2.2 v).getD k 0))], [.ref 17], wd C_13 Y og)) rfl ?_
          refine am_br_r (fun h_15 => ?_) (fun h_15 => ?_)
          · skip
            exact absurd (h_12.symm.trans h_15) (by decide)
          · skip
            refine am_steps_r ok_W_putString 1 (q' := (74, [some (.ref 17), some (.int (nI v)), some (.int (nI k)), some (.int ((V.2.2.2 v).getD k 0))], [.int ((V.2.2.2 v).getD k 0), .ref 17], wd C_13 Y og)) rfl ?_
            refine am_callV_r (As := [.int ((V.2.2.2 v).getD k 0)]) (rest := []) ok_W_putString rfl rfl ok_W_putByte oi_W_putByte lk_4_75 (Or.inl ⟨_, _, _, rfl, rfl, rfl⟩) rfl rfl (Nat.le_of_ble_eq_true rfl) (c_W_putByte _ C Y og kp rd A hk hkp hr hrd bf (L ++ [92]) (by omega) C_13 hC_14 ((V.2.2.2 v).getD k 0) (by rw [drop_get (bs := V.2.2.2 v) (k := k) (by omega), show swL (((V.2.2.2 v).getD k 0) :: (V.2.2.2 v).drop (k + 1)) = swC ((V.2.2.2 v).getD k 0) ++ swL ((V.2.2.2 v).drop (k + 1)) from rfl] at hb; rw [show swC ((V.2.2.2 v).getD k 0) = [92, ((V.2.2.2 v).getD k 0)] by first | exact sw_0 (by assumption) (by assumption) (by assumption) (by assumption) | exact sw_r (by assumption) | exact sw_y (Or.inl (by assumption)) (by assumption) | exact sw_y (Or.inr (Or.inl (by assumption))) (by assumption) | exact sw_y (Or.inr (Or.inr (by assumption))) (by assumption)] at hb; first | omega | (simp only [List.length_append, List.length_cons, List.length_nil] at hb ⊢; omega) | (simp only [List.length_append, List.length_cons, List.length_nil]; omega))) ?_
            rintro v_ w_ ⟨rfl, C_16, rfl, hC_17⟩ -
            refine am_eq_r (q' := (77, [some (.ref 17), some (.int (nI v)), some (.int (nI k)), some (.int ((V.2.2.2 v).getD k 0))], [], wd C_16 Y og)) rfl ?_
            refine am_steps_r ok_W_putString 2 (q' := (9, [some (.ref 17), some (.int (nI v)), some (.int ((nI k) + 1)), some (.int ((V.2.2.2 v).getD k 0))], [], wd C_16 Y og)) rfl ?_
            rw [show ((nI k) + 1 : Int32) = nI (k + 1) from nI_add k 1]
            refine am_drop_r [3] (L' := [some (.ref 17), some (.int (nI v)), some (.int (nI (k + 1))), none]) rfl ?_
            have e9 : swC ((V.2.2.2 v).getD k 0) = [92, ((V.2.2.2 v).getD k 0)] := by first | exact sw_0 (by assumption) (by assumption) (by assumption) (by assumption) | exact sw_r (by assumption) | exact sw_y (Or.inl (by assumption)) (by assumption) | exact sw_y (Or.inr (Or.inl (by assumption))) (by assumption) | exact sw_y (Or.inr (Or.inr (by assumption))) (by assumption)
            have hC9 : C_16 = wE C kp A (bf, (L ++ [92, ((V.2.2.2 v).getD k 0)])) := by rw [hC_17]; simp only [List.append_assoc, List.cons_append, List.nil_append]
            exact ih post (k + 1) (L ++ [92, ((V.2.2.2 v).getD k 0)]) C_16 hC9 (by omega) (by rw [drop_get (bs := V.2.2.2 v) (k := k) (by omega), show swL (((V.2.2.2 v).getD k 0) :: (V.2.2.2 v).drop (k + 1)) = swC ((V.2.2.2 v).getD k 0) ++ swL ((V.2.2.2 v).drop (k + 1)) from rfl, e9, ← List.append_assoc] at hb; exact hb) (by rw [drop_get (bs := V.2.2.2 v) (k := k) (by omega), show swL (((V.2.2.2 v).getD k 0) :: (V.2.2.2 v).drop (k + 1)) = swC ((V.2.2.2 v).getD k 0) ++ swL ((V.2.2.2 v).drop (k + 1)) from rfl, e9, ← List.append_assoc] at hpo; exact hpo) (by omega)
        · skip
          refine am_steps_r ok_W_putString 3 (q' := (bif decide (((V.2.2.2 v).getD k 0) = 41) then 55 else 49, [some (.ref 17), some (.int (nI v)), some (.int (nI k)), some (.int ((V.2.2.2 v).getD k 0))], [], wd C1 Y og)) rfl ?_
          refine am_br_r (fun h_18 => ?_) (fun h_18 => ?_)
          · skip
            refine am_steps_r ok_W_putString 2 (q' := (58, [some (.ref 17), some (.int (nI v)), some (.int (nI k)), some (.int ((V.2.2.2 v).getD k 0))], [.int 92, .ref 17], wd C1 Y og)) rfl ?_
            refine am_callV_r (As := [.int 92]) (rest := []) ok_W_putString rfl rfl ok_W_putByte oi_W_putByte lk_4_75 (Or.inl ⟨_, _, _, rfl, rfl, rfl⟩) rfl rfl (Nat.le_of_ble_eq_true rfl) (c_W_putByte _ C Y og kp rd A hk hkp hr hrd bf L (by omega) C1 h1 92 (by rw [drop_get (bs := V.2.2.2 v) (k := k) (by omega), show swL (((V.2.2.2 v).getD k 0) :: (V.2.2.2 v).drop (k + 1)) = swC ((V.2.2.2 v).getD k 0) ++ swL ((V.2.2.2 v).drop (k + 1)) from rfl, sw_2 (c := ((V.2.2.2 v).getD k 0)) (by first | exact Or.inl h_18 | exact Or.inr (Or.inl h_18) | exact Or.inr (Or.inr (Or.inl h_18)) | exact Or.inr (Or.inr (Or.inr h_18)))] at hb; first | omega | (simp only [List.length_append, List.length_cons, List.length_nil] at hb ⊢; omega) | (simp only [List.length_append, List.length_cons, List.length_nil]; omega))) ?_
            rintro v_ w_ ⟨rfl, C_19, rfl, hC_20⟩ -
            refine am_eq_r (q' := (61, [some (.ref 17), some (.int (nI v)), some (.int (nI k)), some (.int ((V.2.2.2 v).getD k 0))], [], wd C_19 Y og)) rfl ?_
            refine am_steps_r ok_W_putString 4 (q' := (bif decide (((V.2.2.2 v).getD k 0) = 13) then 68 else 73, [some (.ref 17), some (.int (nI v)), some (.int (nI k)), some (.int ((V.2.2.2 v).getD k 0))], [.ref 17], wd C_19 Y og)) rfl ?_
            refine am_br_r (fun h_21 => ?_) (fun h_21 => ?_)
            · skip
              exact absurd (h_18.symm.trans h_21) (by decide)
            · skip
              refine am_steps_r ok_W_putString 1 (q' := (74, [some (.ref 17), some (.int (nI v)), some (.int (nI k)), some (.int ((V.2.2.2 v).getD k 0))], [.int ((V.2.2.2 v).getD k 0), .ref 17], wd C_19 Y og)) rfl ?_
              refine am_callV_r (As := [.int ((V.2.2.2 v).getD k 0)]) (rest := []) ok_W_putString rfl rfl ok_W_putByte oi_W_putByte lk_4_75 (Or.inl ⟨_, _, _, rfl, rfl, rfl⟩) rfl rfl (Nat.le_of_ble_eq_true rfl) (c_W_putByte _ C Y og kp rd A hk hkp hr hrd bf (L ++ [92]) (by omega) C_19 hC_20 ((V.2.2.2 v).getD k 0) (by rw [drop_get (bs := V.2.2.2 v) (k := k) (by omega), show swL (((V.2.2.2 v).getD k 0) :: (V.2.2.2 v).drop (k + 1)) = swC ((V.2.2.2 v).getD k 0) ++ swL ((V.2.2.2 v).drop (k + 1)) from rfl] at hb; rw [show swC ((V.2.2.2 v).getD k 0) = [92, ((V.2.2.2 v).getD k 0)] by first | exact sw_0 (by assumption) (by assumption) (by assumption) (by assumption) | exact sw_r (by assumption) | exact sw_y (Or.inl (by assumption)) (by assumption) | exact sw_y (Or.inr (Or.inl (by assumption))) (by assumption) | exact sw_y (Or.inr (Or.inr (by assumption))) (by assumption)] at hb; first | omega | (simp only [List.length_append, List.length_cons, List.length_nil] at hb ⊢; omega) | (simp only [List.length_append, List.length_cons, List.length_nil]; omega))) ?_
              rintro v_ w_ ⟨rfl, C_22, rfl, hC_23⟩ -
              refine am_eq_r (q' := (77, [some (.ref 17), some (.int (nI v)), some (.int (nI k)), some (.int ((V.2.2.2 v).getD k 0))], [], wd C_22 Y og)) rfl ?_
              refine am_steps_r ok_W_putString 2 (q' := (9, [some (.ref 17), some (.int (nI v)), some (.int ((nI k) + 1)), some (.int ((V.2.2.2 v).getD k 0))], [], wd C_22 Y og)) rfl ?_
              rw [show ((nI k) + 1 : Int32) = nI (k + 1) from nI_add k 1]
              refine am_drop_r [3] (L' := [some (.ref 17), some (.int (nI v)), some (.int (nI (k + 1))), none]) rfl ?_
              have e9 : swC ((V.2.2.2 v).getD k 0) = [92, ((V.2.2.2 v).getD k 0)] := by first | exact sw_0 (by assumption) (by assumption) (by assumption) (by assumption) | exact sw_r (by assumption) | exact sw_y (Or.inl (by assumption)) (by assumption) | exact sw_y (Or.inr (Or.inl (by assumption))) (by assumption) | exact sw_y (Or.inr (Or.inr (by assumption))) (by assumption)
              have hC9 : C_22 = wE C kp A (bf, (L ++ [92, ((V.2.2.2 v).getD k 0)])) := by rw [hC_23]; simp only [List.append_assoc, List.cons_append, List.nil_append]
              exact ih post (k + 1) (L ++ [92, ((V.2.2.2 v).getD k 0)]) C_22 hC9 (by omega) (by rw [drop_get (bs := V.2.2.2 v) (k := k) (by omega), show swL (((V.2.2.2 v).getD k 0) :: (V.2.2.2 v).drop (k + 1)) = swC ((V.2.2.2 v).getD k 0) ++ swL ((V.2.2.2 v).drop (k + 1)) from rfl, e9, ← List.append_assoc] at hb; exact hb) (by rw [drop_get (bs := V.2.2.2 v) (k := k) (by omega), show swL (((V.2.2.2 v).getD k 0) :: (V.2.2.2 v).drop (k + 1)) = swC ((V.2.2.2 v).getD k 0) ++ swL ((V.2.2.2 v).drop (k + 1)) from rfl, e9, ← List.append_assoc] at hpo; exact hpo) (by omega)
          · skip
            refine am_steps_r ok_W_putString 3 (q' := (bif decide (((V.2.2.2 v).getD k 0) = 13) then 55 else 61, [some (.ref 17), some (.int (nI v)), some (.int (nI k)), some (.int ((V.2.2.2 v).getD k 0))], [], wd C1 Y og)) rfl ?_
            refine am_br_r (fun h_24 => ?_) (fun h_24 => ?_)
            · skip
              refine am_steps_r ok_W_putString 2 (q' := (58, [some (.ref 17), some (.int (nI v)), some (.int (nI k)), some (.int ((V.2.2.2 v).getD k 0))], [.int 92, .ref 17], wd C1 Y og)) rfl ?_
              refine am_callV_r (As := [.int 92]) (rest := []) ok_W_putString rfl rfl ok_W_putByte oi_W_putByte lk_4_75 (Or.inl ⟨_, _, _, rfl, rfl, rfl⟩) rfl rfl (Nat.le_of_ble_eq_true rfl) (c_W_putByte _ C Y og kp rd A hk hkp hr hrd bf L (by omega) C1 h1 92 (by rw [drop_get (bs := V.2.2.2 v) (k := k) (by omega), show swL (((V.2.2.2 v).getD k 0) :: (V.2.2.2 v).drop (k + 1)) = swC ((V.2.2.2 v).getD k 0) ++ swL ((V.2.2.2 v).drop (k + 1)) from rfl, sw_2 (c := ((V.2.2.2 v).getD k 0)) (by first | exact Or.inl h_24 | exact Or.inr (Or.inl h_24) | exact Or.inr (Or.inr (Or.inl h_24)) | exact Or.inr (Or.inr (Or.inr h_24)))] at hb; first | omega | (simp only [List.length_append, List.length_cons, List.length_nil] at hb ⊢; omega) | (simp only [List.length_append, List.length_cons, List.length_nil]; omega))) ?_
              rintro v_ w_ ⟨rfl, C_25, rfl, hC_26⟩ -
              refine am_eq_r (q' := (61, [some (.ref 17), some (.int (nI v)), some (.int (nI k)), some (.int ((V.2.2.2 v).getD k 0))], [], wd C_25 Y og)) rfl ?_
              refine am_steps_r ok_W_putString 4 (q' := (bif decide (((V.2.2.2 v).getD k 0) = 13) then 68 else 73, [some (.ref 17), some (.int (nI v)), some (.int (nI k)), some (.int ((V.2.2.2 v).getD k 0))], [.ref 17], wd C_25 Y og)) rfl ?_
              refine am_br_r (fun h_27 => ?_) (fun h_27 => ?_)
              · skip
                refine am_steps_r ok_W_putString 2 (q' := (74, [some (.ref 17), some (.int (nI v)), some (.int (nI k)), some (.int ((V.2.2.2 v).getD k 0))], [.int 114, .ref 17], wd C_25 Y og)) rfl ?_
                refine am_callV_r (As := [.int 114]) (rest := []) ok_W_putString rfl rfl ok_W_putByte oi_W_putByte lk_4_75 (Or.inl ⟨_, _, _, rfl, rfl, rfl⟩) rfl rfl (Nat.le_of_ble_eq_true rfl) (c_W_putByte _ C Y og kp rd A hk hkp hr hrd bf (L ++ [92]) (by omega) C_25 hC_26 114 (by rw [drop_get (bs := V.2.2.2 v) (k := k) (by omega), show swL (((V.2.2.2 v).getD k 0) :: (V.2.2.2 v).drop (k + 1)) = swC ((V.2.2.2 v).getD k 0) ++ swL ((V.2.2.2 v).drop (k + 1)) from rfl] at hb; rw [show swC ((V.2.2.2 v).getD k 0) = [92, 114] by first | exact sw_0 (by assumption) (by assumption) (by assumption) (by assumption) | exact sw_r (by assumption) | exact sw_y (Or.inl (by assumption)) (by assumption) | exact sw_y (Or.inr (Or.inl (by assumption))) (by assumption) | exact sw_y (Or.inr (Or.inr (by assumption))) (by assumption)] at hb; first | omega | (simp only [List.length_append, List.length_cons, List.length_nil] at hb ⊢; omega) | (simp only [List.length_append, List.length_cons, List.length_nil]; omega))) ?_
                rintro v_ w_ ⟨rfl, C_28, rfl, hC_29⟩ -
                refine am_eq_r (q' := (77, [some (.ref 17), some (.int (nI v)), some (.int (nI k)), some (.int ((V.2.2.2 v).getD k 0))], [], wd C_28 Y og)) rfl ?_
                refine am_steps_r ok_W_putString 2 (q' := (9, [some (.ref 17), some (.int (nI v)), some (.int ((nI k) + 1)), some (.int ((V.2.2.2 v).getD k 0))], [], wd C_28 Y og)) rfl ?_
                rw [show ((nI k) + 1 : Int32) = nI (k + 1) from nI_add k 1]
                refine am_drop_r [3] (L' := [some (.ref 17), some (.int (nI v)), some (.int (nI (k + 1))), none]) rfl ?_
                have e9 : swC ((V.2.2.2 v).getD k 0) = [92, 114] := by first | exact sw_0 (by assumption) (by assumption) (by assumption) (by assumption) | exact sw_r (by assumption) | exact sw_y (Or.inl (by assumption)) (by assumption) | exact sw_y (Or.inr (Or.inl (by assumption))) (by assumption) | exact sw_y (Or.inr (Or.inr (by assumption))) (by assumption)
                have hC9 : C_28 = wE C kp A (bf, (L ++ [92, 114])) := by rw [hC_29]; simp only [List.append_assoc, List.cons_append, List.nil_append]
                exact ih post (k + 1) (L ++ [92, 114]) C_28 hC9 (by omega) (by rw [drop_get (bs := V.2.2.2 v) (k := k) (by omega), show swL (((V.2.2.2 v).getD k 0) :: (V.2.2.2 v).drop (k + 1)) = swC ((V.2.2.2 v).getD k 0) ++ swL ((V.2.2.2 v).drop (k + 1)) from rfl, e9, ← List.append_assoc] at hb; exact hb) (by rw [drop_get (bs := V.2.2.2 v) (k := k) (by omega), show swL (((V.2.2.2 v).getD k 0) :: (V.2.2.2 v).drop (k + 1)) = swC ((V.2.2.2 v).getD k 0) ++ swL ((V.2.2.2 v).drop (k + 1)) from rfl, e9, ← List.append_assoc] at hpo; exact hpo) (by omega)
              · skip
                exact absurd h_24 h_27
            · skip
              refine am_steps_r ok_W_putString 4 (q' := (bif decide (((V.2.2.2 v).getD k 0) = 13) then 68 else 73, [some (.ref 17), some (.int (nI v)), some (.int (nI k)), some (.int ((V.2.2.2 v).getD k 0))], [.ref 17], wd C1 Y og)) rfl ?_
              refine am_br_r (fun h_30 => ?_) (fun h_30 => ?_)
              · skip
                exact absurd h_30 h_24
              · skip
                refine am_steps_r ok_W_putString 1 (q' := (74, [some (.ref 17), some (.int (nI v)), some (.int (nI k)), some (.int ((V.2.2.2 v).getD k 0))], [.int ((V.2.2.2 v).getD k 0), .ref 17], wd C1 Y og)) rfl ?_
                refine am_callV_r (As := [.int ((V.2.2.2 v).getD k 0)]) (rest := []) ok_W_putString rfl rfl ok_W_putByte oi_W_putByte lk_4_75 (Or.inl ⟨_, _, _, rfl, rfl, rfl⟩) rfl rfl (Nat.le_of_ble_eq_true rfl) (c_W_putByte _ C Y og kp rd A hk hkp hr hrd bf L (by omega) C1 h1 ((V.2.2.2 v).getD k 0) (by rw [drop_get (bs := V.2.2.2 v) (k := k) (by omega), show swL (((V.2.2.2 v).getD k 0) :: (V.2.2.2 v).drop (k + 1)) = swC ((V.2.2.2 v).getD k 0) ++ swL ((V.2.2.2 v).drop (k + 1)) from rfl] at hb; rw [show swC ((V.2.2.2 v).getD k 0) = [((V.2.2.2 v).getD k 0)] by first | exact sw_0 (by assumption) (by assumption) (by assumption) (by assumption) | exact sw_r (by assumption) | exact sw_y (Or.inl (by assumption)) (by assumption) | exact sw_y (Or.inr (Or.inl (by assumption))) (by assumption) | exact sw_y (Or.inr (Or.inr (by assumption))) (by assumption)] at hb; first | omega | (simp only [List.length_append, List.length_cons, List.length_nil] at hb ⊢; omega) | (simp only [List.length_append, List.length_cons, List.length_nil]; omega))) ?_
                rintro v_ w_ ⟨rfl, C_31, rfl, hC_32⟩ -
                refine am_eq_r (q' := (77, [some (.ref 17), some (.int (nI v)), some (.int (nI k)), some (.int ((V.2.2.2 v).getD k 0))], [], wd C_31 Y og)) rfl ?_
                refine am_steps_r ok_W_putString 2 (q' := (9, [some (.ref 17), some (.int (nI v)), some (.int ((nI k) + 1)), some (.int ((V.2.2.2 v).getD k 0))], [], wd C_31 Y og)) rfl ?_
                rw [show ((nI k) + 1 : Int32) = nI (k + 1) from nI_add k 1]
                refine am_drop_r [3] (L' := [some (.ref 17), some (.int (nI v)), some (.int (nI (k + 1))), none]) rfl ?_
                have e9 : swC ((V.2.2.2 v).getD k 0) = [((V.2.2.2 v).getD k 0)] := by first | exact sw_0 (by assumption) (by assumption) (by assumption) (by assumption) | exact sw_r (by assumption) | exact sw_y (Or.inl (by assumption)) (by assumption) | exact sw_y (Or.inr (Or.inl (by assumption))) (by assumption) | exact sw_y (Or.inr (Or.inr (by assumption))) (by assumption)
                exact ih post (k + 1) (L ++ [((V.2.2.2 v).getD k 0)]) C_31 hC_32 (by omega) (by rw [drop_get (bs := V.2.2.2 v) (k := k) (by omega), show swL (((V.2.2.2 v).getD k 0) :: (V.2.2.2 v).drop (k + 1)) = swC ((V.2.2.2 v).getD k 0) ++ swL ((V.2.2.2 v).drop (k + 1)) from rfl, e9, ← List.append_assoc] at hb; exact hb) (by rw [drop_get (bs := V.2.2.2 v) (k := k) (by omega), show swL (((V.2.2.2 v).getD k 0) :: (V.2.2.2 v).drop (k + 1)) = swC ((V.2.2.2 v).getD k 0) ++ swL ((V.2.2.2 v).drop (k + 1)) from rfl, e9, ← List.append_assoc] at hpo; exact hpo) (by omega)
set_option maxHeartbeats 4000000 in
set_option maxRecDepth 100000 in
theorem c_W_putString (d : Nat) (C : wd_C) (Y : wd_Y) (og : Nat → Int64) (kp rd : Nat) (A : Nat → Int32) (hk : C.1 13 = nI kp) (hkp : kp ≤ 1) (hr : C.1 14 = nI rd) (hrd : rd ≤ 1) (bf : Nat) (L : List Int32) (hbf : bf ≤ 5) (C1 : wd_C) (h1 : C1 = wE C kp A (bf, L)) (hfm : fm = .null ∨ fm = .ref 3000) (nv u : Nat) (V : VT) (hS : vsC C nv u V) (v : Nat) (hv : v < nv) (hb : L.length + (swL (V.2.2.2 v)).length + 100 < 2147483648) : am_Mt l D cA ad fm (d + 6) m_W_putString [.ref 17, .int (nI v)] (wd C1 Y og) (fun vr w' => vr = none ∧ ∃ C2, w' = wd C2 Y og ∧ C2 = wE C kp A (3, L ++ gpL rd bf 3 ++ (40 :: (swL (V.2.2.2 v) ++ [41])))) := by
  have hnv := hS.1.2.1
  refine am_mt ok_W_putString (by simp [am_arg, Value.category, m_W_putString, am_ml]) ?_
  refine am_eq_r (q' := (0, [some (.ref 17), some (.int (nI v)), none, none], [], wd C1 Y og)) rfl ?_
  refine am_steps_r ok_W_putString 3 (q' := (4, [some (.ref 17), some (.int (nI v)), none, none], [.ref 1014, .int 3, .ref 17], wd C1 Y og)) rfl ?_
  refine am_callV_r (As := [.int 3, .ref 1014]) (rest := []) ok_W_putString rfl rfl ok_W_putMark oi_W_putMark lk_4_111 (Or.inl ⟨_, _, _, rfl, rfl, rfl⟩) rfl rfl (Nat.le_of_ble_eq_true rfl) (c_W_putMark _ C Y og kp rd A hk hkp hr hrd bf L (by omega) C1 h1 3 (by omega) 14 _ _ _ st_14 rfl (by decide) hfm (by have hL9 : st_14.length < 20 := (by decide); first | omega | (simp only [List.length_append, List.length_cons, List.length_nil] at hb ⊢; omega) | (simp only [List.length_append, List.length_cons, List.length_nil]; omega))) ?_
  rintro v_ w_ ⟨rfl, C_1, rfl, hC_2⟩ -
  have hgpC_1 := gpL_1 rd bf 3
  have hstC_1 : st_14.length < 20 := by decide
  refine am_eq_r (q' := (7, [some (.ref 17), some (.int (nI v)), none, none], [], wd C_1 Y og)) rfl ?_
  refine am_steps_r ok_W_putString 2 (q' := (9, [some (.ref 17), some (.int (nI v)), some (.int 0), none], [], wd C_1 Y og)) rfl ?_
  refine am_eq_r (q' := (9, [some (.ref 17), some (.int (nI v)), some (.int (nI 0)), none], [], wd C_1 Y og)) rfl ?_
  exact lp_W_putString_9 (d + 2) C Y og kp rd A hk hkp hr hrd 3 (by omega) hfm nv u V hS v hv ((V.2.2.2 v).length + 1) _ 0 (L ++ gpL rd bf 3 ++ st_14) C_1 hC_2 (Nat.zero_le _) (by rw [List.drop_zero]; first | omega | (simp only [List.length_append, List.length_cons, List.length_nil] at hb ⊢; omega) | (simp only [List.length_append, List.length_cons, List.length_nil]; omega)) (fun C2 h2 => ⟨rfl, C2, rfl, by rw [h2]; simp only [List.append_assoc, List.drop_zero]; rfl⟩) (by omega)
set_option maxHeartbeats 4000000 in
set_option maxRecDepth 100000 in
theorem lp_W_putStreamBytes_8 (d : Nat) (C : wd_C) (Y : wd_Y) (og : Nat → Int64) (kp rd : Nat) (A : Nat → Int32) (hk : C.1 13 = nI kp) (hkp : kp ≤ 1) (hr : C.1 14 = nI rd) (hrd : rd ≤ 1) (bf : Nat) (hbf : bf ≤ 5) (hfm : fm = .null ∨ fm = .ref 3000) (nv u : Nat) (V : VT) (hS : vsC C nv u V) (v : Nat) (hv : v < nv)  : ∀ (fu : Nat) (post : Option Value → am_W → Prop) (k : Nat) (L : List Int32) (C1 : wd_C), (C1 = wE C kp A (bf, L)) → (k ≤ (V.2.2.2 v).length) → ((L ++ ((V.2.2.2 v).drop k)).length + 30 < 2147483648) → (∀ C2, C2 = wE C kp A (bf, L ++ ((V.2.2.2 v).drop k) ++ st_23) → post none (wd C2 Y og)) → (V.2.2.2 v).length - k < fu → am_Rn l D cA ad fm (d + 5) m_W_putStreamBytes (wd C Y og).length post (8, [some (.ref 17), some (.int (nI v)), some (.int (nI k))], [], wd C1 Y og) := by
  intro fu
  induction fu with
  | zero => intro post k L C1 h1 hkl hb hpo hfu; exact absurd hfu (Nat.not_lt_zero _)
  | succ fu ih =>
    intro post k L C1 h1 hkl hb hpo hfu
    have hvl := (vsC_bt hS hv).2
    have hnv := hS.1.2.1
    refine am_steps_r ok_W_putStreamBytes 4 (q' := (14, [some (.ref 17), some (.int (nI v)), some (.int (nI k))], [.int (nI v), .ref 3, .int (nI k)], wd C1 Y og)) rfl ?_
    refine am_callV_r (As := [.int (nI v)]) (rest := [.int (nI k)]) ok_W_putStreamBytes rfl rfl ok_V_lengthOf oi_V_lengthOf lk_4_140 (Or.inl ⟨_, _, _, rfl, rfl, rfl⟩) rfl rfl (Nat.le_of_ble_eq_true rfl) (v_len _ hS h1 (v := v) hv) ?_
    rintro v_ w_ ⟨rfl, rfl⟩ -
    refine am_eq_r (q' := (17, [some (.ref 17), some (.int (nI v)), some (.int (nI k))], [.int (nI ((V.2.2.2 v).length)), .int (nI k)], wd C1 Y og)) rfl ?_
    refine am_steps_r ok_W_putStreamBytes 1 (q' := (bif decide ((nI ((V.2.2.2 v).length)) ≤ (nI k)) then 39 else 20, [some (.ref 17), some (.int (nI v)), some (.int (nI k))], [], wd C1 Y og)) rfl ?_
    refine am_br_r (fun h_2 => ?_) (fun h_2 => ?_)
    · skip
      have h_2 : ((V.2.2.2 v).length) ≤ k := (nI_leI (show ((V.2.2.2 v).length) < 2 ^ 31 by omega) (show k < 2 ^ 31 by omega)).mp h_2
      refine am_steps_r ok_W_putStreamBytes 2 (q' := (42, [some (.ref 17), some (.int (nI v)), some (.int (nI k))], [.ref 1023, .ref 17], wd C1 Y og)) rfl ?_
      refine am_callV_r (As := [.ref 1023]) (rest := []) ok_W_putStreamBytes rfl rfl ok_W_putText oi_W_putText lk_4_63 (Or.inl ⟨_, _, _, rfl, rfl, rfl⟩) rfl rfl (Nat.le_of_ble_eq_true rfl) (c_W_putText _ C Y og kp rd A hk hkp hr hrd bf L (by omega) C1 h1 23 _ _ _ st_23 rfl (by decide) hfm (by have hL9 : st_23.length < 20 := (by decide); first | omega | (simp only [List.length_append, List.length_cons, List.length_nil] at hb ⊢; omega) | (simp only [List.length_append, List.length_cons, List.length_nil]; omega))) ?_
      rintro v_ w_ ⟨rfl, C_3, rfl, hC_4⟩ -
      refine am_eq_r (q' := (45, [some (.ref 17), some (.int (nI v)), some (.int (nI k))], [], wd C_3 Y og)) rfl ?_
      refine am_vret_r ok_W_putStreamBytes rfl rfl rfl ?_
      exact hpo _ (by rw [List.drop_eq_nil_of_le (by omega), List.append_nil]; exact hC_4)
    · skip
      have h_2 : ¬ ((V.2.2.2 v).length) ≤ k := fun z => h_2 ((nI_leI (show ((V.2.2.2 v).length) < 2 ^ 31 by omega) (show k < 2 ^ 31 by omega)).mpr z)
      refine am_steps_r ok_W_putStreamBytes 5 (q' := (27, [some (.ref 17), some (.int (nI v)), some (.int (nI k))], [.int (nI k), .int (nI v), .ref 3, .ref 17], wd C1 Y og)) rfl ?_
      refine am_callV_r (As := [.int (nI v), .int (nI k)]) (rest := [.ref 17]) ok_W_putStreamBytes rfl rfl ok_V_byteAt oi_V_byteAt lk_4_162 (Or.inl ⟨_, _, _, rfl, rfl, rfl⟩) rfl rfl (Nat.le_of_ble_eq_true rfl) (v_byte _ hS h1 (v := v) hv (k := k) (by omega)) ?_
      rintro v_ w_ ⟨rfl, rfl⟩ -
      refine am_eq_r (q' := (30, [some (.ref 17), some (.int (nI v)), some (.int (nI k))], [.int ((V.2.2.2 v).getD k 0), .ref 17], wd C1 Y og)) rfl ?_
      refine am_callV_r (As := [.int ((V.2.2.2 v).getD k 0)]) (rest := []) ok_W_putStreamBytes rfl rfl ok_W_putByte oi_W_putByte lk_4_75 (Or.inl ⟨_, _, _, rfl, rfl, rfl⟩) rfl rfl (Nat.le_of_ble_eq_true rfl) (c_W_putByte _ C Y og kp rd A hk hkp hr hrd bf L (by omega) C1 h1 ((V.2.2.2 v).getD k 0) (by rw [drop_get (bs := V.2.2.2 v) (k := k) (by omega)] at hb; first | omega | (simp only [List.length_append, List.length_cons, List.length_nil] at hb ⊢; omega) | (simp only [List.length_append, List.length_cons, List.length_nil]; omega))) ?_
      rintro v_ w_ ⟨rfl, C_6, rfl, hC_7⟩ -
      refine am_eq_r (q' := (33, [some (.ref 17), some (.int (nI v)), some (.int (nI k))], [], wd C_6 Y og)) rfl ?_
      refine am_steps_r ok_W_putStreamBytes 2 (q' := (8, [some (.ref 17), some (.int (nI v)), some (.int ((nI k) + 1))], [], wd C_6 Y og)) rfl ?_
      rw [show ((nI k) + 1 : Int32) = nI (k + 1) from nI_add k 1]
      exact ih post (k + 1) (L ++ [((V.2.2.2 v).getD k 0)]) C_6 hC_7 (by omega) (by rw [drop_get (bs := V.2.2.2 v) (k := k) (by omega), ← app_app1] at hb; exact hb) (by rw [drop_get (bs := V.2.2.2 v) (k := k) (by omega), ← app_app1] at hpo; exact hpo) (by omega)
set_option maxHeartbeats 4000000 in
set_option maxRecDepth 100000 in
theorem c_W_putStreamBytes (d : Nat) (C : wd_C) (Y : wd_Y) (og : Nat → Int64) (kp rd : Nat) (A : Nat → Int32) (hk : C.1 13 = nI kp) (hkp : kp ≤ 1) (hr : C.1 14 = nI rd) (hrd : rd ≤ 1) (bf : Nat) (L : List Int32) (hbf : bf ≤ 5) (C1 : wd_C) (h1 : C1 = wE C kp A (bf, L)) (hfm : fm = .null ∨ fm = .ref 3000) (nv u : Nat) (V : VT) (hS : vsC C nv u V) (v : Nat) (hv : v < nv) (hb : L.length + (V.2.2.2 v).length + 100 < 2147483648) : am_Mt l D cA ad fm (d + 5) m_W_putStreamBytes [.ref 17, .int (nI v)] (wd C1 Y og) (fun vr w' => vr = none ∧ ∃ C2, w' = wd C2 Y og ∧ C2 = wE C kp A (bf, L ++ (10 :: st_7 ++ [10]) ++ V.2.2.2 v ++ (10 :: st_9))) := by
  have hnv := hS.1.2.1
  refine am_mt ok_W_putStreamBytes (by simp [am_arg, Value.category, m_W_putStreamBytes, am_ml]) ?_
  refine am_eq_r (q' := (0, [some (.ref 17), some (.int (nI v)), none], [], wd C1 Y og)) rfl ?_
  refine am_steps_r ok_W_putStreamBytes 2 (q' := (3, [some (.ref 17), some (.int (nI v)), none], [.ref 1022, .ref 17], wd C1 Y og)) rfl ?_
  refine am_callV_r (As := [.ref 1022]) (rest := []) ok_W_putStreamBytes rfl rfl ok_W_putText oi_W_putText lk_4_63 (Or.inl ⟨_, _, _, rfl, rfl, rfl⟩) rfl rfl (Nat.le_of_ble_eq_true rfl) (c_W_putText _ C Y og kp rd A hk hkp hr hrd bf L (by omega) C1 h1 22 _ _ _ st_22 rfl (by decide) hfm (by have hL9 : st_22.length < 20 := (by decide); first | omega | (simp only [List.length_append, List.length_cons, List.length_nil] at hb ⊢; omega) | (simp only [List.length_append, List.length_cons, List.length_nil]; omega))) ?_
  rintro v_ w_ ⟨rfl, C_1, rfl, hC_2⟩ -
  refine am_eq_r (q' := (6, [some (.ref 17), some (.int (nI v)), none], [], wd C_1 Y og)) rfl ?_
  refine am_steps_r ok_W_putStreamBytes 2 (q' := (8, [some (.ref 17), some (.int (nI v)), some (.int 0)], [], wd C_1 Y og)) rfl ?_
  refine am_eq_r (q' := (8, [some (.ref 17), some (.int (nI v)), some (.int (nI 0))], [], wd C_1 Y og)) rfl ?_
  exact lp_W_putStreamBytes_8 d C Y og kp rd A hk hkp hr hrd bf (by omega) hfm nv u V hS v hv ((V.2.2.2 v).length + 1) _ 0 (L ++ st_22) C_1 hC_2 (Nat.zero_le _) (by rw [List.drop_zero]; have hL9 : st_22.length < 20 := (by decide); first | omega | (simp only [List.length_append, List.length_cons, List.length_nil] at hb ⊢; omega) | (simp only [List.length_append, List.length_cons, List.length_nil]; omega)) (fun C2 h2 => ⟨rfl, C2, rfl, by rw [h2]; rfl⟩) (by omega)
end C96
