/-! the component puts bytes; printed by wip/gen/g94.py -/
theorem drop_get {bs : List Int32} {k : Nat} (h : k < bs.length) : bs.drop k = bs.getD k 0 :: bs.drop (k + 1) := by
  rw [List.drop_eq_getElem_cons h, List.getD_eq_getElem?_getD, List.getElem?_eq_getElem h]
  rfl
theorem wE_12 {C C1 : wd_C} {kp bf : Nat} {A : Nat → Int32} {L : List Int32} (h : C1 = wE C kp A (bf, L)) : C1.1 12 = nI L.length := by rw [h]; rfl
theorem wE_15 {C C1 : wd_C} {kp bf : Nat} {A : Nat → Int32} {L : List Int32} (h : C1 = wE C kp A (bf, L)) : C1.1 15 = nI bf := by rw [h]; rfl
theorem wE_13 {C C1 : wd_C} {kp : Nat} {A : Nat → Int32} {s : WS} (h : C1 = wE C kp A s) : C1.1 13 = C.1 13 := by rw [h]; rfl
theorem wE_14 {C C1 : wd_C} {kp : Nat} {A : Nat → Int32} {s : WS} (h : C1 = wE C kp A s) : C1.1 14 = C.1 14 := by rw [h]; rfl
theorem gpL_1 (rd bf s : Nat) : (gpL rd bf s).length ≤ 1 := by
  unfold gpL
  split <;> simp
theorem app_app1 (L : List Int32) (x : Int32) (r : List Int32) : L ++ [x] ++ r = L ++ (x :: r) := by simp
section C94
variable {l : Launch} {D : va_G} {cA : Nat → ClassId} {ad : Nat → Nat} {fm : Value}
set_option maxHeartbeats 4000000 in
set_option maxRecDepth 100000 in
theorem c_W_putByte (d : Nat) (C : wd_C) (Y : wd_Y) (og : Nat → Int64) (kp rd : Nat) (A : Nat → Int32) (hk : C.1 13 = nI kp) (hkp : kp ≤ 1) (hr : C.1 14 = nI rd) (hrd : rd ≤ 1) (bf : Nat) (L : List Int32) (hbf : bf ≤ 5) (C1 : wd_C) (h1 : C1 = wE C kp A (bf, L)) (x : Int32) (hb : L.length + 1 < 2147483648) : am_Mt l D cA ad fm (d + 0) m_W_putByte [.ref 17, .int x] (wd C1 Y og) (fun vr w' => vr = none ∧ ∃ C2, w' = wd C2 Y og ∧ C2 = wE C kp A (bf, L ++ [x])) := by
  refine am_mt ok_W_putByte (by simp [am_arg, Value.category, m_W_putByte, am_ml]) ?_
  refine am_eq_r (q' := (0, [some (.ref 17), some (.int x)], [], wd C1 Y og)) rfl ?_
  refine am_steps_r ok_W_putByte 3 (q' := (bif decide ((C1.1 13) = 0) then 35 else 7, [some (.ref 17), some (.int x)], [], wd C1 Y og)) rfl ?_
  rw [show (C1.1 13 : Int32) = nI kp from ((wE_13 h1).trans hk)]
  refine am_br_r (fun h_1 => ?_) (fun h_1 => ?_)
  · skip
    have h_1 : kp = 0 := (nI_eq (show kp < 2 ^ 31 by omega) (show 0 < 2 ^ 31 by omega)).mp h_1
    refine am_steps_r ok_W_putByte 6 (q' := (45, [some (.ref 17), some (.int x)], [], wd (upd C1.1 12 ((C1.1 12) + 1), C1.2) Y og)) rfl ?_
    rw [show (C1.1 12 : Int32) = nI L.length from (wE_12 h1)]
    rw [show ((nI L.length) + 1 : Int32) = nI (L.length + 1) from nI_add L.length 1]
    refine am_vret_r ok_W_putByte rfl rfl rfl ?_
    exact ⟨rfl, _, rfl, by subst h1; exact wE_no (s := (bf, L)) (x := x) (fun z => by have z2 : L.length < 4000 := z.2; have z1 := z.1; omega)⟩
  · skip
    have h_1 : ¬ kp = 0 := fun z => h_1 ((nI_eq (show kp < 2 ^ 31 by omega) (show 0 < 2 ^ 31 by omega)).mpr z)
    refine am_steps_r ok_W_putByte 3 (q' := (bif decide ((C1.1 12) < 0) then 35 else 14, [some (.ref 17), some (.int x)], [], wd C1 Y og)) rfl ?_
    rw [show (C1.1 12 : Int32) = nI L.length from (wE_12 h1)]
    refine am_br_r (fun h_2 => ?_) (fun h_2 => ?_)
    · skip
      have h_2 : L.length < 0 := (nI_ltI (show L.length < 2 ^ 31 by omega) (show 0 < 2 ^ 31 by omega)).mp h_2
      exact absurd h_2 (Nat.not_lt_zero _)
    · skip
      have h_2 : ¬ L.length < 0 := fun z => h_2 ((nI_ltI (show L.length < 2 ^ 31 by omega) (show 0 < 2 ^ 31 by omega)).mpr z)
      refine am_steps_r ok_W_putByte 4 (q' := (bif decide (4000 ≤ (C1.1 12)) then 35 else 24, [some (.ref 17), some (.int x)], [], wd C1 Y og)) rfl ?_
      rw [show (C1.1 12 : Int32) = nI L.length from (wE_12 h1)]
      refine am_br_r (fun h_3 => ?_) (fun h_3 => ?_)
      · skip
        have h_3 : 4000 ≤ L.length := (nI_leI (show 4000 < 2 ^ 31 by omega) (show L.length < 2 ^ 31 by omega)).mp h_3
        refine am_steps_r ok_W_putByte 6 (q' := (45, [some (.ref 17), some (.int x)], [], wd (upd C1.1 12 ((C1.1 12) + 1), C1.2) Y og)) rfl ?_
        rw [show (C1.1 12 : Int32) = nI L.length from (wE_12 h1)]
        rw [show ((nI L.length) + 1 : Int32) = nI (L.length + 1) from nI_add L.length 1]
        refine am_vret_r ok_W_putByte rfl rfl rfl ?_
        exact ⟨rfl, _, rfl, by subst h1; exact wE_no (s := (bf, L)) (x := x) (fun z => by have z2 : L.length < 4000 := z.2; have z1 := z.1; omega)⟩
      · skip
        have h_3 : ¬ 4000 ≤ L.length := fun z => h_3 ((nI_leI (show 4000 < 2 ^ 31 by omega) (show L.length < 2 ^ 31 by omega)).mpr z)
        refine am_steps_r ok_W_putByte 6 (q' := (34, [some (.ref 17), some (.int x)], [.int x.toInt8.toInt32, .int (C1.1 12), .ref 18], wd C1 Y og)) rfl ?_
        rw [show (C1.1 12 : Int32) = nI L.length from (wE_12 h1)]
        refine am_bast_r ok_W_putByte rfl (w := wd C1 Y og) (f := C1.2.1 11) rfl rfl (pk_in L.length 4000 (by omega)) ?_
        rw [nI_clamp (show L.length < 2 ^ 31 by omega)]
        refine am_eq_r (q' := (35, [some (.ref 17), some (.int x)], [], wd (C1.1, wd_u C1.2.1 11 (upd (C1.2.1 11) L.length (vp_nar .byte x.toInt8.toInt32)), C1.2.2) Y og)) rfl ?_
        refine am_steps_r ok_W_putByte 6 (q' := (45, [some (.ref 17), some (.int x)], [], wd (upd C1.1 12 ((C1.1 12) + 1), wd_u C1.2.1 11 (upd (C1.2.1 11) L.length (vp_nar .byte x.toInt8.toInt32)), C1.2.2) Y og)) rfl ?_
        rw [show (C1.1 12 : Int32) = nI L.length from (wE_12 h1)]
        rw [show ((nI L.length) + 1 : Int32) = nI (L.length + 1) from nI_add L.length 1]
        refine am_vret_r ok_W_putByte rfl rfl rfl ?_
        exact ⟨rfl, _, rfl, by subst h1; exact wE_put (s := (bf, L)) ⟨by omega, show L.length < 4000 by omega⟩⟩
set_option maxHeartbeats 4000000 in
set_option maxRecDepth 100000 in
theorem lp_W_putText_2 (d : Nat) (C : wd_C) (Y : wd_Y) (og : Nat → Int64) (kp rd : Nat) (A : Nat → Int32) (hk : C.1 13 = nI kp) (hkp : kp ≤ 1) (hr : C.1 14 = nI rd) (hrd : rd ≤ 1) (bf : Nat) (hbf : bf ≤ 5) (i co ix : Nat) (tx : String) (bs : List Int32) (hi : pr_st[i]? = some (co, ix, tx, bs)) (hl : bs.length < 1000) (hfm : fm = .null ∨ fm = .ref 3000)  : ∀ (fu : Nat) (post : Option Value → am_W → Prop) (k : Nat) (L : List Int32) (C1 : wd_C), (C1 = wE C kp A (bf, L)) → (k ≤ bs.length) → ((L ++ bs.drop k).length < 2147483648) → (∀ C2, C2 = wE C kp A (bf, L ++ bs.drop k) → post none (wd C2 Y og)) → bs.length - k < fu → am_Rn l D cA ad fm (d + 4) m_W_putText (wd C Y og).length post (2, [some (.ref 17), some (.ref (1000 + i)), some (.int (nI k))], [], wd C1 Y og) := by
  intro fu
  induction fu with
  | zero => intro post k L C1 h1 hk2 hb hpo hfu; exact absurd hfu (Nat.not_lt_zero _)
  | succ fu ih =>
    intro post k L C1 h1 hk2 hb hpo hfu
    refine am_steps_r ok_W_putText 2 (q' := (4, [some (.ref 17), some (.ref (1000 + i)), some (.int (nI k))], [.ref (1000 + i), .int (nI k)], wd C1 Y og)) rfl ?_
    refine am_callV_r (As := []) (rest := [.int (nI k)]) ok_W_putText rfl rfl ok_J_length oi_J_length lk_4_80 (Or.inr ⟨rfl, i, _, rfl, hi⟩) rfl rfl (Nat.le_of_ble_eq_true rfl) (c_J_length _ C1 Y og i co ix tx bs hi hl) ?_
    rintro v_ w_ ⟨rfl, rfl⟩ -
    refine am_eq_r (q' := (7, [some (.ref 17), some (.ref (1000 + i)), some (.int (nI k))], [.int (nI bs.length), .int (nI k)], wd C1 Y og)) rfl ?_
    refine am_steps_r ok_W_putText 1 (q' := (bif decide ((nI bs.length) ≤ (nI k)) then 25 else 10, [some (.ref 17), some (.ref (1000 + i)), some (.int (nI k))], [], wd C1 Y og)) rfl ?_
    refine am_br_r (fun h_2 => ?_) (fun h_2 => ?_)
    · skip
      have h_2 : bs.length ≤ k := (nI_leI (show bs.length < 2 ^ 31 by omega) (show k < 2 ^ 31 by omega)).mp h_2
      refine am_vret_r ok_W_putText rfl rfl rfl ?_
      exact hpo _ (by rw [List.drop_eq_nil_of_le (by omega), List.append_nil]; exact h1)
    · skip
      have h_2 : ¬ bs.length ≤ k := fun z => h_2 ((nI_leI (show bs.length < 2 ^ 31 by omega) (show k < 2 ^ 31 by omega)).mpr z)
      refine am_steps_r ok_W_putText 3 (q' := (13, [some (.ref 17), some (.ref (1000 + i)), some (.int (nI k))], [.int (nI k), .ref (1000 + i), .ref 17], wd C1 Y og)) rfl ?_
      refine am_callV_r (As := [.int (nI k)]) (rest := [.ref 17]) ok_W_putText rfl rfl ok_J_charAt oi_J_charAt lk_4_85 (Or.inr ⟨rfl, i, _, rfl, hi⟩) rfl rfl (Nat.le_of_ble_eq_true rfl) (c_J_charAt _ C1 Y og i co ix tx bs hi hl k (by omega) hfm) ?_
      rintro v_ w_ ⟨rfl, rfl⟩ -
      refine am_eq_r (q' := (16, [some (.ref 17), some (.ref (1000 + i)), some (.int (nI k))], [.int (bs.getD k 0), .ref 17], wd C1 Y og)) rfl ?_
      refine am_callV_r (As := [.int (bs.getD k 0)]) (rest := []) ok_W_putText rfl rfl ok_W_putByte oi_W_putByte lk_4_75 (Or.inl ⟨_, _, _, rfl, rfl, rfl⟩) rfl rfl (Nat.le_of_ble_eq_true rfl) (c_W_putByte _ C Y og kp rd A hk hkp hr hrd bf L (by omega) C1 h1 (bs.getD k 0) (by have h9 := congrArg List.length (drop_get (bs := bs) (k := k) (by omega)); simp only [List.length_append, List.length_cons] at hb h9; omega)) ?_
      rintro v_ w_ ⟨rfl, C_4, rfl, hC_5⟩ -
      refine am_eq_r (q' := (19, [some (.ref 17), some (.ref (1000 + i)), some (.int (nI k))], [], wd C_4 Y og)) rfl ?_
      refine am_steps_r ok_W_putText 2 (q' := (2, [some (.ref 17), some (.ref (1000 + i)), some (.int ((nI k) + 1))], [], wd C_4 Y og)) rfl ?_
      rw [show ((nI k) + 1 : Int32) = nI (k + 1) from nI_add k 1]
      exact ih post (k + 1) (L ++ [bs.getD k 0]) C_4 hC_5 (by omega) (by rw [app_app1, ← drop_get (by omega)]; exact hb) (by rw [app_app1, ← drop_get (by omega)]; exact hpo) (by omega)
set_option maxHeartbeats 4000000 in
set_option maxRecDepth 100000 in
theorem c_W_putText (d : Nat) (C : wd_C) (Y : wd_Y) (og : Nat → Int64) (kp rd : Nat) (A : Nat → Int32) (hk : C.1 13 = nI kp) (hkp : kp ≤ 1) (hr : C.1 14 = nI rd) (hrd : rd ≤ 1) (bf : Nat) (L : List Int32) (hbf : bf ≤ 5) (C1 : wd_C) (h1 : C1 = wE C kp A (bf, L)) (i co ix : Nat) (tx : String) (bs : List Int32) (hi : pr_st[i]? = some (co, ix, tx, bs)) (hl : bs.length < 1000) (hfm : fm = .null ∨ fm = .ref 3000) (hb : (L ++ bs).length < 2147483648) : am_Mt l D cA ad fm (d + 4) m_W_putText [.ref 17, .ref (1000 + i)] (wd C1 Y og) (fun vr w' => vr = none ∧ ∃ C2, w' = wd C2 Y og ∧ C2 = wE C kp A (bf, L ++ bs)) := by
  refine am_mt ok_W_putText (by simp [am_arg, Value.category, m_W_putText, am_ml]) ?_
  refine am_eq_r (q' := (0, [some (.ref 17), some (.ref (1000 + i)), none], [], wd C1 Y og)) rfl ?_
  refine am_steps_r ok_W_putText 2 (q' := (2, [some (.ref 17), some (.ref (1000 + i)), some (.int 0)], [], wd C1 Y og)) rfl ?_
  exact lp_W_putText_2 d C Y og kp rd A hk hkp hr hrd bf hbf i co ix tx bs hi hl hfm (bs.length + 1) _ 0 L C1 h1 (Nat.zero_le _) hb (fun C2 h2 => ⟨rfl, C2, rfl, h2⟩) (by omega)
set_option maxHeartbeats 4000000 in
set_option maxRecDepth 100000 in
theorem c_W_putGap (d : Nat) (C : wd_C) (Y : wd_Y) (og : Nat → Int64) (kp rd : Nat) (A : Nat → Int32) (hk : C.1 13 = nI kp) (hkp : kp ≤ 1) (hr : C.1 14 = nI rd) (hrd : rd ≤ 1) (bf : Nat) (L : List Int32) (hbf : bf ≤ 5) (C1 : wd_C) (h1 : C1 = wE C kp A (bf, L)) (s : Nat) (hs : s ≤ 5) (hb : L.length + 1 < 2147483648) : am_Mt l D cA ad fm (d + 1) m_W_putGap [.ref 17, .int (nI s)] (wd C1 Y og) (fun vr w' => vr = none ∧ ∃ C2, w' = wd C2 Y og ∧ C2 = wE C kp A (s, L ++ gpL rd bf s)) := by
  refine am_mt ok_W_putGap (by simp [am_arg, Value.category, m_W_putGap, am_ml]) ?_
  refine am_eq_r (q' := (0, [some (.ref 17), some (.int (nI s)), none], [], wd C1 Y og)) rfl ?_
  refine am_steps_r ok_W_putGap 3 (q' := (bif decide ((C1.1 14) = 0) then 36 else 7, [some (.ref 17), some (.int (nI s)), none], [], wd C1 Y og)) rfl ?_
  rw [show (C1.1 14 : Int32) = nI rd from ((wE_14 h1).trans hr)]
  refine am_br_r (fun h_1 => ?_) (fun h_1 => ?_)
  · skip
    have h_1 : rd = 0 := (nI_eq (show rd < 2 ^ 31 by omega) (show 0 < 2 ^ 31 by omega)).mp h_1
    refine am_steps_r ok_W_putGap 3 (q' := (bif decide ((nI s) = 1) then 41 else 61, [some (.ref 17), some (.int (nI s)), none], [], wd C1 Y og)) rfl ?_
    refine am_br_r (fun h_2 => ?_) (fun h_2 => ?_)
    · skip
      have h_2 : s = 1 := (nI_eq (show s < 2 ^ 31 by omega) (show 1 < 2 ^ 31 by omega)).mp h_2
      refine am_steps_r ok_W_putGap 4 (q' := (bif decide ((C1.1 15) = 1) then 57 else 49, [some (.ref 17), some (.int (nI s)), none], [], wd C1 Y og)) rfl ?_
      rw [show (C1.1 15 : Int32) = nI bf from (wE_15 h1)]
      refine am_br_r (fun h_3 => ?_) (fun h_3 => ?_)
      · skip
        have h_3 : bf = 1 := (nI_eq (show bf < 2 ^ 31 by omega) (show 1 < 2 ^ 31 by omega)).mp h_3
        refine am_steps_r ok_W_putGap 7 (q' := (70, [some (.ref 17), some (.int (nI s)), some (.int 1)], [.int 32, .ref 17], wd C1 Y og)) rfl ?_
        refine am_callV_r (As := [.int 32]) (rest := []) ok_W_putGap rfl rfl ok_W_putByte oi_W_putByte lk_4_75 (Or.inl ⟨_, _, _, rfl, rfl, rfl⟩) rfl rfl (Nat.le_of_ble_eq_true rfl) (c_W_putByte _ C Y og kp rd A hk hkp hr hrd bf L (by omega) C1 h1 32 (by first | exact hb | (first | omega | (simp only [List.length_append, List.length_cons, List.length_nil] at hb ⊢; omega) | (simp only [List.length_append, List.length_cons, List.length_nil]; omega)))) ?_
        rintro v_ w_ ⟨rfl, C_4, rfl, hC_5⟩ -
        refine am_eq_r (q' := (73, [some (.ref 17), some (.int (nI s)), some (.int 1)], [], wd C_4 Y og)) rfl ?_
        refine am_steps_r ok_W_putGap 3 (q' := (78, [some (.ref 17), some (.int (nI s)), some (.int 1)], [], wd (upd C_4.1 15 (nI s), C_4.2) Y og)) rfl ?_
        refine am_vret_r ok_W_putGap rfl rfl rfl ?_
        refine ⟨rfl, _, rfl, ?_⟩
        rw [show gpL rd bf s = [32] by unfold gpL gpB; simp_all]
        subst hC_5
        exact wE_bf (s := (bf, (L ++ [32])))
      · skip
        have h_3 : ¬ bf = 1 := fun z => h_3 ((nI_eq (show bf < 2 ^ 31 by omega) (show 1 < 2 ^ 31 by omega)).mpr z)
        refine am_steps_r ok_W_putGap 4 (q' := (bif decide ((C1.1 15) = 2) then 57 else 61, [some (.ref 17), some (.int (nI s)), none], [], wd C1 Y og)) rfl ?_
        rw [show (C1.1 15 : Int32) = nI bf from (wE_15 h1)]
        refine am_br_r (fun h_6 => ?_) (fun h_6 => ?_)
        · skip
          have h_6 : bf = 2 := (nI_eq (show bf < 2 ^ 31 by omega) (show 2 < 2 ^ 31 by omega)).mp h_6
          refine am_steps_r ok_W_putGap 7 (q' := (70, [some (.ref 17), some (.int (nI s)), some (.int 1)], [.int 32, .ref 17], wd C1 Y og)) rfl ?_
          refine am_callV_r (As := [.int 32]) (rest := []) ok_W_putGap rfl rfl ok_W_putByte oi_W_putByte lk_4_75 (Or.inl ⟨_, _, _, rfl, rfl, rfl⟩) rfl rfl (Nat.le_of_ble_eq_true rfl) (c_W_putByte _ C Y og kp rd A hk hkp hr hrd bf L (by omega) C1 h1 32 (by first | exact hb | (first | omega | (simp only [List.length_append, List.length_cons, List.length_nil] at hb ⊢; omega) | (simp only [List.length_append, List.length_cons, List.length_nil]; omega)))) ?_
          rintro v_ w_ ⟨rfl, C_7, rfl, hC_8⟩ -
          refine am_eq_r (q' := (73, [some (.ref 17), some (.int (nI s)), some (.int 1)], [], wd C_7 Y og)) rfl ?_
          refine am_steps_r ok_W_putGap 3 (q' := (78, [some (.ref 17), some (.int (nI s)), some (.int 1)], [], wd (upd C_7.1 15 (nI s), C_7.2) Y og)) rfl ?_
          refine am_vret_r ok_W_putGap rfl rfl rfl ?_
          refine ⟨rfl, _, rfl, ?_⟩
          rw [show gpL rd bf s = [32] by unfold gpL gpB; simp_all]
          subst hC_8
          exact wE_bf (s := (bf, (L ++ [32])))
        · skip
          have h_6 : ¬ bf = 2 := fun z => h_6 ((nI_eq (show bf < 2 ^ 31 by omega) (show 2 < 2 ^ 31 by omega)).mpr z)
          refine am_steps_r ok_W_putGap 7 (q' := (78, [some (.ref 17), some (.int (nI s)), some (.int 0)], [], wd (upd C1.1 15 (nI s), C1.2) Y og)) rfl ?_
          refine am_vret_r ok_W_putGap rfl rfl rfl ?_
          refine ⟨rfl, _, rfl, ?_⟩
          rw [show gpL rd bf s = [] by unfold gpL gpB; simp_all]
          subst h1
          rw [List.append_nil]
          exact wE_bf (s := (bf, L))
    · skip
      have h_2 : ¬ s = 1 := fun z => h_2 ((nI_eq (show s < 2 ^ 31 by omega) (show 1 < 2 ^ 31 by omega)).mpr z)
      refine am_steps_r ok_W_putGap 7 (q' := (78, [some (.ref 17), some (.int (nI s)), some (.int 0)], [], wd (upd C1.1 15 (nI s), C1.2) Y og)) rfl ?_
      refine am_vret_r ok_W_putGap rfl rfl rfl ?_
      refine ⟨rfl, _, rfl, ?_⟩
      rw [show gpL rd bf s = [] by unfold gpL gpB; simp_all]
      subst h1
      rw [List.append_nil]
      exact wE_bf (s := (bf, L))
  · skip
    have h_1 : ¬ rd = 0 := fun z => h_1 ((nI_eq (show rd < 2 ^ 31 by omega) (show 0 < 2 ^ 31 by omega)).mpr z)
    refine am_steps_r ok_W_putGap 3 (q' := (bif decide ((C1.1 15) = 0) then 31 else 14, [some (.ref 17), some (.int (nI s)), none], [], wd C1 Y og)) rfl ?_
    rw [show (C1.1 15 : Int32) = nI bf from (wE_15 h1)]
    refine am_br_r (fun h_9 => ?_) (fun h_9 => ?_)
    · skip
      have h_9 : bf = 0 := (nI_eq (show bf < 2 ^ 31 by omega) (show 0 < 2 ^ 31 by omega)).mp h_9
      refine am_steps_r ok_W_putGap 8 (q' := (78, [some (.ref 17), some (.int (nI s)), some (.int 0)], [], wd (upd C1.1 15 (nI s), C1.2) Y og)) rfl ?_
      refine am_vret_r ok_W_putGap rfl rfl rfl ?_
      refine ⟨rfl, _, rfl, ?_⟩
      rw [show gpL rd bf s = [] by unfold gpL gpB; simp_all]
      subst h1
      rw [List.append_nil]
      exact wE_bf (s := (bf, L))
    · skip
      have h_9 : ¬ bf = 0 := fun z => h_9 ((nI_eq (show bf < 2 ^ 31 by omega) (show 0 < 2 ^ 31 by omega)).mpr z)
      refine am_steps_r ok_W_putGap 4 (q' := (bif decide ((C1.1 15) = 4) then 31 else 22, [some (.ref 17), some (.int (nI s)), none], [], wd C1 Y og)) rfl ?_
      rw [show (C1.1 15 : Int32) = nI bf from (wE_15 h1)]
      refine am_br_r (fun h_10 => ?_) (fun h_10 => ?_)
      · skip
        have h_10 : bf = 4 := (nI_eq (show bf < 2 ^ 31 by omega) (show 4 < 2 ^ 31 by omega)).mp h_10
        refine am_steps_r ok_W_putGap 8 (q' := (78, [some (.ref 17), some (.int (nI s)), some (.int 0)], [], wd (upd C1.1 15 (nI s), C1.2) Y og)) rfl ?_
        refine am_vret_r ok_W_putGap rfl rfl rfl ?_
        refine ⟨rfl, _, rfl, ?_⟩
        rw [show gpL rd bf s = [] by unfold gpL gpB; simp_all]
        subst h1
        rw [List.append_nil]
        exact wE_bf (s := (bf, L))
      · skip
        have h_10 : ¬ bf = 4 := fun z => h_10 ((nI_eq (show bf < 2 ^ 31 by omega) (show 4 < 2 ^ 31 by omega)).mpr z)
        refine am_steps_r ok_W_putGap 3 (q' := (bif decide ((nI s) = 5) then 31 else 27, [some (.ref 17), some (.int (nI s)), none], [], wd C1 Y og)) rfl ?_
        refine am_br_r (fun h_11 => ?_) (fun h_11 => ?_)
        · skip
          have h_11 : s = 5 := (nI_eq (show s < 2 ^ 31 by omega) (show 5 < 2 ^ 31 by omega)).mp h_11
          refine am_steps_r ok_W_putGap 8 (q' := (78, [some (.ref 17), some (.int (nI s)), some (.int 0)], [], wd (upd C1.1 15 (nI s), C1.2) Y og)) rfl ?_
          refine am_vret_r ok_W_putGap rfl rfl rfl ?_
          refine ⟨rfl, _, rfl, ?_⟩
          rw [show gpL rd bf s = [] by unfold gpL gpB; simp_all]
          subst h1
          rw [List.append_nil]
          exact wE_bf (s := (bf, L))
        · skip
          have h_11 : ¬ s = 5 := fun z => h_11 ((nI_eq (show s < 2 ^ 31 by omega) (show 5 < 2 ^ 31 by omega)).mpr z)
          refine am_steps_r ok_W_putGap 8 (q' := (70, [some (.ref 17), some (.int (nI s)), some (.int 1)], [.int 32, .ref 17], wd C1 Y og)) rfl ?_
          refine am_callV_r (As := [.int 32]) (rest := []) ok_W_putGap rfl rfl ok_W_putByte oi_W_putByte lk_4_75 (Or.inl ⟨_, _, _, rfl, rfl, rfl⟩) rfl rfl (Nat.le_of_ble_eq_true rfl) (c_W_putByte _ C Y og kp rd A hk hkp hr hrd bf L (by omega) C1 h1 32 (by first | exact hb | (first | omega | (simp only [List.length_append, List.length_cons, List.length_nil] at hb ⊢; omega) | (simp only [List.length_append, List.length_cons, List.length_nil]; omega)))) ?_
          rintro v_ w_ ⟨rfl, C_12, rfl, hC_13⟩ -
          refine am_eq_r (q' := (73, [some (.ref 17), some (.int (nI s)), some (.int 1)], [], wd C_12 Y og)) rfl ?_
          refine am_steps_r ok_W_putGap 3 (q' := (78, [some (.ref 17), some (.int (nI s)), some (.int 1)], [], wd (upd C_12.1 15 (nI s), C_12.2) Y og)) rfl ?_
          refine am_vret_r ok_W_putGap rfl rfl rfl ?_
          refine ⟨rfl, _, rfl, ?_⟩
          rw [show gpL rd bf s = [32] by unfold gpL gpB; simp_all]
          subst hC_13
          exact wE_bf (s := (bf, (L ++ [32])))
set_option maxHeartbeats 4000000 in
set_option maxRecDepth 100000 in
theorem c_W_putMark (d : Nat) (C : wd_C) (Y : wd_Y) (og : Nat → Int64) (kp rd : Nat) (A : Nat → Int32) (hk : C.1 13 = nI kp) (hkp : kp ≤ 1) (hr : C.1 14 = nI rd) (hrd : rd ≤ 1) (bf : Nat) (L : List Int32) (hbf : bf ≤ 5) (C1 : wd_C) (h1 : C1 = wE C kp A (bf, L)) (s : Nat) (hs : s ≤ 5) (i co ix : Nat) (tx : String) (bs : List Int32) (hi : pr_st[i]? = some (co, ix, tx, bs)) (hl : bs.length < 1000) (hfm : fm = .null ∨ fm = .ref 3000) (hb : (L ++ bs).length + 1 < 2147483648) : am_Mt l D cA ad fm (d + 5) m_W_putMark [.ref 17, .int (nI s), .ref (1000 + i)] (wd C1 Y og) (fun vr w' => vr = none ∧ ∃ C2, w' = wd C2 Y og ∧ C2 = wE C kp A (s, L ++ gpL rd bf s ++ bs)) := by
  refine am_mt ok_W_putMark (by simp [am_arg, Value.category, m_W_putMark, am_ml]) ?_
  refine am_eq_r (q' := (0, [some (.ref 17), some (.int (nI s)), some (.ref (1000 + i))], [], wd C1 Y og)) rfl ?_
  refine am_steps_r ok_W_putMark 2 (q' := (2, [some (.ref 17), some (.int (nI s)), some (.ref (1000 + i))], [.int (nI s), .ref 17], wd C1 Y og)) rfl ?_
  refine am_callV_r (As := [.int (nI s)]) (rest := []) ok_W_putMark rfl rfl ok_W_putGap oi_W_putGap lk_4_95 (Or.inl ⟨_, _, _, rfl, rfl, rfl⟩) rfl rfl (Nat.le_of_ble_eq_true rfl) (c_W_putGap _ C Y og kp rd A hk hkp hr hrd bf L (by omega) C1 h1 s (by omega) (by simp only [List.length_append, List.length_cons, List.length_nil] at hb ⊢; omega)) ?_
  rintro v_ w_ ⟨rfl, C_1, rfl, hC_2⟩ -
  refine am_eq_r (q' := (5, [some (.ref 17), some (.int (nI s)), some (.ref (1000 + i))], [], wd C_1 Y og)) rfl ?_
  refine am_steps_r ok_W_putMark 2 (q' := (7, [some (.ref 17), some (.int (nI s)), some (.ref (1000 + i))], [.ref (1000 + i), .ref 17], wd C_1 Y og)) rfl ?_
  refine am_callV_r (As := [.ref (1000 + i)]) (rest := []) ok_W_putMark rfl rfl ok_W_putText oi_W_putText lk_4_63 (Or.inl ⟨_, _, _, rfl, rfl, rfl⟩) rfl rfl (Nat.le_of_ble_eq_true rfl) (c_W_putText _ C Y og kp rd A hk hkp hr hrd s (L ++ gpL rd bf s) (by omega) C_1 hC_2 i co ix tx bs hi hl hfm (by have h9 := gpL_1 rd bf s; simp only [List.length_append] at hb ⊢; omega)) ?_
  rintro v_ w_ ⟨rfl, C_3, rfl, hC_4⟩ -
  refine am_eq_r (q' := (10, [some (.ref 17), some (.int (nI s)), some (.ref (1000 + i))], [], wd C_3 Y og)) rfl ?_
  refine am_vret_r ok_W_putMark rfl rfl rfl ?_
  exact ⟨rfl, _, rfl, hC_4⟩
end C94
