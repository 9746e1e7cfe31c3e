/-! the component reads strings; printed by wip/gen/g45.py -/
theorem isB_neg {x : Int32} (h : isB x) : ¬ x < 0 := by
  obtain ⟨j, hj, rfl⟩ := h
  exact nI_pos (by omega)
theorem nI_m1 {a : Nat} (h : 1 ≤ a) : nI a + (-1) = nI (a - 1) := by
  rw [← pk_sub h, Int32.sub_eq_add_neg, show -nI 1 = (-1 : Int32) from by decide]
theorem isB_m2 {x : Int32} (h : isB x) : ¬ x = -2 := fun e => isB_neg h (by rw [e]; decide)
section C45
variable {l : Launch} {D : va_G} {cA : Nat → ClassId} {ad : Nat → Nat} {fm : Value}
set_option maxHeartbeats 400000 in
set_option maxRecDepth 100000 in
theorem lp_R_readOctal_4 (d : Nat) (C : wd_C) (Y : wd_Y) (og : Nat → Int64) (n : Nat) (b : Nat → Int32) (hT : tpC C n b)  : ∀ (fu : Nat) (post : Option Value → am_W → Prop) (i : Nat) (j : Nat) (s : Int32), (i ≤ 3) → (j + (3 - i) ≤ 3000) →  post (some (.int (ocV b (3 - i) j s &&& 255))) (wd (upd C.1 4 (nI (ocE b (3 - i) j)), C.2) Y og) → 3 - i < fu → am_Rn l D cA ad fm (d + 1) m_R_readOctal (wd C Y og).length post (4, [some (.ref 16), some (.int s), some (.int (nI i))], [], wd (upd C.1 4 (nI j), C.2) Y og) := by
  intro fu
  induction fu with
  | zero => intro post i j s hi hj hp hfu; exact absurd hfu (Nat.not_lt_zero _)
  | succ fu ih =>
    intro post i j s hi hj hp hfu
    have hn := hT.2.1
    refine am_steps_r ok_R_readOctal 3 (q' := (bif decide (3 ≤ (nI i)) then 77 else 9, [some (.ref 16), some (.int s), some (.int (nI i))], [], wd (upd C.1 4 (nI j), C.2) Y og)) rfl ?_
    refine am_br_r (fun h_1 => ?_) (fun h_1 => ?_)
    · skip
      have h_1 : 3 ≤ i := (nI_leI (show 3 < 2 ^ 31 by omega) (show i < 2 ^ 31 by omega)).mp h_1
      refine am_steps_r ok_R_readOctal 3 (q' := (82, [some (.ref 16), some (.int s), some (.int (nI i))], [.int (s &&& 255)], wd (upd C.1 4 (nI j), C.2) Y og)) rfl ?_
      refine am_iret_r ok_R_readOctal rfl rfl rfl ?_
      first | (rw [show 3 - i = 0 by omega, ocV, ocE] at hp; exact hp) | (rw [(ocV_lo (b := b) (f := 3 - i) (k := j) (s := s) (fun z => by first | exact absurd (Int32.lt_of_lt_of_le (by assumption) z.1) Int32.lt_irrefl | exact absurd (Int32.lt_of_lt_of_le (by assumption) z.2) Int32.lt_irrefl)).1, (ocV_lo (b := b) (f := 3 - i) (k := j) (s := s) (fun z => by first | exact absurd (Int32.lt_of_lt_of_le (by assumption) z.1) Int32.lt_irrefl | exact absurd (Int32.lt_of_lt_of_le (by assumption) z.2) Int32.lt_irrefl)).2] at hp; exact hp)
    · skip
      have h_1 : ¬ 3 ≤ i := fun z => h_1 ((nI_leI (show 3 < 2 ^ 31 by omega) (show i < 2 ^ 31 by omega)).mpr z)
      refine am_steps_r ok_R_readOctal 4 (q' := (17, [some (.ref 16), some (.int s), some (.int (nI i))], [.int (nI j), .ref 1], wd (upd C.1 4 (nI j), C.2) Y og)) rfl ?_
      refine am_callV_r (As := [.int (nI j)]) (rest := []) ok_R_readOctal rfl rfl ok_T_at oi_T_at lk_1_125 (Or.inl ⟨_, _, _, rfl, rfl, rfl⟩) rfl rfl (Nat.le_of_ble_eq_true rfl) (c_T_at _ (upd C.1 4 (nI j), C.2) Y og n b hT j (by omega)) ?_
      rintro v_ w_ ⟨rfl, rfl⟩ -
      refine am_eq_r (q' := (20, [some (.ref 16), some (.int s), some (.int (nI i))], [.int (b j)], wd (upd C.1 4 (nI j), C.2) Y og)) rfl ?_
      refine am_steps_r ok_R_readOctal 2 (q' := (bif decide ((b j) < 48) then 77 else 25, [some (.ref 16), some (.int s), some (.int (nI i))], [], wd (upd C.1 4 (nI j), C.2) Y og)) rfl ?_
      refine am_br_r (fun h_3 => ?_) (fun h_3 => ?_)
      · skip
        refine am_steps_r ok_R_readOctal 3 (q' := (82, [some (.ref 16), some (.int s), some (.int (nI i))], [.int (s &&& 255)], wd (upd C.1 4 (nI j), C.2) Y og)) rfl ?_
        refine am_iret_r ok_R_readOctal rfl rfl rfl ?_
        first | (rw [show 3 - i = 0 by omega, ocV, ocE] at hp; exact hp) | (rw [(ocV_lo (b := b) (f := 3 - i) (k := j) (s := s) (fun z => by first | exact absurd (Int32.lt_of_lt_of_le (by assumption) z.1) Int32.lt_irrefl | exact absurd (Int32.lt_of_lt_of_le (by assumption) z.2) Int32.lt_irrefl)).1, (ocV_lo (b := b) (f := 3 - i) (k := j) (s := s) (fun z => by first | exact absurd (Int32.lt_of_lt_of_le (by assumption) z.1) Int32.lt_irrefl | exact absurd (Int32.lt_of_lt_of_le (by assumption) z.2) Int32.lt_irrefl)).2] at hp; exact hp)
      · skip
        refine am_steps_r ok_R_readOctal 4 (q' := (33, [some (.ref 16), some (.int s), some (.int (nI i))], [.int (nI j), .ref 1], wd (upd C.1 4 (nI j), C.2) Y og)) rfl ?_
        refine am_callV_r (As := [.int (nI j)]) (rest := []) ok_R_readOctal rfl rfl ok_T_at oi_T_at lk_1_125 (Or.inl ⟨_, _, _, rfl, rfl, rfl⟩) rfl rfl (Nat.le_of_ble_eq_true rfl) (c_T_at _ (upd C.1 4 (nI j), C.2) Y og n b hT j (by omega)) ?_
        rintro v_ w_ ⟨rfl, rfl⟩ -
        refine am_eq_r (q' := (36, [some (.ref 16), some (.int s), some (.int (nI i))], [.int (b j)], wd (upd C.1 4 (nI j), C.2) Y og)) rfl ?_
        refine am_steps_r ok_R_readOctal 2 (q' := (bif decide (55 < (b j)) then 77 else 41, [some (.ref 16), some (.int s), some (.int (nI i))], [], wd (upd C.1 4 (nI j), C.2) Y og)) rfl ?_
        refine am_br_r (fun h_5 => ?_) (fun h_5 => ?_)
        · skip
          refine am_steps_r ok_R_readOctal 3 (q' := (82, [some (.ref 16), some (.int s), some (.int (nI i))], [.int (s &&& 255)], wd (upd C.1 4 (nI j), C.2) Y og)) rfl ?_
          refine am_iret_r ok_R_readOctal rfl rfl rfl ?_
          first | (rw [show 3 - i = 0 by omega, ocV, ocE] at hp; exact hp) | (rw [(ocV_lo (b := b) (f := 3 - i) (k := j) (s := s) (fun z => by first | exact absurd (Int32.lt_of_lt_of_le (by assumption) z.1) Int32.lt_irrefl | exact absurd (Int32.lt_of_lt_of_le (by assumption) z.2) Int32.lt_irrefl)).1, (ocV_lo (b := b) (f := 3 - i) (k := j) (s := s) (fun z => by first | exact absurd (Int32.lt_of_lt_of_le (by assumption) z.1) Int32.lt_irrefl | exact absurd (Int32.lt_of_lt_of_le (by assumption) z.2) Int32.lt_irrefl)).2] at hp; exact hp)
        · skip
          refine am_steps_r ok_R_readOctal 7 (q' := (53, [some (.ref 16), some (.int s), some (.int (nI i))], [.int (nI j), .ref 1, .int (s * 8)], wd (upd C.1 4 (nI j), C.2) Y og)) rfl ?_
          refine am_callV_r (As := [.int (nI j)]) (rest := [.int (s * 8)]) ok_R_readOctal rfl rfl ok_T_at oi_T_at lk_1_125 (Or.inl ⟨_, _, _, rfl, rfl, rfl⟩) rfl rfl (Nat.le_of_ble_eq_true rfl) (c_T_at _ (upd C.1 4 (nI j), C.2) Y og n b hT j (by omega)) ?_
          rintro v_ w_ ⟨rfl, rfl⟩ -
          refine am_eq_r (q' := (56, [some (.ref 16), some (.int s), some (.int (nI i))], [.int (b j), .int (s * 8)], wd (upd C.1 4 (nI j), C.2) Y og)) rfl ?_
          refine am_steps_r ok_R_readOctal 12 (q' := (4, [some (.ref 16), some (.int (((s * 8) + (b j)) - 48)), some (.int ((nI i) + 1))], [], wd (upd C.1 4 ((nI j) + 1), C.2) Y og)) rfl ?_
          rw [show ((nI j) + 1 : Int32) = nI (j + 1) from nI_add j 1]
          rw [show ((nI i) + 1 : Int32) = nI (i + 1) from nI_add i 1]
          refine ih post (i + 1) (j + 1) (s * 8 + b j - 48) (by omega) (by omega) ?_ (by omega)
          have hr : 48 ≤ b j ∧ b j ≤ 55 := ⟨Int32.not_lt.mp (by assumption), Int32.not_lt.mp (by assumption)⟩
          rw [show 3 - i = (3 - (i + 1)) + 1 by omega, ocV, ocE, if_pos hr, if_pos hr] at hp
          exact hp
set_option maxHeartbeats 400000 in
set_option maxRecDepth 100000 in
theorem c_R_readOctal (d : Nat) (C : wd_C) (Y : wd_Y) (og : Nat → Int64) (n : Nat) (b : Nat → Int32) (hT : tpC C n b) (k : Nat) (hk : k ≤ 2900) : am_Mt l D cA ad fm (d + 1) m_R_readOctal [.ref 16] (wd (upd C.1 4 (nI k), C.2) Y og) (fun vr w' => vr = some (.int (ocV b 3 k 0 &&& 255)) ∧ w' = wd (upd C.1 4 (nI (ocE b 3 k)), C.2) Y og) := by
  refine am_mt ok_R_readOctal (by simp [am_arg, Value.category, m_R_readOctal, am_ml]) ?_
  refine am_eq_r (q' := (0, [some (.ref 16), none, none], [], wd (upd C.1 4 (nI k), C.2) Y og)) rfl ?_
  refine am_steps_r ok_R_readOctal 4 (q' := (4, [some (.ref 16), some (.int 0), some (.int 0)], [], wd (upd C.1 4 (nI k), C.2) Y og)) rfl ?_
  exact lp_R_readOctal_4 d C Y og n b hT 4 _ 0 k 0 (by omega) (by omega) ⟨rfl, rfl⟩ (by omega)
set_option maxHeartbeats 400000 in
set_option maxRecDepth 100000 in
theorem c_R_readEscape (d : Nat) (C : wd_C) (Y : wd_Y) (og : Nat → Int64) (n : Nat) (b : Nat → Int32) (hT : tpC C n b) (k : Nat) (ha : C.1 4 = nI k) (hk : k < n) : am_Mt l D cA ad fm (d + 2) m_R_readEscape [.ref 16] (wd C Y og) (fun vr w' => (b (k + 1) = -1 ∧ vr = some (.int (-2)) ∧ w' = wd (upd C.1 4 (nI (k + 1)), C.2) Y og) ∨ (¬ b (k + 1) = -1 ∧ isLE (b (k + 1)) = true ∧ vr = some (.int (-2)) ∧ w' = wd (upd C.1 4 (nI (leE b (k + 1))), C.2) Y og) ∨ (¬ b (k + 1) = -1 ∧ isLE (b (k + 1)) = false ∧ vr = some (.int (esV b (k + 1))) ∧ w' = wd (upd C.1 4 (nI (esE b (k + 1))), C.2) Y og)) := by
  have hn := hT.2.1
  refine am_mt ok_R_readEscape (by simp [am_arg, Value.category, m_R_readEscape, am_ml]) ?_
  refine am_eq_r (q' := (0, [some (.ref 16), none], [], wd C Y og)) rfl ?_
  refine am_steps_r ok_R_readEscape 10 (q' := (18, [some (.ref 16), none], [.int ((C.1 4) + 1), .ref 1], wd (upd C.1 4 ((C.1 4) + 1), C.2) Y og)) rfl ?_
  rw [show (C.1 4 : Int32) = nI k from ha]
  rw [show ((nI k) + 1 : Int32) = nI (k + 1) from nI_add k 1]
  refine am_callV_r (As := [.int (nI (k + 1))]) (rest := []) ok_R_readEscape rfl rfl ok_T_at oi_T_at lk_1_125 (Or.inl ⟨_, _, _, rfl, rfl, rfl⟩) rfl rfl (Nat.le_of_ble_eq_true rfl) (c_T_at _ (upd C.1 4 (nI (k + 1)), C.2) Y og n b hT (k + 1) (by omega)) ?_
  rintro v_ w_ ⟨rfl, rfl⟩ -
  refine am_eq_r (q' := (21, [some (.ref 16), none], [.int (b (k + 1))], wd (upd C.1 4 (nI (k + 1)), C.2) Y og)) rfl ?_
  refine am_steps_r ok_R_readEscape 4 (q' := (bif decide ((b (k + 1)) = (-1)) then 27 else 30, [some (.ref 16), some (.int (b (k + 1)))], [], wd (upd C.1 4 (nI (k + 1)), C.2) Y og)) rfl ?_
  refine am_br_r (fun h_2 => ?_) (fun h_2 => ?_)
  · skip
    refine am_steps_r ok_R_readEscape 1 (q' := (29, [some (.ref 16), some (.int (b (k + 1)))], [.int (-2)], wd (upd C.1 4 (nI (k + 1)), C.2) Y og)) rfl ?_
    refine am_iret_r ok_R_readEscape rfl rfl rfl ?_
    exact Or.inl ⟨by assumption, rfl, rfl⟩
  · skip
    refine am_steps_r ok_R_readEscape 1 (q' := (31, [some (.ref 16), some (.int (b (k + 1)))], [.int (b (k + 1))], wd (upd C.1 4 (nI (k + 1)), C.2) Y og)) rfl ?_
    refine am_callN_r (As := [.int (b (k + 1))]) (rest := []) ok_R_readEscape rfl rfl ok_S_isLineEnd os_S_isLineEnd ln_1_210 rfl rfl (Nat.le_of_ble_eq_true rfl) (c_S_isLineEnd _ (upd C.1 4 (nI (k + 1)), C.2) Y og (b (k + 1))) ?_
    rintro v_ w_ ⟨rfl, rfl⟩ -
    refine am_eq_r (q' := (34, [some (.ref 16), some (.int (b (k + 1)))], [.int (bz (isLE (b (k + 1))))], wd (upd C.1 4 (nI (k + 1)), C.2) Y og)) rfl ?_
    refine am_steps_r ok_R_readEscape 1 (q' := (bif decide ((bz (isLE (b (k + 1)))) = 0) then 55 else 37, [some (.ref 16), some (.int (b (k + 1)))], [], wd (upd C.1 4 (nI (k + 1)), C.2) Y og)) rfl ?_
    refine am_bz_r (fun h_4 => ?_) (fun h_4 => ?_)
    · skip
      refine am_steps_r ok_R_readEscape 5 (q' := (46, [some (.ref 16), some (.int (b (k + 1)))], [.int (nI (k + 1)), .ref 1, .ref 16], wd (upd C.1 4 (nI (k + 1)), C.2) Y og)) rfl ?_
      refine am_callV_r (As := [.int (nI (k + 1))]) (rest := [.ref 16]) ok_R_readEscape rfl rfl ok_T_behindLineEnd oi_T_behindLineEnd lk_1_213 (Or.inl ⟨_, _, _, rfl, rfl, rfl⟩) rfl rfl (Nat.le_of_ble_eq_true rfl) (c_T_behindLineEnd _ (upd C.1 4 (nI (k + 1)), C.2) Y og n b hT (k + 1) (by omega)) ?_
      rintro v_ w_ ⟨rfl, rfl⟩ -
      refine am_eq_r (q' := (49, [some (.ref 16), some (.int (b (k + 1)))], [.int (nI (leE b (k + 1))), .ref 16], wd (upd C.1 4 (nI (k + 1)), C.2) Y og)) rfl ?_
      refine am_steps_r ok_R_readEscape 2 (q' := (54, [some (.ref 16), some (.int (b (k + 1)))], [.int (-2)], wd (upd C.1 4 (nI (leE b (k + 1))), C.2) Y og)) rfl ?_
      refine am_iret_r ok_R_readEscape rfl rfl rfl ?_
      exact Or.inr (Or.inl ⟨by assumption, by assumption, rfl, rfl⟩)
    · skip
      refine am_steps_r ok_R_readEscape 3 (q' := (bif decide ((b (k + 1)) < 48) then 72 else 61, [some (.ref 16), some (.int (b (k + 1)))], [], wd (upd C.1 4 (nI (k + 1)), C.2) Y og)) rfl ?_
      refine am_br_r (fun h_6 => ?_) (fun h_6 => ?_)
      · skip
        refine am_steps_r ok_R_readEscape 7 (q' := (83, [some (.ref 16), some (.int (b (k + 1)))], [.int (b (k + 1))], wd (upd C.1 4 ((nI (k + 1)) + 1), C.2) Y og)) rfl ?_
        rw [show ((nI (k + 1)) + 1 : Int32) = nI ((k + 1) + 1) from nI_add (k + 1) 1]
        refine am_steps_r ok_R_readEscape 1 (q' := (am_tg 83 (Op.lookupswitch.offset [(98, 58), (102, 61), (110, 49), (114, 52), (116, 55)] 64 (b (k + 1)).toInt), [some (.ref 16), some (.int (b (k + 1)))], [], wd (upd C.1 4 (nI ((k + 1) + 1)), C.2) Y og)) rfl ?_
        refine am_sw_r (K := 98) (by decide) (fun h_7 => ?_) (fun h_7 => ?_)
        · skip
          refine am_eq_r (q' := (141, [some (.ref 16), some (.int (b (k + 1)))], [], wd (upd C.1 4 (nI ((k + 1) + 1)), C.2) Y og)) rfl ?_
          refine am_steps_r ok_R_readEscape 1 (q' := (143, [some (.ref 16), some (.int (b (k + 1)))], [.int 8], wd (upd C.1 4 (nI ((k + 1) + 1)), C.2) Y og)) rfl ?_
          refine am_iret_r ok_R_readEscape rfl rfl rfl ?_
          have hr : ¬ (48 ≤ b (k + 1) ∧ b (k + 1) ≤ 55) := fun z => by first | exact absurd (Int32.lt_of_lt_of_le (by assumption) z.1) Int32.lt_irrefl | exact absurd (Int32.lt_of_lt_of_le (by assumption) z.2) Int32.lt_irrefl
          refine Or.inr (Or.inr ⟨by assumption, by assumption, ?_, ?_⟩)
          · rw [esV, if_neg hr]
            simp [esM, *]
          · rw [esE, if_neg hr]
        · skip
          refine am_sw_r (K := 102) (by decide) (fun h_8 => ?_) (fun h_8 => ?_)
          · skip
            refine am_eq_r (q' := (144, [some (.ref 16), some (.int (b (k + 1)))], [], wd (upd C.1 4 (nI ((k + 1) + 1)), C.2) Y og)) rfl ?_
            refine am_steps_r ok_R_readEscape 1 (q' := (146, [some (.ref 16), some (.int (b (k + 1)))], [.int 12], wd (upd C.1 4 (nI ((k + 1) + 1)), C.2) Y og)) rfl ?_
            refine am_iret_r ok_R_readEscape rfl rfl rfl ?_
            have hr : ¬ (48 ≤ b (k + 1) ∧ b (k + 1) ≤ 55) := fun z => by first | exact absurd (Int32.lt_of_lt_of_le (by assumption) z.1) Int32.lt_irrefl | exact absurd (Int32.lt_of_lt_of_le (by assumption) z.2) Int32.lt_irrefl
            refine Or.inr (Or.inr ⟨by assumption, by assumption, ?_, ?_⟩)
            · rw [esV, if_neg hr]
              simp [esM, *]
            · rw [esE, if_neg hr]
          · skip
            refine am_sw_r (K := 110) (by decide) (fun h_9 => ?_) (fun h_9 => ?_)
            · skip
              refine am_eq_r (q' := (132, [some (.ref 16), some (.int (b (k + 1)))], [], wd (upd C.1 4 (nI ((k + 1) + 1)), C.2) Y og)) rfl ?_
              refine am_steps_r ok_R_readEscape 1 (q' := (134, [some (.ref 16), some (.int (b (k + 1)))], [.int 10], wd (upd C.1 4 (nI ((k + 1) + 1)), C.2) Y og)) rfl ?_
              refine am_iret_r ok_R_readEscape rfl rfl rfl ?_
              have hr : ¬ (48 ≤ b (k + 1) ∧ b (k + 1) ≤ 55) := fun z => by first | exact absurd (Int32.lt_of_lt_of_le (by assumption) z.1) Int32.lt_irrefl | exact absurd (Int32.lt_of_lt_of_le (by assumption) z.2) Int32.lt_irrefl
              refine Or.inr (Or.inr ⟨by assumption, by assumption, ?_, ?_⟩)
              · rw [esV, if_neg hr]
                simp [esM, *]
              · rw [esE, if_neg hr]
            · skip
              refine am_sw_r (K := 114) (by decide) (fun h_10 => ?_) (fun h_10 => ?_)
              · skip
                refine am_eq_r (q' := (135, [some (.ref 16), some (.int (b (k + 1)))], [], wd (upd C.1 4 (nI ((k + 1) + 1)), C.2) Y og)) rfl ?_
                refine am_steps_r ok_R_readEscape 1 (q' := (137, [some (.ref 16), some (.int (b (k + 1)))], [.int 13], wd (upd C.1 4 (nI ((k + 1) + 1)), C.2) Y og)) rfl ?_
                refine am_iret_r ok_R_readEscape rfl rfl rfl ?_
                have hr : ¬ (48 ≤ b (k + 1) ∧ b (k + 1) ≤ 55) := fun z => by first | exact absurd (Int32.lt_of_lt_of_le (by assumption) z.1) Int32.lt_irrefl | exact absurd (Int32.lt_of_lt_of_le (by assumption) z.2) Int32.lt_irrefl
                refine Or.inr (Or.inr ⟨by assumption, by assumption, ?_, ?_⟩)
                · rw [esV, if_neg hr]
                  simp [esM, *]
                · rw [esE, if_neg hr]
              · skip
                refine am_sw_r (K := 116) (by decide) (fun h_11 => ?_) (fun h_11 => ?_)
                · skip
                  refine am_eq_r (q' := (138, [some (.ref 16), some (.int (b (k + 1)))], [], wd (upd C.1 4 (nI ((k + 1) + 1)), C.2) Y og)) rfl ?_
                  refine am_steps_r ok_R_readEscape 1 (q' := (140, [some (.ref 16), some (.int (b (k + 1)))], [.int 9], wd (upd C.1 4 (nI ((k + 1) + 1)), C.2) Y og)) rfl ?_
                  refine am_iret_r ok_R_readEscape rfl rfl rfl ?_
                  have hr : ¬ (48 ≤ b (k + 1) ∧ b (k + 1) ≤ 55) := fun z => by first | exact absurd (Int32.lt_of_lt_of_le (by assumption) z.1) Int32.lt_irrefl | exact absurd (Int32.lt_of_lt_of_le (by assumption) z.2) Int32.lt_irrefl
                  refine Or.inr (Or.inr ⟨by assumption, by assumption, ?_, ?_⟩)
                  · rw [esV, if_neg hr]
                    simp [esM, *]
                  · rw [esE, if_neg hr]
                · skip
                  refine am_eq_r (q' := (147, [some (.ref 16), some (.int (b (k + 1)))], [], wd (upd C.1 4 (nI ((k + 1) + 1)), C.2) Y og)) rfl ?_
                  refine am_steps_r ok_R_readEscape 1 (q' := (148, [some (.ref 16), some (.int (b (k + 1)))], [.int (b (k + 1))], wd (upd C.1 4 (nI ((k + 1) + 1)), C.2) Y og)) rfl ?_
                  refine am_iret_r ok_R_readEscape rfl rfl rfl ?_
                  have hr : ¬ (48 ≤ b (k + 1) ∧ b (k + 1) ≤ 55) := fun z => by first | exact absurd (Int32.lt_of_lt_of_le (by assumption) z.1) Int32.lt_irrefl | exact absurd (Int32.lt_of_lt_of_le (by assumption) z.2) Int32.lt_irrefl
                  refine Or.inr (Or.inr ⟨by assumption, by assumption, ?_, ?_⟩)
                  · rw [esV, if_neg hr]
                    simp [esM, *]
                  · rw [esE, if_neg hr]
      · skip
        refine am_steps_r ok_R_readEscape 3 (q' := (bif decide (55 < (b (k + 1))) then 72 else 67, [some (.ref 16), some (.int (b (k + 1)))], [], wd (upd C.1 4 (nI (k + 1)), C.2) Y og)) rfl ?_
        refine am_br_r (fun h_12 => ?_) (fun h_12 => ?_)
        · skip
          refine am_steps_r ok_R_readEscape 7 (q' := (83, [some (.ref 16), some (.int (b (k + 1)))], [.int (b (k + 1))], wd (upd C.1 4 ((nI (k + 1)) + 1), C.2) Y og)) rfl ?_
          rw [show ((nI (k + 1)) + 1 : Int32) = nI ((k + 1) + 1) from nI_add (k + 1) 1]
          refine am_steps_r ok_R_readEscape 1 (q' := (am_tg 83 (Op.lookupswitch.offset [(98, 58), (102, 61), (110, 49), (114, 52), (116, 55)] 64 (b (k + 1)).toInt), [some (.ref 16), some (.int (b (k + 1)))], [], wd (upd C.1 4 (nI ((k + 1) + 1)), C.2) Y og)) rfl ?_
          refine am_sw_r (K := 98) (by decide) (fun h_13 => ?_) (fun h_13 => ?_)
          · skip
            refine am_eq_r (q' := (141, [some (.ref 16), some (.int (b (k + 1)))], [], wd (upd C.1 4 (nI ((k + 1) + 1)), C.2) Y og)) rfl ?_
            refine am_steps_r ok_R_readEscape 1 (q' := (143, [some (.ref 16), some (.int (b (k + 1)))], [.int 8], wd (upd C.1 4 (nI ((k + 1) + 1)), C.2) Y og)) rfl ?_
            refine am_iret_r ok_R_readEscape rfl rfl rfl ?_
            have hr : ¬ (48 ≤ b (k + 1) ∧ b (k + 1) ≤ 55) := fun z => by first | exact absurd (Int32.lt_of_lt_of_le (by assumption) z.1) Int32.lt_irrefl | exact absurd (Int32.lt_of_lt_of_le (by assumption) z.2) Int32.lt_irrefl
            refine Or.inr (Or.inr ⟨by assumption, by assumption, ?_, ?_⟩)
            · rw [esV, if_neg hr]
              simp [esM, *]
            · rw [esE, if_neg hr]
          · skip
            refine am_sw_r (K := 102) (by decide) (fun h_14 => ?_) (fun h_14 => ?_)
            · skip
              refine am_eq_r (q' := (144, [some (.ref 16), some (.int (b (k + 1)))], [], wd (upd C.1 4 (nI ((k + 1) + 1)), C.2) Y og)) rfl ?_
              refine am_steps_r ok_R_readEscape 1 (q' := (146, [some (.ref 16), some (.int (b (k + 1)))], [.int 12], wd (upd C.1 4 (nI ((k + 1) + 1)), C.2) Y og)) rfl ?_
              refine am_iret_r ok_R_readEscape rfl rfl rfl ?_
              have hr : ¬ (48 ≤ b (k + 1) ∧ b (k + 1) ≤ 55) := fun z => by first | exact absurd (Int32.lt_of_lt_of_le (by assumption) z.1) Int32.lt_irrefl | exact absurd (Int32.lt_of_lt_of_le (by assumption) z.2) Int32.lt_irrefl
              refine Or.inr (Or.inr ⟨by assumption, by assumption, ?_, ?_⟩)
              · rw [esV, if_neg hr]
                simp [esM, *]
              · rw [esE, if_neg hr]
            · skip
              refine am_sw_r (K := 110) (by decide) (fun h_15 => ?_) (fun h_15 => ?_)
              · skip
                refine am_eq_r (q' := (132, [some (.ref 16), some (.int (b (k + 1)))], [], wd (upd C.1 4 (nI ((k + 1) + 1)), C.2) Y og)) rfl ?_
                refine am_steps_r ok_R_readEscape 1 (q' := (134, [some (.ref 16), some (.int (b (k + 1)))], [.int 10], wd (upd C.1 4 (nI ((k + 1) + 1)), C.2) Y og)) rfl ?_
                refine am_iret_r ok_R_readEscape rfl rfl rfl ?_
                have hr : ¬ (48 ≤ b (k + 1) ∧ b (k + 1) ≤ 55) := fun z => by first | exact absurd (Int32.lt_of_lt_of_le (by assumption) z.1) Int32.lt_irrefl | exact absurd (Int32.lt_of_lt_of_le (by assumption) z.2) Int32.lt_irrefl
                refine Or.inr (Or.inr ⟨by assumption, by assumption, ?_, ?_⟩)
                · rw [esV, if_neg hr]
                  simp [esM, *]
                · rw [esE, if_neg hr]
              · skip
                refine am_sw_r (K := 114) (by decide) (fun h_16 => ?_) (fun h_16 => ?_)
                · skip
                  refine am_eq_r (q' := (135, [some (.ref 16), some (.int (b (k + 1)))], [], wd (upd C.1 4 (nI ((k + 1) + 1)), C.2) Y og)) rfl ?_
                  refine am_steps_r ok_R_readEscape 1 (q' := (137, [some (.ref 16), some (.int (b (k + 1)))], [.int 13], wd (upd C.1 4 (nI ((k + 1) + 1)), C.2) Y og)) rfl ?_
                  refine am_iret_r ok_R_readEscape rfl rfl rfl ?_
                  have hr : ¬ (48 ≤ b (k + 1) ∧ b (k + 1) ≤ 55) := fun z => by first | exact absurd (Int32.lt_of_lt_of_le (by assumption) z.1) Int32.lt_irrefl | exact absurd (Int32.lt_of_lt_of_le (by assumption) z.2) Int32.lt_irrefl
                  refine Or.inr (Or.inr ⟨by assumption, by assumption, ?_, ?_⟩)
                  · rw [esV, if_neg hr]
                    simp [esM, *]
                  · rw [esE, if_neg hr]
                · skip
                  refine am_sw_r (K := 116) (by decide) (fun h_17 => ?_) (fun h_17 => ?_)
                  · skip
                    refine am_eq_r (q' := (138, [some (.ref 16), some (.int (b (k + 1)))], [], wd (upd C.1 4 (nI ((k + 1) + 1)), C.2) Y og)) rfl ?_
                    refine am_steps_r ok_R_readEscape 1 (q' := (140, [some (.ref 16), some (.int (b (k + 1)))], [.int 9], wd (upd C.1 4 (nI ((k + 1) + 1)), C.2) Y og)) rfl ?_
                    refine am_iret_r ok_R_readEscape rfl rfl rfl ?_
                    have hr : ¬ (48 ≤ b (k + 1) ∧ b (k + 1) ≤ 55) := fun z => by first | exact absurd (Int32.lt_of_lt_of_le (by assumption) z.1) Int32.lt_irrefl | exact absurd (Int32.lt_of_lt_of_le (by assumption) z.2) Int32.lt_irrefl
                    refine Or.inr (Or.inr ⟨by assumption, by assumption, ?_, ?_⟩)
                    · rw [esV, if_neg hr]
                      simp [esM, *]
                    · rw [esE, if_neg hr]
                  · skip
                    refine am_eq_r (q' := (147, [some (.ref 16), some (.int (b (k + 1)))], [], wd (upd C.1 4 (nI ((k + 1) + 1)), C.2) Y og)) rfl ?_
                    refine am_steps_r ok_R_readEscape 1 (q' := (148, [some (.ref 16), some (.int (b (k + 1)))], [.int (b (k + 1))], wd (upd C.1 4 (nI ((k + 1) + 1)), C.2) Y og)) rfl ?_
                    refine am_iret_r ok_R_readEscape rfl rfl rfl ?_
                    have hr : ¬ (48 ≤ b (k + 1) ∧ b (k + 1) ≤ 55) := fun z => by first | exact absurd (Int32.lt_of_lt_of_le (by assumption) z.1) Int32.lt_irrefl | exact absurd (Int32.lt_of_lt_of_le (by assumption) z.2) Int32.lt_irrefl
                    refine Or.inr (Or.inr ⟨by assumption, by assumption, ?_, ?_⟩)
                    · rw [esV, if_neg hr]
                      simp [esM, *]
                    · rw [esE, if_neg hr]
        · skip
          refine am_steps_r ok_R_readEscape 1 (q' := (68, [some (.ref 16), some (.int (b (k + 1)))], [.ref 16], wd (upd C.1 4 (nI (k + 1)), C.2) Y og)) rfl ?_
          refine am_callV_r (As := []) (rest := []) ok_R_readEscape rfl rfl ok_R_readOctal oi_R_readOctal lk_1_216 (Or.inl ⟨_, _, _, rfl, rfl, rfl⟩) rfl rfl (Nat.le_of_ble_eq_true rfl) (c_R_readOctal _ C Y og n b hT (k + 1) (by omega)) ?_
          rintro v_ w_ ⟨rfl, rfl⟩ -
          refine am_eq_r (q' := (71, [some (.ref 16), some (.int (b (k + 1)))], [.int (ocV b 3 (k + 1) 0 &&& 255)], wd (upd C.1 4 (nI (ocE b 3 (k + 1))), C.2) Y og)) rfl ?_
          refine am_iret_r ok_R_readEscape rfl rfl rfl ?_
          refine Or.inr (Or.inr ⟨by assumption, by assumption, ?_, ?_⟩)
          · rw [esV, if_pos ⟨Int32.not_lt.mp (by assumption), Int32.not_lt.mp (by assumption)⟩]
          · rw [esE, if_pos ⟨Int32.not_lt.mp (by assumption), Int32.not_lt.mp (by assumption)⟩]
set_option maxHeartbeats 400000 in
set_option maxRecDepth 100000 in
theorem lp_R_readString_30 (d : Nat) (Y : wd_Y) (og : Nat → Int64) (n : Nat) (b : Nat → Int32) (C0 : wd_C) (hT0 : tpC C0 n b) (nv u : Nat) (V : VT) (p : Nat) (hp : p < n) (hup : u ≤ p)  : ∀ (fu : Nat) (post : Option Value → am_W → Prop) (C : wd_C) (k : Nat) (st : Nat) (oo : Nat) (acc : List Int32), (lfC C0 C nv u V 5 0 acc) → (C.1 4 = nI k) → (p + 1 + st ≤ k) → (k ≤ n) → (1 ≤ oo ∧ oo ≤ k + 1) → (u + acc.length < k) → (∀ vr w', lfP C0 Y og nv u V (rdR n b p fu k oo acc) vr w' → post vr w') → n - k < fu → am_Rn l D cA ad fm (d + 3) m_R_readString (wd C Y og).length post (30, [some (.ref 16), some (.int (nI nv)), some (.int (nI p)), some (.int (nI oo)), some (.int (nI st)), none, none], [], wd C Y og) := by
  intro fu
  induction fu with
  | zero => intro post C k st oo acc hL ha hk hkn ho hacc hpo hfu; exact absurd hfu (Nat.not_lt_zero _)
  | succ fu ih =>
    intro post C k st oo acc hL ha hk hkn ho hacc hpo hfu
    have hT := tpC_f hT0 hL.2.2.1
    have hn := hT.2.1
    have hal := hL.1.1.2.1
    refine am_steps_r ok_R_readString 3 (q' := (bif decide (1600 ≤ (nI st)) then 204 else 38, [some (.ref 16), some (.int (nI nv)), some (.int (nI p)), some (.int (nI oo)), some (.int (nI st)), none, none], [], wd C Y og)) rfl ?_
    refine am_br_r (fun h_1 => ?_) (fun h_1 => ?_)
    · skip
      have h_1 : 1600 ≤ st := (nI_leI (show 1600 < 2 ^ 31 by omega) (show st < 2 ^ 31 by omega)).mp h_1
      refine am_steps_r ok_R_readString 4 (q' := (210, [some (.ref 16), some (.int (nI nv)), some (.int (nI p)), some (.int (nI oo)), some (.int (nI st)), none, none], [.ref 1, .int 1, .ref 16], wd C Y og)) rfl ?_
      refine am_callV_r (As := []) (rest := [.int 1, .ref 16]) ok_R_readString rfl rfl ok_T_size oi_T_size lk_1_62 (Or.inl ⟨_, _, _, rfl, rfl, rfl⟩) rfl rfl (Nat.le_of_ble_eq_true rfl) (c_T_size _ C Y og n b hT) ?_
      rintro v_ w_ ⟨rfl, rfl⟩ -
      refine am_eq_r (q' := (213, [some (.ref 16), some (.int (nI nv)), some (.int (nI p)), some (.int (nI oo)), some (.int (nI st)), none, none], [.int (nI n), .int 1, .ref 16], wd C Y og)) rfl ?_
      refine am_callV_r (As := [.int 1, .int (nI n)]) (rest := []) ok_R_readString rfl rfl ok_R_fail oi_R_fail lk_1_122 (Or.inl ⟨_, _, _, rfl, rfl, rfl⟩) rfl rfl (Nat.le_of_ble_eq_true rfl) (c_R_fail _ C Y og 1 (nI n)) ?_
      rintro v_ w_ ⟨rfl, rfl⟩ -
      refine am_eq_r (q' := (216, [some (.ref 16), some (.int (nI nv)), some (.int (nI p)), some (.int (nI oo)), some (.int (nI st)), none, none], [.int (-1)], wd (upd (upd C.1 5 1) 6 (nI n), C.2) Y og)) rfl ?_
      refine am_iret_r ok_R_readString rfl rfl rfl ?_
      first | (exfalso; omega) | (refine hpo _ _ ?_; rw [rdR_out (by omega)]; exact lfP_bad hL 1 n)
    · skip
      have h_1 : ¬ 1600 ≤ st := fun z => h_1 ((nI_leI (show 1600 < 2 ^ 31 by omega) (show st < 2 ^ 31 by omega)).mpr z)
      refine am_steps_r ok_R_readString 4 (q' := (46, [some (.ref 16), some (.int (nI nv)), some (.int (nI p)), some (.int (nI oo)), some (.int (nI st)), none, none], [.ref 1, .int (C.1 4)], wd C Y og)) rfl ?_
      rw [show (C.1 4 : Int32) = nI k from ha]
      refine am_callV_r (As := []) (rest := [.int (nI k)]) ok_R_readString rfl rfl ok_T_size oi_T_size lk_1_62 (Or.inl ⟨_, _, _, rfl, rfl, rfl⟩) rfl rfl (Nat.le_of_ble_eq_true rfl) (c_T_size _ C Y og n b hT) ?_
      rintro v_ w_ ⟨rfl, rfl⟩ -
      refine am_eq_r (q' := (49, [some (.ref 16), some (.int (nI nv)), some (.int (nI p)), some (.int (nI oo)), some (.int (nI st)), none, none], [.int (nI n), .int (nI k)], wd C Y og)) rfl ?_
      refine am_steps_r ok_R_readString 1 (q' := (bif decide ((nI n) ≤ (nI k)) then 204 else 52, [some (.ref 16), some (.int (nI nv)), some (.int (nI p)), some (.int (nI oo)), some (.int (nI st)), none, none], [], wd C Y og)) rfl ?_
      refine am_br_r (fun h_5 => ?_) (fun h_5 => ?_)
      · skip
        have h_5 : n ≤ k := (nI_leI (show n < 2 ^ 31 by omega) (show k < 2 ^ 31 by omega)).mp h_5
        refine am_steps_r ok_R_readString 4 (q' := (210, [some (.ref 16), some (.int (nI nv)), some (.int (nI p)), some (.int (nI oo)), some (.int (nI st)), none, none], [.ref 1, .int 1, .ref 16], wd C Y og)) rfl ?_
        refine am_callV_r (As := []) (rest := [.int 1, .ref 16]) ok_R_readString rfl rfl ok_T_size oi_T_size lk_1_62 (Or.inl ⟨_, _, _, rfl, rfl, rfl⟩) rfl rfl (Nat.le_of_ble_eq_true rfl) (c_T_size _ C Y og n b hT) ?_
        rintro v_ w_ ⟨rfl, rfl⟩ -
        refine am_eq_r (q' := (213, [some (.ref 16), some (.int (nI nv)), some (.int (nI p)), some (.int (nI oo)), some (.int (nI st)), none, none], [.int (nI n), .int 1, .ref 16], wd C Y og)) rfl ?_
        refine am_callV_r (As := [.int 1, .int (nI n)]) (rest := []) ok_R_readString rfl rfl ok_R_fail oi_R_fail lk_1_122 (Or.inl ⟨_, _, _, rfl, rfl, rfl⟩) rfl rfl (Nat.le_of_ble_eq_true rfl) (c_R_fail _ C Y og 1 (nI n)) ?_
        rintro v_ w_ ⟨rfl, rfl⟩ -
        refine am_eq_r (q' := (216, [some (.ref 16), some (.int (nI nv)), some (.int (nI p)), some (.int (nI oo)), some (.int (nI st)), none, none], [.int (-1)], wd (upd (upd C.1 5 1) 6 (nI n), C.2) Y og)) rfl ?_
        refine am_iret_r ok_R_readString rfl rfl rfl ?_
        first | (exfalso; omega) | (refine hpo _ _ ?_; rw [rdR_out (by omega)]; exact lfP_bad hL 1 n)
      · skip
        have h_5 : ¬ n ≤ k := fun z => h_5 ((nI_leI (show n < 2 ^ 31 by omega) (show k < 2 ^ 31 by omega)).mpr z)
        refine am_steps_r ok_R_readString 4 (q' := (60, [some (.ref 16), some (.int (nI nv)), some (.int (nI p)), some (.int (nI oo)), some (.int (nI st)), none, none], [.int (C.1 4), .ref 1], wd C Y og)) rfl ?_
        rw [show (C.1 4 : Int32) = nI k from ha]
        refine am_callV_r (As := [.int (nI k)]) (rest := []) ok_R_readString rfl rfl ok_T_at oi_T_at lk_1_125 (Or.inl ⟨_, _, _, rfl, rfl, rfl⟩) rfl rfl (Nat.le_of_ble_eq_true rfl) (c_T_at _ C Y og n b hT k (by omega)) ?_
        rintro v_ w_ ⟨rfl, rfl⟩ -
        refine am_eq_r (q' := (63, [some (.ref 16), some (.int (nI nv)), some (.int (nI p)), some (.int (nI oo)), some (.int (nI st)), none, none], [.int (b k)], wd C Y og)) rfl ?_
        refine am_steps_r ok_R_readString 4 (q' := (bif decide ((b k) = 41) then 72 else 89, [some (.ref 16), some (.int (nI nv)), some (.int (nI p)), some (.int (nI oo)), some (.int (nI st)), some (.int (b k)), none], [], wd C Y og)) rfl ?_
        refine am_br_r (fun h_9 => ?_) (fun h_9 => ?_)
        · skip
          refine am_steps_r ok_R_readString 3 (q' := (bif decide ((nI oo) = 1) then 77 else 89, [some (.ref 16), some (.int (nI nv)), some (.int (nI p)), some (.int (nI oo)), some (.int (nI st)), some (.int (b k)), none], [], wd C Y og)) rfl ?_
          refine am_br_r (fun h_10 => ?_) (fun h_10 => ?_)
          · skip
            have h_10 : oo = 1 := (nI_eq (show oo < 2 ^ 31 by omega) (show 1 < 2 ^ 31 by omega)).mp h_10
            refine am_steps_r ok_R_readString 7 (q' := (88, [some (.ref 16), some (.int (nI nv)), some (.int (nI p)), some (.int (nI oo)), some (.int (nI st)), some (.int (b k)), none], [.int (nI nv)], wd (upd C.1 4 ((C.1 4) + 1), C.2) Y og)) rfl ?_
            rw [show (C.1 4 : Int32) = nI k from ha]
            rw [show ((nI k) + 1 : Int32) = nI (k + 1) from nI_add k 1]
            refine am_iret_r ok_R_readString rfl rfl rfl ?_
            refine hpo _ _ ?_
            rw [rdR_cls (by omega) (by assumption) (by omega)]
            exact lfP_ok (C := (upd C.1 4 (nI (k + 1)), C.2)) hL rfl
          · skip
            have h_10 : ¬ oo = 1 := fun z => h_10 ((nI_eq (show oo < 2 ^ 31 by omega) (show 1 < 2 ^ 31 by omega)).mpr z)
            refine am_steps_r ok_R_readString 5 (q' := (bif decide ((b k) = 92) then 100 else 109, [some (.ref 16), some (.int (nI nv)), some (.int (nI p)), some (.int (nI oo)), some (.int (nI st)), some (.int (b k)), some (.int (b k))], [], wd C Y og)) rfl ?_
            refine am_br_r (fun h_11 => ?_) (fun h_11 => ?_)
            · skip
              exact absurd ((show (b k) = 41 by assumption).symm.trans (show (b k) = 92 by assumption)) (by decide)
            · skip
              refine am_steps_r ok_R_readString 1 (q' := (111, [some (.ref 16), some (.int (nI nv)), some (.int (nI p)), some (.int (nI oo)), some (.int (nI st)), some (.int (b k)), some (.int (b k))], [.int (b k)], wd C Y og)) rfl ?_
              refine am_callN_r (As := [.int (b k)]) (rest := []) ok_R_readString rfl rfl ok_S_isLineEnd os_S_isLineEnd ln_1_210 rfl rfl (Nat.le_of_ble_eq_true rfl) (c_S_isLineEnd _ C Y og (b k)) ?_
              rintro v_ w_ ⟨rfl, rfl⟩ -
              refine am_eq_r (q' := (114, [some (.ref 16), some (.int (nI nv)), some (.int (nI p)), some (.int (nI oo)), some (.int (nI st)), some (.int (b k)), some (.int (b k))], [.int (bz (isLE (b k)))], wd C Y og)) rfl ?_
              refine am_steps_r ok_R_readString 1 (q' := (bif decide ((bz (isLE (b k))) = 0) then 139 else 117, [some (.ref 16), some (.int (nI nv)), some (.int (nI p)), some (.int (nI oo)), some (.int (nI st)), some (.int (b k)), some (.int (b k))], [], wd C Y og)) rfl ?_
              refine am_bz_r (fun h_13 => ?_) (fun h_13 => ?_)
              · skip
                refine am_steps_r ok_R_readString 7 (q' := (130, [some (.ref 16), some (.int (nI nv)), some (.int (nI p)), some (.int (nI oo)), some (.int (nI st)), some (.int (b k)), some (.int 10)], [.int (C.1 4), .ref 1, .ref 16], wd C Y og)) rfl ?_
                rw [show (C.1 4 : Int32) = nI k from ha]
                have hat := leE_in hT.2.2.2 (b := b) (k := k) (by assumption)
                refine am_callV_r (As := [.int (nI k)]) (rest := [.ref 16]) ok_R_readString rfl rfl ok_T_behindLineEnd oi_T_behindLineEnd lk_1_213 (Or.inl ⟨_, _, _, rfl, rfl, rfl⟩) rfl rfl (Nat.le_of_ble_eq_true rfl) (c_T_behindLineEnd _ C Y og n b hT k (by omega)) ?_
                rintro v_ w_ ⟨rfl, rfl⟩ -
                refine am_eq_r (q' := (133, [some (.ref 16), some (.int (nI nv)), some (.int (nI p)), some (.int (nI oo)), some (.int (nI st)), some (.int (b k)), some (.int 10)], [.int (nI (leE b k)), .ref 16], wd C Y og)) rfl ?_
                refine am_steps_r ok_R_readString 10 (q' := (190, [some (.ref 16), some (.int (nI nv)), some (.int (nI p)), some (.int (nI oo)), some (.int (nI st)), some (.int (b k)), some (.int 10)], [.int (nI p), .int 200, .int 10, .int (nI nv), .ref 16], wd (upd C.1 4 (nI (leE b k)), C.2) Y og)) rfl ?_
                refine am_callV_r (As := [.int (nI nv), .int 10, .int 200, .int (nI p)]) (rest := []) ok_R_readString rfl rfl ok_R_putByte oi_R_putByte lk_1_196 (Or.inl ⟨_, _, _, rfl, rfl, rfl⟩) rfl rfl (Nat.le_of_ble_eq_true rfl) (c_R_putByte _ (upd C.1 4 (nI (leE b k)), C.2) Y og C0 nv u V _ _ acc hL (by omega) 10 ⟨10, by omega, rfl⟩ 200 (by omega) p (leE b k) (by first | rfl | exact ha)) ?_
                rintro v_ w_ (⟨q_18, rfl, C_15, rfl, ha_16, hL_17⟩ | ⟨q_18, rfl, rfl⟩) -
                · skip
                  have hT := tpC_f hT0 hL_17.2.2.1
                  refine am_eq_r (q' := (193, [some (.ref 16), some (.int (nI nv)), some (.int (nI p)), some (.int (nI oo)), some (.int (nI st)), some (.int (b k)), some (.int 10)], [.int 1], wd C_15 Y og)) rfl ?_
                  refine am_steps_r ok_R_readString 3 (q' := (30, [some (.ref 16), some (.int (nI nv)), some (.int (nI p)), some (.int (nI oo)), some (.int ((nI st) + 1)), some (.int (b k)), some (.int 10)], [], wd C_15 Y og)) rfl ?_
                  rw [show ((nI st) + 1 : Int32) = nI (st + 1) from nI_add st 1]
                  refine am_drop_r [5, 6] (L' := [some (.ref 16), some (.int (nI nv)), some (.int (nI p)), some (.int (nI oo)), some (.int (nI (st + 1))), none, none]) rfl ?_
                  refine ih post C_15 ((leE b k)) (st + 1) (oo) (acc ++ [10]) hL_17 ha_16 (by omega) (by omega) (by omega) (by simp; omega) (fun vr w' hw => hpo vr w' ?_) (by omega)
                  first | rw [rdR_le (by omega) (by rintro ⟨z1, z2⟩; first | contradiction | omega) (by assumption) (by omega) (by assumption)] | rw [rdR_40 (by omega) (by omega) (by assumption)] | rw [rdR_41 (by omega) (by omega) (by omega) (by assumption)] | rw [rdR_pl (by omega) (by assumption) (by omega) (by assumption) (by assumption) (by assumption)]
                  exact hw
                · skip
                  refine am_eq_r (q' := (193, [some (.ref 16), some (.int (nI nv)), some (.int (nI p)), some (.int (nI oo)), some (.int (nI st)), some (.int (b k)), some (.int 10)], [.int 0], wd (upd (upd (upd C.1 4 (nI (leE b k))) 5 3) 6 (nI p), C.2) Y og)) rfl ?_
                  refine am_steps_r ok_R_readString 2 (q' := (197, [some (.ref 16), some (.int (nI nv)), some (.int (nI p)), some (.int (nI oo)), some (.int (nI st)), some (.int (b k)), some (.int 10)], [.int (-1)], wd (upd (upd (upd C.1 4 (nI (leE b k))) 5 3) 6 (nI p), C.2) Y og)) rfl ?_
                  refine am_iret_r ok_R_readString rfl rfl rfl ?_
                  refine hpo _ _ ?_
                  rw [rdR_ful (by omega) (by rintro ⟨z1, z2⟩; first | contradiction | omega) (by assumption) (by omega)]
                  exact lfP_bad (C := (upd C.1 4 (nI (leE b k)), C.2)) hL 3 p
              · skip
                refine am_steps_r ok_R_readString 4 (q' := (bif decide ((b k) = 40) then 147 else 151, [some (.ref 16), some (.int (nI nv)), some (.int (nI p)), some (.int (nI oo)), some (.int (nI st)), some (.int (b k)), some (.int (b k))], [.int (nI oo)], wd C Y og)) rfl ?_
                refine am_br_r (fun h_19 => ?_) (fun h_19 => ?_)
                · skip
                  exact absurd ((show (b k) = 41 by assumption).symm.trans (show (b k) = 40 by assumption)) (by decide)
                · skip
                  refine am_steps_r ok_R_readString 3 (q' := (bif decide ((b k) = 41) then 158 else 162, [some (.ref 16), some (.int (nI nv)), some (.int (nI p)), some (.int (nI oo)), some (.int (nI st)), some (.int (b k)), some (.int (b k))], [.int (nI oo)], wd C Y og)) rfl ?_
                  refine am_br_r (fun h_20 => ?_) (fun h_20 => ?_)
                  · skip
                    refine am_steps_r ok_R_readString 13 (q' := (bif decide ((b k) = (-2)) then 198 else 182, [some (.ref 16), some (.int (nI nv)), some (.int (nI p)), some (.int ((nI oo) + (-1))), some (.int (nI st)), some (.int (b k)), some (.int (b k))], [], wd (upd C.1 4 ((C.1 4) + 1), C.2) Y og)) rfl ?_
                    rw [show (C.1 4 : Int32) = nI k from ha]
                    rw [show ((nI k) + 1 : Int32) = nI (k + 1) from nI_add k 1]
                    refine am_br_r (fun h_21 => ?_) (fun h_21 => ?_)
                    · skip
                      exact absurd ((show (b k) = 41 by assumption).symm.trans (show (b k) = (-2) by assumption)) (by decide)
                    · skip
                      refine am_steps_r ok_R_readString 5 (q' := (190, [some (.ref 16), some (.int (nI nv)), some (.int (nI p)), some (.int ((nI oo) + (-1))), some (.int (nI st)), some (.int (b k)), some (.int (b k))], [.int (nI p), .int 200, .int (b k), .int (nI nv), .ref 16], wd (upd C.1 4 (nI (k + 1)), C.2) Y og)) rfl ?_
                      refine am_callV_r (As := [.int (nI nv), .int (b k), .int 200, .int (nI p)]) (rest := []) ok_R_readString rfl rfl ok_R_putByte oi_R_putByte lk_1_196 (Or.inl ⟨_, _, _, rfl, rfl, rfl⟩) rfl rfl (Nat.le_of_ble_eq_true rfl) (c_R_putByte _ (upd C.1 4 (nI (k + 1)), C.2) Y og C0 nv u V _ _ acc hL (by omega) (b k) (tpC_B hT (by omega)) 200 (by omega) p (k + 1) (by first | rfl | exact ha)) ?_
                      rintro v_ w_ (⟨q_25, rfl, C_22, rfl, ha_23, hL_24⟩ | ⟨q_25, rfl, rfl⟩) -
                      · skip
                        have hT := tpC_f hT0 hL_24.2.2.1
                        refine am_eq_r (q' := (193, [some (.ref 16), some (.int (nI nv)), some (.int (nI p)), some (.int ((nI oo) + (-1))), some (.int (nI st)), some (.int (b k)), some (.int (b k))], [.int 1], wd C_22 Y og)) rfl ?_
                        refine am_steps_r ok_R_readString 3 (q' := (30, [some (.ref 16), some (.int (nI nv)), some (.int (nI p)), some (.int ((nI oo) + (-1))), some (.int ((nI st) + 1)), some (.int (b k)), some (.int (b k))], [], wd C_22 Y og)) rfl ?_
                        rw [show ((nI st) + 1 : Int32) = nI (st + 1) from nI_add st 1]
                        refine am_drop_r [5, 6] (L' := [some (.ref 16), some (.int (nI nv)), some (.int (nI p)), some (.int ((nI oo) + (-1))), some (.int (nI (st + 1))), none, none]) rfl ?_
                        refine am_eq_r (q' := (30, [some (.ref 16), some (.int (nI nv)), some (.int (nI p)), some (.int (nI (oo - 1))), some (.int (nI (st + 1))), none, none], [], wd C_22 Y og)) (by rw [nI_m1 (a := oo) (by omega)]) ?_
                        refine ih post C_22 (k + 1) (st + 1) (oo - 1) (acc ++ [(b k)]) hL_24 ha_23 (by omega) (by omega) (by omega) (by simp; omega) (fun vr w' hw => hpo vr w' ?_) (by omega)
                        first | rw [rdR_le (by omega) (by rintro ⟨z1, z2⟩; first | contradiction | omega) (by assumption) (by omega) (by assumption)] | rw [rdR_40 (by omega) (by omega) (by assumption)] | rw [rdR_41 (by omega) (by omega) (by omega) (by assumption)] | rw [rdR_pl (by omega) (by assumption) (by omega) (by assumption) (by assumption) (by assumption)]
                        exact hw
                      · skip
                        refine am_eq_r (q' := (193, [some (.ref 16), some (.int (nI nv)), some (.int (nI p)), some (.int ((nI oo) + (-1))), some (.int (nI st)), some (.int (b k)), some (.int (b k))], [.int 0], wd (upd (upd (upd C.1 4 (nI (k + 1))) 5 3) 6 (nI p), C.2) Y og)) rfl ?_
                        refine am_steps_r ok_R_readString 2 (q' := (197, [some (.ref 16), some (.int (nI nv)), some (.int (nI p)), some (.int ((nI oo) + (-1))), some (.int (nI st)), some (.int (b k)), some (.int (b k))], [.int (-1)], wd (upd (upd (upd C.1 4 (nI (k + 1))) 5 3) 6 (nI p), C.2) Y og)) rfl ?_
                        refine am_iret_r ok_R_readString rfl rfl rfl ?_
                        refine hpo _ _ ?_
                        rw [rdR_ful (by omega) (by rintro ⟨z1, z2⟩; first | contradiction | omega) (by assumption) (by omega)]
                        exact lfP_bad (C := (upd C.1 4 (nI (k + 1)), C.2)) hL 3 p
                  · skip
                    first | contradiction | (exfalso; simp_all; done)
        · skip
          refine am_steps_r ok_R_readString 5 (q' := (bif decide ((b k) = 92) then 100 else 109, [some (.ref 16), some (.int (nI nv)), some (.int (nI p)), some (.int (nI oo)), some (.int (nI st)), some (.int (b k)), some (.int (b k))], [], wd C Y og)) rfl ?_
          refine am_br_r (fun h_26 => ?_) (fun h_26 => ?_)
          · skip
            refine am_steps_r ok_R_readString 1 (q' := (101, [some (.ref 16), some (.int (nI nv)), some (.int (nI p)), some (.int (nI oo)), some (.int (nI st)), some (.int (b k)), some (.int (b k))], [.ref 16], wd C Y og)) rfl ?_
            refine am_callV_r (As := []) (rest := []) ok_R_readString rfl rfl ok_R_readEscape oi_R_readEscape lk_1_207 (Or.inl ⟨_, _, _, rfl, rfl, rfl⟩) rfl rfl (Nat.le_of_ble_eq_true rfl) (c_R_readEscape _ C Y og n b hT k ha (by omega)) ?_
            rintro v_ w_ (⟨q_27, rfl, rfl⟩ | ⟨q_27, q_28, rfl, rfl⟩ | ⟨q_27, q_28, rfl, rfl⟩) -
            · skip
              have hk1 : n ≤ k + 1 := by
                rcases Nat.lt_or_ge (k + 1) n with g | g
                · obtain ⟨j, j1, j2⟩ := tpC_B hT g
                  rw [j2] at q_27
                  exact absurd q_27 (nI_nm (by omega))
                · exact g
              refine am_eq_r (q' := (104, [some (.ref 16), some (.int (nI nv)), some (.int (nI p)), some (.int (nI oo)), some (.int (nI st)), some (.int (b k)), some (.int (b k))], [.int (-2)], wd (upd C.1 4 (nI (k + 1)), C.2) Y og)) rfl ?_
              refine am_steps_r ok_R_readString 7 (q' := (30, [some (.ref 16), some (.int (nI nv)), some (.int (nI p)), some (.int (nI oo)), some (.int ((nI st) + 1)), some (.int (b k)), some (.int (-2))], [], wd (upd C.1 4 (nI (k + 1)), C.2) Y og)) rfl ?_
              rw [show ((nI st) + 1 : Int32) = nI (st + 1) from nI_add st 1]
              refine am_drop_r [5, 6] (L' := [some (.ref 16), some (.int (nI nv)), some (.int (nI p)), some (.int (nI oo)), some (.int (nI (st + 1))), none, none]) rfl ?_
              refine ih post (upd C.1 4 (nI (k + 1)), C.2) (k + 1) (st + 1) (oo) acc hL rfl (by omega) (by omega) (by omega) (by omega) (fun vr w' hw => hpo vr w' ?_) (by omega)
              rw [rdR_e1 (by omega) (by assumption) hk1]
              rw [rdR_out hk1] at hw
              exact hw
            · skip
              have hk1 : k + 1 < n := by
                rcases Nat.lt_or_ge (k + 1) n with g | g
                · exact g
                · exact absurd (hT.2.2.2 _ g) q_27
              have hat := leE_in hT.2.2.2 q_28
              refine am_eq_r (q' := (104, [some (.ref 16), some (.int (nI nv)), some (.int (nI p)), some (.int (nI oo)), some (.int (nI st)), some (.int (b k)), some (.int (b k))], [.int (-2)], wd (upd C.1 4 (nI (leE b (k + 1))), C.2) Y og)) rfl ?_
              refine am_steps_r ok_R_readString 7 (q' := (30, [some (.ref 16), some (.int (nI nv)), some (.int (nI p)), some (.int (nI oo)), some (.int ((nI st) + 1)), some (.int (b k)), some (.int (-2))], [], wd (upd C.1 4 (nI (leE b (k + 1))), C.2) Y og)) rfl ?_
              rw [show ((nI st) + 1 : Int32) = nI (st + 1) from nI_add st 1]
              refine am_drop_r [5, 6] (L' := [some (.ref 16), some (.int (nI nv)), some (.int (nI p)), some (.int (nI oo)), some (.int (nI (st + 1))), none, none]) rfl ?_
              refine ih post (upd C.1 4 (nI (leE b (k + 1))), C.2) ((leE b (k + 1))) (st + 1) (oo) acc hL rfl (by omega) (by omega) (by omega) (by omega) (fun vr w' hw => hpo vr w' ?_) (by omega)
              rw [rdR_e2 hk1 (by assumption) q_28]
              exact hw
            · skip
              have hk1 : k + 1 < n := by
                rcases Nat.lt_or_ge (k + 1) n with g | g
                · exact g
                · exact absurd (hT.2.2.2 _ g) q_27
              have hat := esE_le hT.2.2.2 hk1
              refine am_eq_r (q' := (104, [some (.ref 16), some (.int (nI nv)), some (.int (nI p)), some (.int (nI oo)), some (.int (nI st)), some (.int (b k)), some (.int (b k))], [.int (esV b (k + 1))], wd (upd C.1 4 (nI (esE b (k + 1))), C.2) Y og)) rfl ?_
              refine am_steps_r ok_R_readString 5 (q' := (bif decide ((esV b (k + 1)) = (-2)) then 198 else 182, [some (.ref 16), some (.int (nI nv)), some (.int (nI p)), some (.int (nI oo)), some (.int (nI st)), some (.int (b k)), some (.int (esV b (k + 1)))], [], wd (upd C.1 4 (nI (esE b (k + 1))), C.2) Y og)) rfl ?_
              refine am_br_r (fun h_29 => ?_) (fun h_29 => ?_)
              · skip
                exact absurd h_29 (isB_m2 (esV_B (tpC_B hT hk1)))
              · skip
                refine am_steps_r ok_R_readString 5 (q' := (190, [some (.ref 16), some (.int (nI nv)), some (.int (nI p)), some (.int (nI oo)), some (.int (nI st)), some (.int (b k)), some (.int (esV b (k + 1)))], [.int (nI p), .int 200, .int (esV b (k + 1)), .int (nI nv), .ref 16], wd (upd C.1 4 (nI (esE b (k + 1))), C.2) Y og)) rfl ?_
                refine am_callV_r (As := [.int (nI nv), .int (esV b (k + 1)), .int 200, .int (nI p)]) (rest := []) ok_R_readString rfl rfl ok_R_putByte oi_R_putByte lk_1_196 (Or.inl ⟨_, _, _, rfl, rfl, rfl⟩) rfl rfl (Nat.le_of_ble_eq_true rfl) (c_R_putByte _ (upd C.1 4 (nI (esE b (k + 1))), C.2) Y og C0 nv u V _ _ acc hL (by omega) (esV b (k + 1)) (esV_B (tpC_B hT hk1)) 200 (by omega) p (esE b (k + 1)) (by first | rfl | exact ha)) ?_
                rintro v_ w_ (⟨q_33, rfl, C_30, rfl, ha_31, hL_32⟩ | ⟨q_33, rfl, rfl⟩) -
                · skip
                  have hT := tpC_f hT0 hL_32.2.2.1
                  refine am_eq_r (q' := (193, [some (.ref 16), some (.int (nI nv)), some (.int (nI p)), some (.int (nI oo)), some (.int (nI st)), some (.int (b k)), some (.int (esV b (k + 1)))], [.int 1], wd C_30 Y og)) rfl ?_
                  refine am_steps_r ok_R_readString 3 (q' := (30, [some (.ref 16), some (.int (nI nv)), some (.int (nI p)), some (.int (nI oo)), some (.int ((nI st) + 1)), some (.int (b k)), some (.int (esV b (k + 1)))], [], wd C_30 Y og)) rfl ?_
                  rw [show ((nI st) + 1 : Int32) = nI (st + 1) from nI_add st 1]
                  refine am_drop_r [5, 6] (L' := [some (.ref 16), some (.int (nI nv)), some (.int (nI p)), some (.int (nI oo)), some (.int (nI (st + 1))), none, none]) rfl ?_
                  refine ih post C_30 ((esE b (k + 1))) (st + 1) (oo) (acc ++ [(esV b (k + 1))]) hL_32 ha_31 (by omega) (by omega) (by omega) (by simp; omega) (fun vr w' hw => hpo vr w' ?_) (by omega)
                  rw [rdR_e4 hk1 (by assumption) q_28 (by omega)]
                  exact hw
                · skip
                  refine am_eq_r (q' := (193, [some (.ref 16), some (.int (nI nv)), some (.int (nI p)), some (.int (nI oo)), some (.int (nI st)), some (.int (b k)), some (.int (esV b (k + 1)))], [.int 0], wd (upd (upd (upd C.1 4 (nI (esE b (k + 1)))) 5 3) 6 (nI p), C.2) Y og)) rfl ?_
                  refine am_steps_r ok_R_readString 2 (q' := (197, [some (.ref 16), some (.int (nI nv)), some (.int (nI p)), some (.int (nI oo)), some (.int (nI st)), some (.int (b k)), some (.int (esV b (k + 1)))], [.int (-1)], wd (upd (upd (upd C.1 4 (nI (esE b (k + 1)))) 5 3) 6 (nI p), C.2) Y og)) rfl ?_
                  refine am_iret_r ok_R_readString rfl rfl rfl ?_
                  refine hpo _ _ ?_
                  rw [rdR_e3 hk1 (by assumption) q_28 (by omega)]
                  exact lfP_bad (C := (upd C.1 4 (nI (esE b (k + 1))), C.2)) hL 3 p
          · skip
            refine am_steps_r ok_R_readString 1 (q' := (111, [some (.ref 16), some (.int (nI nv)), some (.int (nI p)), some (.int (nI oo)), some (.int (nI st)), some (.int (b k)), some (.int (b k))], [.int (b k)], wd C Y og)) rfl ?_
            refine am_callN_r (As := [.int (b k)]) (rest := []) ok_R_readString rfl rfl ok_S_isLineEnd os_S_isLineEnd ln_1_210 rfl rfl (Nat.le_of_ble_eq_true rfl) (c_S_isLineEnd _ C Y og (b k)) ?_
            rintro v_ w_ ⟨rfl, rfl⟩ -
            refine am_eq_r (q' := (114, [some (.ref 16), some (.int (nI nv)), some (.int (nI p)), some (.int (nI oo)), some (.int (nI st)), some (.int (b k)), some (.int (b k))], [.int (bz (isLE (b k)))], wd C Y og)) rfl ?_
            refine am_steps_r ok_R_readString 1 (q' := (bif decide ((bz (isLE (b k))) = 0) then 139 else 117, [some (.ref 16), some (.int (nI nv)), some (.int (nI p)), some (.int (nI oo)), some (.int (nI st)), some (.int (b k)), some (.int (b k))], [], wd C Y og)) rfl ?_
            refine am_bz_r (fun h_35 => ?_) (fun h_35 => ?_)
            · skip
              refine am_steps_r ok_R_readString 7 (q' := (130, [some (.ref 16), some (.int (nI nv)), some (.int (nI p)), some (.int (nI oo)), some (.int (nI st)), some (.int (b k)), some (.int 10)], [.int (C.1 4), .ref 1, .ref 16], wd C Y og)) rfl ?_
              rw [show (C.1 4 : Int32) = nI k from ha]
              have hat := leE_in hT.2.2.2 (b := b) (k := k) (by assumption)
              refine am_callV_r (As := [.int (nI k)]) (rest := [.ref 16]) ok_R_readString rfl rfl ok_T_behindLineEnd oi_T_behindLineEnd lk_1_213 (Or.inl ⟨_, _, _, rfl, rfl, rfl⟩) rfl rfl (Nat.le_of_ble_eq_true rfl) (c_T_behindLineEnd _ C Y og n b hT k (by omega)) ?_
              rintro v_ w_ ⟨rfl, rfl⟩ -
              refine am_eq_r (q' := (133, [some (.ref 16), some (.int (nI nv)), some (.int (nI p)), some (.int (nI oo)), some (.int (nI st)), some (.int (b k)), some (.int 10)], [.int (nI (leE b k)), .ref 16], wd C Y og)) rfl ?_
              refine am_steps_r ok_R_readString 10 (q' := (190, [some (.ref 16), some (.int (nI nv)), some (.int (nI p)), some (.int (nI oo)), some (.int (nI st)), some (.int (b k)), some (.int 10)], [.int (nI p), .int 200, .int 10, .int (nI nv), .ref 16], wd (upd C.1 4 (nI (leE b k)), C.2) Y og)) rfl ?_
              refine am_callV_r (As := [.int (nI nv), .int 10, .int 200, .int (nI p)]) (rest := []) ok_R_readString rfl rfl ok_R_putByte oi_R_putByte lk_1_196 (Or.inl ⟨_, _, _, rfl, rfl, rfl⟩) rfl rfl (Nat.le_of_ble_eq_true rfl) (c_R_putByte _ (upd C.1 4 (nI (leE b k)), C.2) Y og C0 nv u V _ _ acc hL (by omega) 10 ⟨10, by omega, rfl⟩ 200 (by omega) p (leE b k) (by first | rfl | exact ha)) ?_
              rintro v_ w_ (⟨q_40, rfl, C_37, rfl, ha_38, hL_39⟩ | ⟨q_40, rfl, rfl⟩) -
              · skip
                have hT := tpC_f hT0 hL_39.2.2.1
                refine am_eq_r (q' := (193, [some (.ref 16), some (.int (nI nv)), some (.int (nI p)), some (.int (nI oo)), some (.int (nI st)), some (.int (b k)), some (.int 10)], [.int 1], wd C_37 Y og)) rfl ?_
                refine am_steps_r ok_R_readString 3 (q' := (30, [some (.ref 16), some (.int (nI nv)), some (.int (nI p)), some (.int (nI oo)), some (.int ((nI st) + 1)), some (.int (b k)), some (.int 10)], [], wd C_37 Y og)) rfl ?_
                rw [show ((nI st) + 1 : Int32) = nI (st + 1) from nI_add st 1]
                refine am_drop_r [5, 6] (L' := [some (.ref 16), some (.int (nI nv)), some (.int (nI p)), some (.int (nI oo)), some (.int (nI (st + 1))), none, none]) rfl ?_
                refine ih post C_37 ((leE b k)) (st + 1) (oo) (acc ++ [10]) hL_39 ha_38 (by omega) (by omega) (by omega) (by simp; omega) (fun vr w' hw => hpo vr w' ?_) (by omega)
                first | rw [rdR_le (by omega) (by rintro ⟨z1, z2⟩; first | contradiction | omega) (by assumption) (by omega) (by assumption)] | rw [rdR_40 (by omega) (by omega) (by assumption)] | rw [rdR_41 (by omega) (by omega) (by omega) (by assumption)] | rw [rdR_pl (by omega) (by assumption) (by omega) (by assumption) (by assumption) (by assumption)]
                exact hw
              · skip
                refine am_eq_r (q' := (193, [some (.ref 16), some (.int (nI nv)), some (.int (nI p)), some (.int (nI oo)), some (.int (nI st)), some (.int (b k)), some (.int 10)], [.int 0], wd (upd (upd (upd C.1 4 (nI (leE b k))) 5 3) 6 (nI p), C.2) Y og)) rfl ?_
                refine am_steps_r ok_R_readString 2 (q' := (197, [some (.ref 16), some (.int (nI nv)), some (.int (nI p)), some (.int (nI oo)), some (.int (nI st)), some (.int (b k)), some (.int 10)], [.int (-1)], wd (upd (upd (upd C.1 4 (nI (leE b k))) 5 3) 6 (nI p), C.2) Y og)) rfl ?_
                refine am_iret_r ok_R_readString rfl rfl rfl ?_
                refine hpo _ _ ?_
                rw [rdR_ful (by omega) (by rintro ⟨z1, z2⟩; first | contradiction | omega) (by assumption) (by omega)]
                exact lfP_bad (C := (upd C.1 4 (nI (leE b k)), C.2)) hL 3 p
            · skip
              refine am_steps_r ok_R_readString 4 (q' := (bif decide ((b k) = 40) then 147 else 151, [some (.ref 16), some (.int (nI nv)), some (.int (nI p)), some (.int (nI oo)), some (.int (nI st)), some (.int (b k)), some (.int (b k))], [.int (nI oo)], wd C Y og)) rfl ?_
              refine am_br_r (fun h_41 => ?_) (fun h_41 => ?_)
              · skip
                refine am_steps_r ok_R_readString 13 (q' := (bif decide ((b k) = (-2)) then 198 else 182, [some (.ref 16), some (.int (nI nv)), some (.int (nI p)), some (.int ((nI oo) + 1)), some (.int (nI st)), some (.int (b k)), some (.int (b k))], [], wd (upd C.1 4 ((C.1 4) + 1), C.2) Y og)) rfl ?_
                rw [show ((nI oo) + 1 : Int32) = nI (oo + 1) from nI_add oo 1]
                rw [show (C.1 4 : Int32) = nI k from ha]
                rw [show ((nI k) + 1 : Int32) = nI (k + 1) from nI_add k 1]
                refine am_br_r (fun h_42 => ?_) (fun h_42 => ?_)
                · skip
                  exact absurd ((show (b k) = 40 by assumption).symm.trans (show (b k) = (-2) by assumption)) (by decide)
                · skip
                  refine am_steps_r ok_R_readString 5 (q' := (190, [some (.ref 16), some (.int (nI nv)), some (.int (nI p)), some (.int (nI (oo + 1))), some (.int (nI st)), some (.int (b k)), some (.int (b k))], [.int (nI p), .int 200, .int (b k), .int (nI nv), .ref 16], wd (upd C.1 4 (nI (k + 1)), C.2) Y og)) rfl ?_
                  refine am_callV_r (As := [.int (nI nv), .int (b k), .int 200, .int (nI p)]) (rest := []) ok_R_readString rfl rfl ok_R_putByte oi_R_putByte lk_1_196 (Or.inl ⟨_, _, _, rfl, rfl, rfl⟩) rfl rfl (Nat.le_of_ble_eq_true rfl) (c_R_putByte _ (upd C.1 4 (nI (k + 1)), C.2) Y og C0 nv u V _ _ acc hL (by omega) (b k) (tpC_B hT (by omega)) 200 (by omega) p (k + 1) (by first | rfl | exact ha)) ?_
                  rintro v_ w_ (⟨q_46, rfl, C_43, rfl, ha_44, hL_45⟩ | ⟨q_46, rfl, rfl⟩) -
                  · skip
                    have hT := tpC_f hT0 hL_45.2.2.1
                    refine am_eq_r (q' := (193, [some (.ref 16), some (.int (nI nv)), some (.int (nI p)), some (.int (nI (oo + 1))), some (.int (nI st)), some (.int (b k)), some (.int (b k))], [.int 1], wd C_43 Y og)) rfl ?_
                    refine am_steps_r ok_R_readString 3 (q' := (30, [some (.ref 16), some (.int (nI nv)), some (.int (nI p)), some (.int (nI (oo + 1))), some (.int ((nI st) + 1)), some (.int (b k)), some (.int (b k))], [], wd C_43 Y og)) rfl ?_
                    rw [show ((nI st) + 1 : Int32) = nI (st + 1) from nI_add st 1]
                    refine am_drop_r [5, 6] (L' := [some (.ref 16), some (.int (nI nv)), some (.int (nI p)), some (.int (nI (oo + 1))), some (.int (nI (st + 1))), none, none]) rfl ?_
                    refine ih post C_43 (k + 1) (st + 1) (oo + 1) (acc ++ [(b k)]) hL_45 ha_44 (by omega) (by omega) (by omega) (by simp; omega) (fun vr w' hw => hpo vr w' ?_) (by omega)
                    first | rw [rdR_le (by omega) (by rintro ⟨z1, z2⟩; first | contradiction | omega) (by assumption) (by omega) (by assumption)] | rw [rdR_40 (by omega) (by omega) (by assumption)] | rw [rdR_41 (by omega) (by omega) (by omega) (by assumption)] | rw [rdR_pl (by omega) (by assumption) (by omega) (by assumption) (by assumption) (by assumption)]
                    exact hw
                  · skip
                    refine am_eq_r (q' := (193, [some (.ref 16), some (.int (nI nv)), some (.int (nI p)), some (.int (nI (oo + 1))), some (.int (nI st)), some (.int (b k)), some (.int (b k))], [.int 0], wd (upd (upd (upd C.1 4 (nI (k + 1))) 5 3) 6 (nI p), C.2) Y og)) rfl ?_
                    refine am_steps_r ok_R_readString 2 (q' := (197, [some (.ref 16), some (.int (nI nv)), some (.int (nI p)), some (.int (nI (oo + 1))), some (.int (nI st)), some (.int (b k)), some (.int (b k))], [.int (-1)], wd (upd (upd (upd C.1 4 (nI (k + 1))) 5 3) 6 (nI p), C.2) Y og)) rfl ?_
                    refine am_iret_r ok_R_readString rfl rfl rfl ?_
                    refine hpo _ _ ?_
                    rw [rdR_ful (by omega) (by rintro ⟨z1, z2⟩; first | contradiction | omega) (by assumption) (by omega)]
                    exact lfP_bad (C := (upd C.1 4 (nI (k + 1)), C.2)) hL 3 p
              · skip
                refine am_steps_r ok_R_readString 3 (q' := (bif decide ((b k) = 41) then 158 else 162, [some (.ref 16), some (.int (nI nv)), some (.int (nI p)), some (.int (nI oo)), some (.int (nI st)), some (.int (b k)), some (.int (b k))], [.int (nI oo)], wd C Y og)) rfl ?_
                refine am_br_r (fun h_47 => ?_) (fun h_47 => ?_)
                · skip
                  first | contradiction | (exfalso; simp_all; done)
                · skip
                  refine am_steps_r ok_R_readString 12 (q' := (bif decide ((b k) = (-2)) then 198 else 182, [some (.ref 16), some (.int (nI nv)), some (.int (nI p)), some (.int ((nI oo) + 0)), some (.int (nI st)), some (.int (b k)), some (.int (b k))], [], wd (upd C.1 4 ((C.1 4) + 1), C.2) Y og)) rfl ?_
                  rw [show ((nI oo) + 0 : Int32) = nI (oo + 0) from nI_add oo 0]
                  rw [show (C.1 4 : Int32) = nI k from ha]
                  rw [show ((nI k) + 1 : Int32) = nI (k + 1) from nI_add k 1]
                  refine am_br_r (fun h_48 => ?_) (fun h_48 => ?_)
                  · skip
                    exact absurd h_48 (isB_m2 (tpC_B hT (by omega)))
                  · skip
                    refine am_steps_r ok_R_readString 5 (q' := (190, [some (.ref 16), some (.int (nI nv)), some (.int (nI p)), some (.int (nI (oo + 0))), some (.int (nI st)), some (.int (b k)), some (.int (b k))], [.int (nI p), .int 200, .int (b k), .int (nI nv), .ref 16], wd (upd C.1 4 (nI (k + 1)), C.2) Y og)) rfl ?_
                    refine am_callV_r (As := [.int (nI nv), .int (b k), .int 200, .int (nI p)]) (rest := []) ok_R_readString rfl rfl ok_R_putByte oi_R_putByte lk_1_196 (Or.inl ⟨_, _, _, rfl, rfl, rfl⟩) rfl rfl (Nat.le_of_ble_eq_true rfl) (c_R_putByte _ (upd C.1 4 (nI (k + 1)), C.2) Y og C0 nv u V _ _ acc hL (by omega) (b k) (tpC_B hT (by omega)) 200 (by omega) p (k + 1) (by first | rfl | exact ha)) ?_
                    rintro v_ w_ (⟨q_52, rfl, C_49, rfl, ha_50, hL_51⟩ | ⟨q_52, rfl, rfl⟩) -
                    · skip
                      have hT := tpC_f hT0 hL_51.2.2.1
                      refine am_eq_r (q' := (193, [some (.ref 16), some (.int (nI nv)), some (.int (nI p)), some (.int (nI (oo + 0))), some (.int (nI st)), some (.int (b k)), some (.int (b k))], [.int 1], wd C_49 Y og)) rfl ?_
                      refine am_steps_r ok_R_readString 3 (q' := (30, [some (.ref 16), some (.int (nI nv)), some (.int (nI p)), some (.int (nI (oo + 0))), some (.int ((nI st) + 1)), some (.int (b k)), some (.int (b k))], [], wd C_49 Y og)) rfl ?_
                      rw [show ((nI st) + 1 : Int32) = nI (st + 1) from nI_add st 1]
                      refine am_drop_r [5, 6] (L' := [some (.ref 16), some (.int (nI nv)), some (.int (nI p)), some (.int (nI (oo + 0))), some (.int (nI (st + 1))), none, none]) rfl ?_
                      refine ih post C_49 (k + 1) (st + 1) (oo + 0) (acc ++ [(b k)]) hL_51 ha_50 (by omega) (by omega) (by omega) (by simp; omega) (fun vr w' hw => hpo vr w' ?_) (by omega)
                      first | rw [rdR_le (by omega) (by rintro ⟨z1, z2⟩; first | contradiction | omega) (by assumption) (by omega) (by assumption)] | rw [rdR_40 (by omega) (by omega) (by assumption)] | rw [rdR_41 (by omega) (by omega) (by omega) (by assumption)] | rw [rdR_pl (by omega) (by assumption) (by omega) (by assumption) (by assumption) (by assumption)]
                      exact hw
                    · skip
                      refine am_eq_r (q' := (193, [some (.ref 16), some (.int (nI nv)), some (.int (nI p)), some (.int (nI (oo + 0))), some (.int (nI st)), some (.int (b k)), some (.int (b k))], [.int 0], wd (upd (upd (upd C.1 4 (nI (k + 1))) 5 3) 6 (nI p), C.2) Y og)) rfl ?_
                      refine am_steps_r ok_R_readString 2 (q' := (197, [some (.ref 16), some (.int (nI nv)), some (.int (nI p)), some (.int (nI (oo + 0))), some (.int (nI st)), some (.int (b k)), some (.int (b k))], [.int (-1)], wd (upd (upd (upd C.1 4 (nI (k + 1))) 5 3) 6 (nI p), C.2) Y og)) rfl ?_
                      refine am_iret_r ok_R_readString rfl rfl rfl ?_
                      refine hpo _ _ ?_
                      rw [rdR_ful (by omega) (by rintro ⟨z1, z2⟩; first | contradiction | omega) (by assumption) (by omega)]
                      exact lfP_bad (C := (upd C.1 4 (nI (k + 1)), C.2)) hL 3 p
set_option maxHeartbeats 400000 in
set_option maxRecDepth 100000 in
theorem c_R_readString (d : Nat) (C : wd_C) (Y : wd_Y) (og : Nat → Int64) (n : Nat) (b : Nat → Int32) (hT : tpC C n b) (nv u : Nat) (V : VT) (hS : lfC C C nv u V 0 0 []) (k : Nat) (ha : C.1 4 = nI k) (hk : k < n) (huk : u ≤ k)  : am_Mt l D cA ad fm (d + 3) m_R_readString [.ref 16, .int (nI nv)] (wd C Y og) (lfP C Y og nv u V (rdR n b k 2000 (k + 1) 1 [])) := by
  have hn := hT.2.1
  have hal : nv + 1 ≤ 300 := hS.1.1.2.1
  refine am_mt ok_R_readString (by simp [am_arg, Value.category, m_R_readString, am_ml]) ?_
  refine am_eq_r (q' := (0, [some (.ref 16), some (.int (nI nv)), none, none, none, none, none], [], wd C Y og)) rfl ?_
  refine am_steps_r ok_R_readString 10 (q' := (14, [some (.ref 16), some (.int (nI nv)), some (.int (C.1 4)), some (.int 1), none, none, none], [.long 0, .int 5, .int (nI nv), .ref 3], wd C Y og)) rfl ?_
  rw [show (C.1 4 : Int32) = nI k from ha]
  refine am_callV_r (As := [.int (nI nv), .int 5, .long 0]) (rest := []) ok_R_readString rfl rfl ok_V_setKind oi_V_setKind lk_1_155 (Or.inl ⟨_, _, _, rfl, rfl, rfl⟩) rfl rfl (Nat.le_of_ble_eq_true rfl) (c_V_setKind _ C Y og (nv + 1) u hS.1.1 nv (by omega) 5 0) ?_
  rintro v_ w_ ⟨rfl, rfl⟩ -
  refine am_eq_r (q' := (17, [some (.ref 16), some (.int (nI nv)), some (.int (nI k)), some (.int 1), none, none, none], [], wd (vKind C nv 5 0) Y og)) rfl ?_
  refine am_steps_r ok_R_readString 8 (q' := (30, [some (.ref 16), some (.int (nI nv)), some (.int (nI k)), some (.int 1), some (.int 0), none, none], [], wd (upd ((vKind C nv 5 0).1) 4 (((vKind C nv 5 0).1 4) + 1), (vKind C nv 5 0).2) Y og)) rfl ?_
  rw [show ((vKind C nv 5 0).1 4 : Int32) = nI k from ha]
  rw [show ((nI k) + 1 : Int32) = nI (k + 1) from nI_add k 1]
  exact lp_R_readString_30 d Y og n b C hT nv u V k hk huk 2000 _ (upd ((vKind C nv 5 0).1) 4 (nI (k + 1)), (vKind C nv 5 0).2) (k + 1) 0 1 [] (lfC_kind hS 5 0) rfl (by omega) (by omega) (by omega) (by simp; omega) (fun _ _ hw => hw) (by omega)
end C45
