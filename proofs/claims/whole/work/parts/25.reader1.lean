/-! the component's reader: heads, ends, faults; printed by wip/gen/g25.py -/
/-- behind the next word endobj -/
def neE (b : Nat → Int32) : Nat → Nat → Nat
  | 0, k => k
  | f + 1, k => if wdA b st_10 k = true ∧ isReg (b (k - 1)) = false then k + 6 else neE b f (k + 1)
/-- bytes less the end of a line before them -/
def blE (b : Nat → Int32) (f t : Nat) : Nat := if f + 2 ≤ t ∧ leE b (t - 2) = t then t - 2 else if f + 1 ≤ t ∧ isLE (b (t - 1)) = true then t - 1 else t
/-- figures 0 .. 7, so many at most -/
def ocE (b : Nat → Int32) : Nat → Nat → Nat
  | 0, k => k
  | f + 1, k => if 48 ≤ b k ∧ b k ≤ 55 then ocE b f (k + 1) else k
def ocV (b : Nat → Int32) : Nat → Nat → Int32 → Int32
  | 0, _, s => s
  | f + 1, k, s => if 48 ≤ b k ∧ b k ≤ 55 then ocV b f (k + 1) (s * 8 + b k - 48) else s
section C25
variable {l : Launch} {D : va_G} {cA : Nat → ClassId} {ad : Nat → Nat} {fm : Value}
set_option maxHeartbeats 4000000 in
set_option maxRecDepth 100000 in
theorem c_R_behindPair (d : Nat) (C : wd_C) (Y : wd_Y) (og : Nat → Int64) (n : Nat) (b : Nat → Int32) (hT : tpC C n b) (i co ix : Nat) (tx : String) (bs : List Int32) (hi : pr_st[i]? = some (co, ix, tx, bs)) (hl : bs.length < 1000) (hfm : fm = .null ∨ fm = .ref 3000) (k : Nat) (hk : k ≤ n) : am_Mt l D cA ad fm (d + 6) m_R_behindPair [.ref 16, .int (nI k), .ref (1000 + i)] (wd C Y og) (fun v w' => (prW n b bs k = none ∧ v = some (.int (-1)) ∧ w' = wd C Y og) ∨ (∃ e1 e2, fgW b k = some e1 ∧ fgW b (skW n b e1) = some e2 ∧ wdA b bs (skW n b e2) = true ∧ v = some (.int (nI (skW n b e2 + bs.length))) ∧ w' = wd (upd (upd C.1 9 (fgS b (e1 - k) k 0)) 10 (fgS b (e2 - skW n b e1) (skW n b e1) 0), C.2) Y og)) := by
  have hn := hT.2.1
  refine am_mt ok_R_behindPair (by simp [am_arg, Value.category, m_R_behindPair, am_ml]) ?_
  refine am_eq_r (q' := (0, [some (.ref 16), some (.int (nI k)), some (.ref (1000 + i)), none, none, none, none], [], wd C Y og)) rfl ?_
  refine am_steps_r ok_R_behindPair 3 (q' := (5, [some (.ref 16), some (.int (nI k)), some (.ref (1000 + i)), none, none, none, none], [.int (nI k), .ref 1], wd C Y og)) rfl ?_
  refine am_callV_r (As := [.int (nI k)]) (rest := []) ok_R_behindPair rfl rfl ok_T_behindFigures oi_T_behindFigures lk_1_80 (Or.inl ⟨_, _, _, rfl, rfl, rfl⟩) rfl rfl (Nat.le_of_ble_eq_true rfl) (c_T_behindFigures _ C Y og n b hT k (by omega)) ?_
  rintro v_ w_ ⟨rfl, rfl⟩ -
  rcases hf_1 : fgW b k with _ | e_2
  · skip
    refine am_eq_r (q' := (8, [some (.ref 16), some (.int (nI k)), some (.ref (1000 + i)), none, none, none, none], [.int (-1)], wd C Y og)) rfl ?_
    refine am_steps_r ok_R_behindPair 5 (q' := (15, [some (.ref 16), some (.int (nI k)), some (.ref (1000 + i)), some (.int (-1)), none, none, none], [.int (-1)], wd C Y og)) rfl ?_
    refine am_iret_r ok_R_behindPair rfl rfl rfl ?_
    exact Or.inl ⟨by simp_all [prW], rfl, rfl⟩
  · skip
    have fe_2 := fgW_some hT.2.2.2 (by omega) hf_1
    refine am_eq_r (q' := (8, [some (.ref 16), some (.int (nI k)), some (.ref (1000 + i)), none, none, none, none], [.int (nI e_2)], wd C Y og)) rfl ?_
    refine am_steps_r ok_R_behindPair 4 (q' := (bif decide ((nI e_2) = (-1)) then 14 else 16, [some (.ref 16), some (.int (nI k)), some (.ref (1000 + i)), some (.int (nI e_2)), none, none, none], [], wd C Y og)) rfl ?_
    refine am_br_r (fun h_3 => ?_) (fun h_3 => ?_)
    · skip
      exact absurd h_3 (nI_nm (show e_2 < 2 ^ 31 by omega))
    · skip
      refine am_steps_r ok_R_behindPair 3 (q' := (21, [some (.ref 16), some (.int (nI k)), some (.ref (1000 + i)), some (.int (nI e_2)), none, none, none], [.int (nI e_2), .ref 1], wd C Y og)) rfl ?_
      have w_4 := skW_le n b (k := e_2) (by omega)
      refine am_callV_r (As := [.int (nI e_2)]) (rest := []) ok_R_behindPair rfl rfl ok_T_behindWhite oi_T_behindWhite lk_1_56 (Or.inl ⟨_, _, _, rfl, rfl, rfl⟩) rfl rfl (Nat.le_of_ble_eq_true rfl) (c_T_behindWhite _ C Y og n b hT e_2 (by omega)) ?_
      rintro v_ w_ ⟨rfl, rfl⟩ -
      refine am_eq_r (q' := (24, [some (.ref 16), some (.int (nI k)), some (.ref (1000 + i)), some (.int (nI e_2)), none, none, none], [.int (nI (skW n b e_2))], wd C Y og)) rfl ?_
      refine am_steps_r ok_R_behindPair 4 (q' := (32, [some (.ref 16), some (.int (nI k)), some (.ref (1000 + i)), some (.int (nI e_2)), some (.int (nI (skW n b e_2))), none, none], [.int (nI (skW n b e_2)), .ref 1], wd C Y og)) rfl ?_
      refine am_callV_r (As := [.int (nI (skW n b e_2))]) (rest := []) ok_R_behindPair rfl rfl ok_T_behindFigures oi_T_behindFigures lk_1_80 (Or.inl ⟨_, _, _, rfl, rfl, rfl⟩) rfl rfl (Nat.le_of_ble_eq_true rfl) (c_T_behindFigures _ C Y og n b hT (skW n b e_2) (by omega)) ?_
      rintro v_ w_ ⟨rfl, rfl⟩ -
      rcases hf_6 : fgW b (skW n b e_2) with _ | e_7
      · skip
        refine am_eq_r (q' := (35, [some (.ref 16), some (.int (nI k)), some (.ref (1000 + i)), some (.int (nI e_2)), some (.int (nI (skW n b e_2))), none, none], [.int (-1)], wd C Y og)) rfl ?_
        refine am_steps_r ok_R_behindPair 5 (q' := (44, [some (.ref 16), some (.int (nI k)), some (.ref (1000 + i)), some (.int (nI e_2)), some (.int (nI (skW n b e_2))), some (.int (-1)), none], [.int (-1)], wd C Y og)) rfl ?_
        refine am_iret_r ok_R_behindPair rfl rfl rfl ?_
        exact Or.inl ⟨by simp_all [prW], rfl, rfl⟩
      · skip
        have fe_7 := fgW_some hT.2.2.2 (by omega) hf_6
        refine am_eq_r (q' := (35, [some (.ref 16), some (.int (nI k)), some (.ref (1000 + i)), some (.int (nI e_2)), some (.int (nI (skW n b e_2))), none, none], [.int (nI e_7)], wd C Y og)) rfl ?_
        refine am_steps_r ok_R_behindPair 4 (q' := (bif decide ((nI e_7) = (-1)) then 43 else 45, [some (.ref 16), some (.int (nI k)), some (.ref (1000 + i)), some (.int (nI e_2)), some (.int (nI (skW n b e_2))), some (.int (nI e_7)), none], [], wd C Y og)) rfl ?_
        refine am_br_r (fun h_8 => ?_) (fun h_8 => ?_)
        · skip
          exact absurd h_8 (nI_nm (show e_7 < 2 ^ 31 by omega))
        · skip
          refine am_steps_r ok_R_behindPair 3 (q' := (51, [some (.ref 16), some (.int (nI k)), some (.ref (1000 + i)), some (.int (nI e_2)), some (.int (nI (skW n b e_2))), some (.int (nI e_7)), none], [.int (nI e_7), .ref 1], wd C Y og)) rfl ?_
          have w_9 := skW_le n b (k := e_7) (by omega)
          refine am_callV_r (As := [.int (nI e_7)]) (rest := []) ok_R_behindPair rfl rfl ok_T_behindWhite oi_T_behindWhite lk_1_56 (Or.inl ⟨_, _, _, rfl, rfl, rfl⟩) rfl rfl (Nat.le_of_ble_eq_true rfl) (c_T_behindWhite _ C Y og n b hT e_7 (by omega)) ?_
          rintro v_ w_ ⟨rfl, rfl⟩ -
          refine am_eq_r (q' := (54, [some (.ref 16), some (.int (nI k)), some (.ref (1000 + i)), some (.int (nI e_2)), some (.int (nI (skW n b e_2))), some (.int (nI e_7)), none], [.int (nI (skW n b e_7))], wd C Y og)) rfl ?_
          refine am_steps_r ok_R_behindPair 5 (q' := (63, [some (.ref 16), some (.int (nI k)), some (.ref (1000 + i)), some (.int (nI e_2)), some (.int (nI (skW n b e_2))), some (.int (nI e_7)), some (.int (nI (skW n b e_7)))], [.ref (1000 + i), .int (nI (skW n b e_7)), .ref 1], wd C Y og)) rfl ?_
          refine am_callV_r (As := [.int (nI (skW n b e_7)), .ref (1000 + i)]) (rest := []) ok_R_behindPair rfl rfl ok_T_wordStands oi_T_wordStands lk_1_83 (Or.inl ⟨_, _, _, rfl, rfl, rfl⟩) rfl rfl (Nat.le_of_ble_eq_true rfl) (c_T_wordStands _ C Y og n b hT i co ix tx bs hi hl hfm (skW n b e_7) (by omega)) ?_
          rintro v_ w_ ⟨rfl, rfl⟩ -
          refine am_eq_r (q' := (66, [some (.ref 16), some (.int (nI k)), some (.ref (1000 + i)), some (.int (nI e_2)), some (.int (nI (skW n b e_2))), some (.int (nI e_7)), some (.int (nI (skW n b e_7)))], [.int (bz (wdA b bs (skW n b e_7)))], wd C Y og)) rfl ?_
          refine am_steps_r ok_R_behindPair 1 (q' := (bif decide ((bz (wdA b bs (skW n b e_7))) = 0) then 69 else 71, [some (.ref 16), some (.int (nI k)), some (.ref (1000 + i)), some (.int (nI e_2)), some (.int (nI (skW n b e_2))), some (.int (nI e_7)), some (.int (nI (skW n b e_7)))], [], wd C Y og)) rfl ?_
          refine am_bz_r (fun h_12 => ?_) (fun h_12 => ?_)
          · skip
            refine am_steps_r ok_R_behindPair 5 (q' := (78, [some (.ref 16), some (.int (nI k)), some (.ref (1000 + i)), some (.int (nI e_2)), some (.int (nI (skW n b e_2))), some (.int (nI e_7)), some (.int (nI (skW n b e_7)))], [.int (nI e_2), .int (nI k), .ref 1, .ref 16], wd C Y og)) rfl ?_
            refine am_callV_r (As := [.int (nI k), .int (nI e_2)]) (rest := [.ref 16]) ok_R_behindPair rfl rfl ok_T_figuresBetween oi_T_figuresBetween lk_1_87 (Or.inl ⟨_, _, _, rfl, rfl, rfl⟩) rfl rfl (Nat.le_of_ble_eq_true rfl) (c_T_figuresBetween _ C Y og n b hT k e_2 (by omega) (by omega)) ?_
            rintro v_ w_ ⟨rfl, rfl⟩ -
            refine am_eq_r (q' := (81, [some (.ref 16), some (.int (nI k)), some (.ref (1000 + i)), some (.int (nI e_2)), some (.int (nI (skW n b e_2))), some (.int (nI e_7)), some (.int (nI (skW n b e_7)))], [.int (fgS b (e_2 - k) k 0), .ref 16], wd C Y og)) rfl ?_
            refine am_steps_r ok_R_behindPair 6 (q' := (93, [some (.ref 16), some (.int (nI k)), some (.ref (1000 + i)), some (.int (nI e_2)), some (.int (nI (skW n b e_2))), some (.int (nI e_7)), some (.int (nI (skW n b e_7)))], [.int (nI e_7), .int (nI (skW n b e_2)), .ref 1, .ref 16], wd (upd C.1 9 (fgS b (e_2 - k) k 0), C.2) Y og)) rfl ?_
            refine am_callV_r (As := [.int (nI (skW n b e_2)), .int (nI e_7)]) (rest := [.ref 16]) ok_R_behindPair rfl rfl ok_T_figuresBetween oi_T_figuresBetween lk_1_87 (Or.inl ⟨_, _, _, rfl, rfl, rfl⟩) rfl rfl (Nat.le_of_ble_eq_true rfl) (c_T_figuresBetween _ (upd C.1 9 (fgS b (e_2 - k) k 0), C.2) Y og n b hT (skW n b e_2) e_7 (by omega) (by omega)) ?_
            rintro v_ w_ ⟨rfl, rfl⟩ -
            refine am_eq_r (q' := (96, [some (.ref 16), some (.int (nI k)), some (.ref (1000 + i)), some (.int (nI e_2)), some (.int (nI (skW n b e_2))), some (.int (nI e_7)), some (.int (nI (skW n b e_7)))], [.int (fgS b (e_7 - (skW n b e_2)) (skW n b e_2) 0), .ref 16], wd (upd C.1 9 (fgS b (e_2 - k) k 0), C.2) Y og)) rfl ?_
            refine am_steps_r ok_R_behindPair 3 (q' := (102, [some (.ref 16), some (.int (nI k)), some (.ref (1000 + i)), some (.int (nI e_2)), some (.int (nI (skW n b e_2))), some (.int (nI e_7)), some (.int (nI (skW n b e_7)))], [.ref (1000 + i), .int (nI (skW n b e_7))], wd (upd (upd C.1 9 (fgS b (e_2 - k) k 0)) 10 (fgS b (e_7 - (skW n b e_2)) (skW n b e_2) 0), C.2) Y og)) rfl ?_
            refine am_callV_r (As := []) (rest := [.int (nI (skW n b e_7))]) ok_R_behindPair rfl rfl ok_J_length oi_J_length lk_1_91 (Or.inr ⟨rfl, i, _, rfl, hi⟩) rfl rfl (Nat.le_of_ble_eq_true rfl) (c_J_length _ (upd (upd C.1 9 (fgS b (e_2 - k) k 0)) 10 (fgS b (e_7 - (skW n b e_2)) (skW n b e_2) 0), C.2) Y og i co ix tx bs hi hl) ?_
            rintro v_ w_ ⟨rfl, rfl⟩ -
            refine am_eq_r (q' := (105, [some (.ref 16), some (.int (nI k)), some (.ref (1000 + i)), some (.int (nI e_2)), some (.int (nI (skW n b e_2))), some (.int (nI e_7)), some (.int (nI (skW n b e_7)))], [.int (nI bs.length), .int (nI (skW n b e_7))], wd (upd (upd C.1 9 (fgS b (e_2 - k) k 0)) 10 (fgS b (e_7 - (skW n b e_2)) (skW n b e_2) 0), C.2) Y og)) rfl ?_
            refine am_steps_r ok_R_behindPair 1 (q' := (106, [some (.ref 16), some (.int (nI k)), some (.ref (1000 + i)), some (.int (nI e_2)), some (.int (nI (skW n b e_2))), some (.int (nI e_7)), some (.int (nI (skW n b e_7)))], [.int ((nI (skW n b e_7)) + (nI bs.length))], wd (upd (upd C.1 9 (fgS b (e_2 - k) k 0)) 10 (fgS b (e_7 - (skW n b e_2)) (skW n b e_2) 0), C.2) Y og)) rfl ?_
            rw [show ((nI (skW n b e_7)) + (nI bs.length) : Int32) = nI ((skW n b e_7) + bs.length) from nI_add (skW n b e_7) bs.length]
            refine am_iret_r ok_R_behindPair rfl rfl rfl ?_
            exact Or.inr ⟨_, _, by first | rfl | assumption, by first | rfl | assumption, by assumption, rfl, rfl⟩
          · skip
            refine am_steps_r ok_R_behindPair 1 (q' := (70, [some (.ref 16), some (.int (nI k)), some (.ref (1000 + i)), some (.int (nI e_2)), some (.int (nI (skW n b e_2))), some (.int (nI e_7)), some (.int (nI (skW n b e_7)))], [.int (-1)], wd C Y og)) rfl ?_
            refine am_iret_r ok_R_behindPair rfl rfl rfl ?_
            exact Or.inl ⟨by simp_all [prW], rfl, rfl⟩
set_option maxHeartbeats 4000000 in
set_option maxRecDepth 100000 in
theorem c_R_fail (d : Nat) (C : wd_C) (Y : wd_Y) (og : Nat → Int64) (x p : Int32) : am_Mt l D cA ad fm (d + 0) m_R_fail [.ref 16, .int x, .int p] (wd C Y og) (fun v w' => v = some (.int (-1)) ∧ w' = wd (upd (upd C.1 5 x) 6 p, C.2) Y og) := by
  refine am_mt ok_R_fail (by simp [am_arg, Value.category, m_R_fail, am_ml]) ?_
  refine am_eq_r (q' := (0, [some (.ref 16), some (.int x), some (.int p)], [], wd C Y og)) rfl ?_
  refine am_steps_r ok_R_fail 7 (q' := (11, [some (.ref 16), some (.int x), some (.int p)], [.int (-1)], wd (upd (upd C.1 5 x) 6 p, C.2) Y og)) rfl ?_
  refine am_iret_r ok_R_fail rfl rfl rfl ?_
  exact ⟨rfl, rfl⟩
set_option maxHeartbeats 4000000 in
set_option maxRecDepth 100000 in
theorem c_R_readEnd (d : Nat) (C : wd_C) (Y : wd_Y) (og : Nat → Int64) (n : Nat) (b : Nat → Int32) (hT : tpC C n b) (hfm : fm = .null ∨ fm = .ref 3000) (a : Nat) (ha : C.1 4 = nI a) (hk : a ≤ n) : am_Mt l D cA ad fm (d + 6) m_R_readEnd [.ref 16] (wd C Y og) (fun v w' => if wdA b st_10 (skW n b a) = true then v = some (.int 1) ∧ w' = wd (upd C.1 4 (nI (skW n b a + 6)), C.2) Y og else v = some (.int 0) ∧ w' = wd (upd (upd (upd C.1 4 (nI (skW n b a))) 5 (if skW n b a < n then 2 else 1)) 6 (nI (skW n b a)), C.2) Y og) := by
  have hn := hT.2.1
  refine am_mt ok_R_readEnd (by simp [am_arg, Value.category, m_R_readEnd, am_ml]) ?_
  refine am_eq_r (q' := (0, [some (.ref 16)], [], wd C Y og)) rfl ?_
  refine am_steps_r ok_R_readEnd 5 (q' := (9, [some (.ref 16)], [.int (C.1 4), .ref 1, .ref 16], wd C Y og)) rfl ?_
  rw [show (C.1 4 : Int32) = nI a from ha]
  have w_1 := skW_le n b (k := a) (by omega)
  refine am_callV_r (As := [.int (nI a)]) (rest := [.ref 16]) ok_R_readEnd rfl rfl ok_T_behindWhite oi_T_behindWhite lk_1_56 (Or.inl ⟨_, _, _, rfl, rfl, rfl⟩) rfl rfl (Nat.le_of_ble_eq_true rfl) (c_T_behindWhite _ C Y og n b hT a (by omega)) ?_
  rintro v_ w_ ⟨rfl, rfl⟩ -
  refine am_eq_r (q' := (12, [some (.ref 16)], [.int (nI (skW n b a)), .ref 16], wd C Y og)) rfl ?_
  refine am_steps_r ok_R_readEnd 6 (q' := (25, [some (.ref 16)], [.ref 1010, .int (nI (skW n b a)), .ref 1], wd (upd C.1 4 (nI (skW n b a)), C.2) Y og)) rfl ?_
  refine am_callV_r (As := [.int (nI (skW n b a)), .ref 1010]) (rest := []) ok_R_readEnd rfl rfl ok_T_wordStands oi_T_wordStands lk_1_83 (Or.inl ⟨_, _, _, rfl, rfl, rfl⟩) rfl rfl (Nat.le_of_ble_eq_true rfl) (c_T_wordStands _ (upd C.1 4 (nI (skW n b a)), C.2) Y og n b hT 10 1 120 "endobj" st_10 rfl (by decide) hfm (skW n b a) (by omega)) ?_
  rintro v_ w_ ⟨rfl, rfl⟩ -
  refine am_eq_r (q' := (28, [some (.ref 16)], [.int (bz (wdA b st_10 (skW n b a)))], wd (upd C.1 4 (nI (skW n b a)), C.2) Y og)) rfl ?_
  refine am_steps_r ok_R_readEnd 1 (q' := (bif decide ((bz (wdA b st_10 (skW n b a))) = 0) then 31 else 61, [some (.ref 16)], [], wd (upd C.1 4 (nI (skW n b a)), C.2) Y og)) rfl ?_
  refine am_bz_r (fun h_4 => ?_) (fun h_4 => ?_)
  · skip
    refine am_steps_r ok_R_readEnd 4 (q' := (68, [some (.ref 16)], [.ref 1010, .int (nI (skW n b a)), .ref 16], wd (upd C.1 4 (nI (skW n b a)), C.2) Y og)) rfl ?_
    refine am_callV_r (As := []) (rest := [.int (nI (skW n b a)), .ref 16]) ok_R_readEnd rfl rfl ok_J_length oi_J_length lk_1_91 (Or.inr ⟨rfl, 10, _, rfl, rfl⟩) rfl rfl (Nat.le_of_ble_eq_true rfl) (c_J_length _ (upd C.1 4 (nI (skW n b a)), C.2) Y og 10 1 120 "endobj" st_10 rfl (by decide)) ?_
    rintro v_ w_ ⟨rfl, rfl⟩ -
    refine am_eq_r (q' := (71, [some (.ref 16)], [.int 6, .int (nI (skW n b a)), .ref 16], wd (upd C.1 4 (nI (skW n b a)), C.2) Y og)) rfl ?_
    refine am_steps_r ok_R_readEnd 3 (q' := (76, [some (.ref 16)], [.int 1], wd (upd C.1 4 ((nI (skW n b a)) + 6), C.2) Y og)) rfl ?_
    rw [show ((nI (skW n b a)) + 6 : Int32) = nI ((skW n b a) + 6) from nI_add (skW n b a) 6]
    refine am_zret_r ok_R_readEnd rfl rfl rfl rfl ?_
    simp_all [← Nat.not_lt]
    try rfl
  · skip
    refine am_steps_r ok_R_readEnd 5 (q' := (40, [some (.ref 16)], [.ref 1, .int (nI (skW n b a)), .ref 16], wd (upd C.1 4 (nI (skW n b a)), C.2) Y og)) rfl ?_
    refine am_callV_r (As := []) (rest := [.int (nI (skW n b a)), .ref 16]) ok_R_readEnd rfl rfl ok_T_size oi_T_size lk_1_62 (Or.inl ⟨_, _, _, rfl, rfl, rfl⟩) rfl rfl (Nat.le_of_ble_eq_true rfl) (c_T_size _ (upd C.1 4 (nI (skW n b a)), C.2) Y og n b hT) ?_
    rintro v_ w_ ⟨rfl, rfl⟩ -
    refine am_eq_r (q' := (43, [some (.ref 16)], [.int (nI n), .int (nI (skW n b a)), .ref 16], wd (upd C.1 4 (nI (skW n b a)), C.2) Y og)) rfl ?_
    refine am_steps_r ok_R_readEnd 1 (q' := (bif decide ((nI n) ≤ (nI (skW n b a))) then 50 else 46, [some (.ref 16)], [.ref 16], wd (upd C.1 4 (nI (skW n b a)), C.2) Y og)) rfl ?_
    refine am_br_r (fun h_7 => ?_) (fun h_7 => ?_)
    · skip
      have h_7 : n ≤ (skW n b a) := (nI_leI (show n < 2 ^ 31 by omega) (show (skW n b a) < 2 ^ 31 by omega)).mp h_7
      refine am_steps_r ok_R_readEnd 3 (q' := (55, [some (.ref 16)], [.int (nI (skW n b a)), .int 1, .ref 16], wd (upd C.1 4 (nI (skW n b a)), C.2) Y og)) rfl ?_
      refine am_callV_r (As := [.int 1, .int (nI (skW n b a))]) (rest := []) ok_R_readEnd rfl rfl ok_R_fail oi_R_fail lk_1_122 (Or.inl ⟨_, _, _, rfl, rfl, rfl⟩) rfl rfl (Nat.le_of_ble_eq_true rfl) (c_R_fail _ (upd C.1 4 (nI (skW n b a)), C.2) Y og 1 (nI (skW n b a))) ?_
      rintro v_ w_ ⟨rfl, rfl⟩ -
      refine am_eq_r (q' := (58, [some (.ref 16)], [.int (-1)], wd (upd (upd (upd C.1 4 (nI (skW n b a))) 5 1) 6 (nI (skW n b a)), C.2) Y og)) rfl ?_
      refine am_steps_r ok_R_readEnd 2 (q' := (60, [some (.ref 16)], [.int 0], wd (upd (upd (upd C.1 4 (nI (skW n b a))) 5 1) 6 (nI (skW n b a)), C.2) Y og)) rfl ?_
      refine am_zret_r ok_R_readEnd rfl rfl rfl rfl ?_
      simp_all [← Nat.not_lt]
      try rfl
    · skip
      have h_7 : ¬ n ≤ (skW n b a) := fun z => h_7 ((nI_leI (show n < 2 ^ 31 by omega) (show (skW n b a) < 2 ^ 31 by omega)).mpr z)
      refine am_steps_r ok_R_readEnd 4 (q' := (55, [some (.ref 16)], [.int (nI (skW n b a)), .int 2, .ref 16], wd (upd C.1 4 (nI (skW n b a)), C.2) Y og)) rfl ?_
      refine am_callV_r (As := [.int 2, .int (nI (skW n b a))]) (rest := []) ok_R_readEnd rfl rfl ok_R_fail oi_R_fail lk_1_122 (Or.inl ⟨_, _, _, rfl, rfl, rfl⟩) rfl rfl (Nat.le_of_ble_eq_true rfl) (c_R_fail _ (upd C.1 4 (nI (skW n b a)), C.2) Y og 2 (nI (skW n b a))) ?_
      rintro v_ w_ ⟨rfl, rfl⟩ -
      refine am_eq_r (q' := (58, [some (.ref 16)], [.int (-1)], wd (upd (upd (upd C.1 4 (nI (skW n b a))) 5 2) 6 (nI (skW n b a)), C.2) Y og)) rfl ?_
      refine am_steps_r ok_R_readEnd 2 (q' := (60, [some (.ref 16)], [.int 0], wd (upd (upd (upd C.1 4 (nI (skW n b a))) 5 2) 6 (nI (skW n b a)), C.2) Y og)) rfl ?_
      refine am_zret_r ok_R_readEnd rfl rfl rfl rfl ?_
      simp_all [← Nat.not_lt]
      try rfl
set_option maxHeartbeats 4000000 in
set_option maxRecDepth 100000 in
theorem lp_R_behindNextEnd_2 (d : Nat) (C : wd_C) (Y : wd_Y) (og : Nat → Int64) (n : Nat) (b : Nat → Int32) (hT : tpC C n b) (hfm : fm = .null ∨ fm = .ref 3000) (k : Nat) : ∀ (fu : Nat) (post : Option Value → am_W → Prop) (j : Nat), (1 ≤ j) → (j ≤ n) →  post (some (.int (nI (neE b (n - j) j)))) (wd C Y og) → n - j < fu → am_Rn l D cA ad fm (d + 6) m_R_behindNextEnd (wd C Y og).length post (2, [some (.ref 16), some (.int (nI k)), some (.int (nI j))], [], wd C Y og) := by
  intro fu
  induction fu with
  | zero => intro post j hj0 hj hp hfu; exact absurd hfu (Nat.not_lt_zero _)
  | succ fu ih =>
    intro post j hj0 hj hp hfu
    have hn := hT.2.1
    refine am_steps_r ok_R_behindNextEnd 3 (q' := (7, [some (.ref 16), some (.int (nI k)), some (.int (nI j))], [.ref 1, .int (nI j)], wd C Y og)) rfl ?_
    refine am_callV_r (As := []) (rest := [.int (nI j)]) ok_R_behindNextEnd rfl rfl ok_T_size oi_T_size lk_1_62 (Or.inl ⟨_, _, _, rfl, rfl, rfl⟩) rfl rfl (Nat.le_of_ble_eq_true rfl) (c_T_size _ C Y og n b hT) ?_
    rintro v_ w_ ⟨rfl, rfl⟩ -
    refine am_eq_r (q' := (10, [some (.ref 16), some (.int (nI k)), some (.int (nI j))], [.int (nI n), .int (nI j)], wd C Y og)) rfl ?_
    refine am_steps_r ok_R_behindNextEnd 1 (q' := (bif decide ((nI n) ≤ (nI j)) then 56 else 13, [some (.ref 16), some (.int (nI k)), some (.int (nI j))], [], wd C Y og)) rfl ?_
    refine am_br_r (fun h_2 => ?_) (fun h_2 => ?_)
    · skip
      have h_2 : n ≤ j := (nI_leI (show n < 2 ^ 31 by omega) (show j < 2 ^ 31 by omega)).mp h_2
      refine am_steps_r ok_R_behindNextEnd 2 (q' := (60, [some (.ref 16), some (.int (nI k)), some (.int (nI j))], [.ref 1], wd C Y og)) rfl ?_
      refine am_callV_r (As := []) (rest := []) ok_R_behindNextEnd rfl rfl ok_T_size oi_T_size lk_1_62 (Or.inl ⟨_, _, _, rfl, rfl, rfl⟩) rfl rfl (Nat.le_of_ble_eq_true rfl) (c_T_size _ C Y og n b hT) ?_
      rintro v_ w_ ⟨rfl, rfl⟩ -
      refine am_eq_r (q' := (63, [some (.ref 16), some (.int (nI k)), some (.int (nI j))], [.int (nI n)], wd C Y og)) rfl ?_
      refine am_iret_r ok_R_behindNextEnd rfl rfl rfl ?_
      first | (rw [show n - j = 0 by omega, neE] at hp; rw [show n = j by omega]; exact hp) | (rw [show n - j = (n - (j + 1)) + 1 by omega, neE, if_pos (by simp [*])] at hp; exact hp)
    · skip
      have h_2 : ¬ n ≤ j := fun z => h_2 ((nI_leI (show n < 2 ^ 31 by omega) (show j < 2 ^ 31 by omega)).mpr z)
      refine am_steps_r ok_R_behindNextEnd 4 (q' := (20, [some (.ref 16), some (.int (nI k)), some (.int (nI j))], [.ref 1010, .int (nI j), .ref 1], wd C Y og)) rfl ?_
      refine am_callV_r (As := [.int (nI j), .ref 1010]) (rest := []) ok_R_behindNextEnd rfl rfl ok_T_wordStands oi_T_wordStands lk_1_83 (Or.inl ⟨_, _, _, rfl, rfl, rfl⟩) rfl rfl (Nat.le_of_ble_eq_true rfl) (c_T_wordStands _ C Y og n b hT 10 1 120 "endobj" st_10 rfl (by decide) hfm j (by omega)) ?_
      rintro v_ w_ ⟨rfl, rfl⟩ -
      refine am_eq_r (q' := (23, [some (.ref 16), some (.int (nI k)), some (.int (nI j))], [.int (bz (wdA b st_10 j))], wd C Y og)) rfl ?_
      refine am_steps_r ok_R_behindNextEnd 1 (q' := (bif decide ((bz (wdA b st_10 j)) = 0) then 50 else 26, [some (.ref 16), some (.int (nI k)), some (.int (nI j))], [], wd C Y og)) rfl ?_
      refine am_bz_r (fun h_5 => ?_) (fun h_5 => ?_)
      · skip
        refine am_steps_r ok_R_behindNextEnd 5 (q' := (33, [some (.ref 16), some (.int (nI k)), some (.int (nI j))], [.int ((nI j) - 1), .ref 1], wd C Y og)) rfl ?_
        rw [show ((nI j) - 1 : Int32) = nI (j - 1) from pk_sub (a := j) (b := 1) (by omega)]
        refine am_callV_r (As := [.int (nI (j - 1))]) (rest := []) ok_R_behindNextEnd rfl rfl ok_T_at oi_T_at lk_1_125 (Or.inl ⟨_, _, _, rfl, rfl, rfl⟩) rfl rfl (Nat.le_of_ble_eq_true rfl) (c_T_at _ C Y og n b hT (j - 1) (by omega)) ?_
        rintro v_ w_ ⟨rfl, rfl⟩ -
        refine am_eq_r (q' := (36, [some (.ref 16), some (.int (nI k)), some (.int (nI j))], [.int (b (j - 1))], wd C Y og)) rfl ?_
        refine am_callN_r (As := [.int (b (j - 1))]) (rest := []) ok_R_behindNextEnd rfl rfl ok_S_isRegular os_S_isRegular ln_1_127 rfl rfl (Nat.le_of_ble_eq_true rfl) (c_S_isRegular _ C Y og (b (j - 1))) ?_
        rintro v_ w_ ⟨rfl, rfl⟩ -
        refine am_eq_r (q' := (39, [some (.ref 16), some (.int (nI k)), some (.int (nI j))], [.int (bz (isReg (b (j - 1))))], wd C Y og)) rfl ?_
        refine am_steps_r ok_R_behindNextEnd 1 (q' := (bif decide ((bz (isReg (b (j - 1)))) = 0) then 42 else 50, [some (.ref 16), some (.int (nI k)), some (.int (nI j))], [], wd C Y og)) rfl ?_
        refine am_bz_r (fun h_8 => ?_) (fun h_8 => ?_)
        · skip
          refine am_steps_r ok_R_behindNextEnd 2 (q' := (2, [some (.ref 16), some (.int (nI k)), some (.int ((nI j) + 1))], [], wd C Y og)) rfl ?_
          rw [show ((nI j) + 1 : Int32) = nI (j + 1) from nI_add j 1]
          refine ih post (j + 1) (by omega) (by omega) ?_ (by omega)
          rw [show n - j = (n - (j + 1)) + 1 by omega, neE, if_neg (by simp [*])] at hp
          exact hp
        · skip
          refine am_steps_r ok_R_behindNextEnd 2 (q' := (45, [some (.ref 16), some (.int (nI k)), some (.int (nI j))], [.ref 1010, .int (nI j)], wd C Y og)) rfl ?_
          refine am_callV_r (As := []) (rest := [.int (nI j)]) ok_R_behindNextEnd rfl rfl ok_J_length oi_J_length lk_1_91 (Or.inr ⟨rfl, 10, _, rfl, rfl⟩) rfl rfl (Nat.le_of_ble_eq_true rfl) (c_J_length _ C Y og 10 1 120 "endobj" st_10 rfl (by decide)) ?_
          rintro v_ w_ ⟨rfl, rfl⟩ -
          refine am_eq_r (q' := (48, [some (.ref 16), some (.int (nI k)), some (.int (nI j))], [.int 6, .int (nI j)], wd C Y og)) rfl ?_
          refine am_steps_r ok_R_behindNextEnd 1 (q' := (49, [some (.ref 16), some (.int (nI k)), some (.int (nI j))], [.int ((nI j) + 6)], wd C Y og)) rfl ?_
          rw [show ((nI j) + 6 : Int32) = nI (j + 6) from nI_add j 6]
          refine am_iret_r ok_R_behindNextEnd rfl rfl rfl ?_
          first | (rw [show n - j = 0 by omega, neE] at hp; rw [show n = j by omega]; exact hp) | (rw [show n - j = (n - (j + 1)) + 1 by omega, neE, if_pos (by simp [*])] at hp; exact hp)
      · skip
        refine am_steps_r ok_R_behindNextEnd 2 (q' := (2, [some (.ref 16), some (.int (nI k)), some (.int ((nI j) + 1))], [], wd C Y og)) rfl ?_
        rw [show ((nI j) + 1 : Int32) = nI (j + 1) from nI_add j 1]
        refine ih post (j + 1) (by omega) (by omega) ?_ (by omega)
        rw [show n - j = (n - (j + 1)) + 1 by omega, neE, if_neg (by simp [*])] at hp
        exact hp
set_option maxHeartbeats 4000000 in
set_option maxRecDepth 100000 in
theorem c_R_behindNextEnd (d : Nat) (C : wd_C) (Y : wd_Y) (og : Nat → Int64) (n : Nat) (b : Nat → Int32) (hT : tpC C n b) (hfm : fm = .null ∨ fm = .ref 3000) (k : Nat) (hk0 : 1 ≤ k) (hk : k ≤ n) : am_Mt l D cA ad fm (d + 6) m_R_behindNextEnd [.ref 16, .int (nI k)] (wd C Y og) (fun v w' => v = some (.int (nI (neE b (n - k) k))) ∧ w' = wd C Y og) := by
  refine am_mt ok_R_behindNextEnd (by simp [am_arg, Value.category, m_R_behindNextEnd, am_ml]) ?_
  refine am_eq_r (q' := (0, [some (.ref 16), some (.int (nI k)), none], [], wd C Y og)) rfl ?_
  refine am_steps_r ok_R_behindNextEnd 2 (q' := (2, [some (.ref 16), some (.int (nI k)), some (.int (nI k))], [], wd C Y og)) rfl ?_
  exact lp_R_behindNextEnd_2 d C Y og n b hT hfm k (n + 1) _ k hk0 hk ⟨rfl, rfl⟩ (by omega)
set_option maxHeartbeats 4000000 in
set_option maxRecDepth 100000 in
theorem c_R_behindStreamLine (d : Nat) (C : wd_C) (Y : wd_Y) (og : Nat → Int64) (n : Nat) (b : Nat → Int32) (hT : tpC C n b) (k : Nat) (hk : k ≤ n) : am_Mt l D cA ad fm (d + 1) m_R_behindStreamLine [.ref 16, .int (nI k)] (wd C Y og) (fun v w' => if b (if b k = 13 then k + 1 else k) = 10 then v = some (.int (nI ((if b k = 13 then k + 1 else k) + 1))) ∧ w' = wd C Y og else v = some (.int (-1)) ∧ w' = wd (upd (upd C.1 5 (if (if b k = 13 then k + 1 else k) < n then 2 else 1)) 6 (nI (if b k = 13 then k + 1 else k)), C.2) Y og) := by
  have hn := hT.2.1
  refine am_mt ok_R_behindStreamLine (by simp [am_arg, Value.category, m_R_behindStreamLine, am_ml]) ?_
  refine am_eq_r (q' := (0, [some (.ref 16), some (.int (nI k)), none], [], wd C Y og)) rfl ?_
  refine am_steps_r ok_R_behindStreamLine 3 (q' := (5, [some (.ref 16), some (.int (nI k)), none], [.int (nI k), .ref 1], wd C Y og)) rfl ?_
  refine am_callV_r (As := [.int (nI k)]) (rest := []) ok_R_behindStreamLine rfl rfl ok_T_at oi_T_at lk_1_125 (Or.inl ⟨_, _, _, rfl, rfl, rfl⟩) rfl rfl (Nat.le_of_ble_eq_true rfl) (c_T_at _ C Y og n b hT k (by omega)) ?_
  rintro v_ w_ ⟨rfl, rfl⟩ -
  refine am_eq_r (q' := (8, [some (.ref 16), some (.int (nI k)), none], [.int (b k)], wd C Y og)) rfl ?_
  refine am_steps_r ok_R_behindStreamLine 2 (q' := (bif decide ((b k) = 13) then 13 else 19, [some (.ref 16), some (.int (nI k)), none], [], wd C Y og)) rfl ?_
  refine am_br_r (fun h_2 => ?_) (fun h_2 => ?_)
  · skip
    refine am_steps_r ok_R_behindStreamLine 8 (q' := (26, [some (.ref 16), some (.int (nI k)), some (.int ((nI k) + 1))], [.int ((nI k) + 1), .ref 1], wd C Y og)) rfl ?_
    rw [show ((nI k) + 1 : Int32) = nI (k + 1) from nI_add k 1]
    refine am_callV_r (As := [.int (nI (k + 1))]) (rest := []) ok_R_behindStreamLine rfl rfl ok_T_at oi_T_at lk_1_125 (Or.inl ⟨_, _, _, rfl, rfl, rfl⟩) rfl rfl (Nat.le_of_ble_eq_true rfl) (c_T_at _ C Y og n b hT (k + 1) (by omega)) ?_
    rintro v_ w_ ⟨rfl, rfl⟩ -
    refine am_eq_r (q' := (29, [some (.ref 16), some (.int (nI k)), some (.int (nI (k + 1)))], [.int (b (k + 1))], wd C Y og)) rfl ?_
    refine am_steps_r ok_R_behindStreamLine 2 (q' := (bif decide ((b (k + 1)) = 10) then 34 else 38, [some (.ref 16), some (.int (nI k)), some (.int (nI (k + 1)))], [], wd C Y og)) rfl ?_
    refine am_br_r (fun h_4 => ?_) (fun h_4 => ?_)
    · skip
      refine am_steps_r ok_R_behindStreamLine 3 (q' := (37, [some (.ref 16), some (.int (nI k)), some (.int (nI (k + 1)))], [.int ((nI (k + 1)) + 1)], wd C Y og)) rfl ?_
      rw [show ((nI (k + 1)) + 1 : Int32) = nI ((k + 1) + 1) from nI_add (k + 1) 1]
      refine am_iret_r ok_R_behindStreamLine rfl rfl rfl ?_
      simp_all [← Nat.not_lt]
      try rfl
    · skip
      refine am_steps_r ok_R_behindStreamLine 4 (q' := (44, [some (.ref 16), some (.int (nI k)), some (.int (nI (k + 1)))], [.ref 1, .int (nI (k + 1)), .ref 16], wd C Y og)) rfl ?_
      refine am_callV_r (As := []) (rest := [.int (nI (k + 1)), .ref 16]) ok_R_behindStreamLine rfl rfl ok_T_size oi_T_size lk_1_62 (Or.inl ⟨_, _, _, rfl, rfl, rfl⟩) rfl rfl (Nat.le_of_ble_eq_true rfl) (c_T_size _ C Y og n b hT) ?_
      rintro v_ w_ ⟨rfl, rfl⟩ -
      refine am_eq_r (q' := (47, [some (.ref 16), some (.int (nI k)), some (.int (nI (k + 1)))], [.int (nI n), .int (nI (k + 1)), .ref 16], wd C Y og)) rfl ?_
      refine am_steps_r ok_R_behindStreamLine 1 (q' := (bif decide ((nI n) ≤ (nI (k + 1))) then 54 else 50, [some (.ref 16), some (.int (nI k)), some (.int (nI (k + 1)))], [.ref 16], wd C Y og)) rfl ?_
      refine am_br_r (fun h_6 => ?_) (fun h_6 => ?_)
      · skip
        have h_6 : n ≤ (k + 1) := (nI_leI (show n < 2 ^ 31 by omega) (show (k + 1) < 2 ^ 31 by omega)).mp h_6
        refine am_steps_r ok_R_behindStreamLine 2 (q' := (56, [some (.ref 16), some (.int (nI k)), some (.int (nI (k + 1)))], [.int (nI (k + 1)), .int 1, .ref 16], wd C Y og)) rfl ?_
        refine am_callV_r (As := [.int 1, .int (nI (k + 1))]) (rest := []) ok_R_behindStreamLine rfl rfl ok_R_fail oi_R_fail lk_1_122 (Or.inl ⟨_, _, _, rfl, rfl, rfl⟩) rfl rfl (Nat.le_of_ble_eq_true rfl) (c_R_fail _ C Y og 1 (nI (k + 1))) ?_
        rintro v_ w_ ⟨rfl, rfl⟩ -
        refine am_eq_r (q' := (59, [some (.ref 16), some (.int (nI k)), some (.int (nI (k + 1)))], [.int (-1)], wd (upd (upd C.1 5 1) 6 (nI (k + 1)), C.2) Y og)) rfl ?_
        refine am_iret_r ok_R_behindStreamLine rfl rfl rfl ?_
        simp_all [← Nat.not_lt]
        try rfl
      · skip
        have h_6 : ¬ n ≤ (k + 1) := fun z => h_6 ((nI_leI (show n < 2 ^ 31 by omega) (show (k + 1) < 2 ^ 31 by omega)).mpr z)
        refine am_steps_r ok_R_behindStreamLine 3 (q' := (56, [some (.ref 16), some (.int (nI k)), some (.int (nI (k + 1)))], [.int (nI (k + 1)), .int 2, .ref 16], wd C Y og)) rfl ?_
        refine am_callV_r (As := [.int 2, .int (nI (k + 1))]) (rest := []) ok_R_behindStreamLine rfl rfl ok_R_fail oi_R_fail lk_1_122 (Or.inl ⟨_, _, _, rfl, rfl, rfl⟩) rfl rfl (Nat.le_of_ble_eq_true rfl) (c_R_fail _ C Y og 2 (nI (k + 1))) ?_
        rintro v_ w_ ⟨rfl, rfl⟩ -
        refine am_eq_r (q' := (59, [some (.ref 16), some (.int (nI k)), some (.int (nI (k + 1)))], [.int (-1)], wd (upd (upd C.1 5 2) 6 (nI (k + 1)), C.2) Y og)) rfl ?_
        refine am_iret_r ok_R_behindStreamLine rfl rfl rfl ?_
        simp_all [← Nat.not_lt]
        try rfl
  · skip
    refine am_steps_r ok_R_behindStreamLine 5 (q' := (26, [some (.ref 16), some (.int (nI k)), some (.int (nI k))], [.int (nI k), .ref 1], wd C Y og)) rfl ?_
    refine am_callV_r (As := [.int (nI k)]) (rest := []) ok_R_behindStreamLine rfl rfl ok_T_at oi_T_at lk_1_125 (Or.inl ⟨_, _, _, rfl, rfl, rfl⟩) rfl rfl (Nat.le_of_ble_eq_true rfl) (c_T_at _ C Y og n b hT k (by omega)) ?_
    rintro v_ w_ ⟨rfl, rfl⟩ -
    refine am_eq_r (q' := (29, [some (.ref 16), some (.int (nI k)), some (.int (nI k))], [.int (b k)], wd C Y og)) rfl ?_
    refine am_steps_r ok_R_behindStreamLine 2 (q' := (bif decide ((b k) = 10) then 34 else 38, [some (.ref 16), some (.int (nI k)), some (.int (nI k))], [], wd C Y og)) rfl ?_
    refine am_br_r (fun h_10 => ?_) (fun h_10 => ?_)
    · skip
      refine am_steps_r ok_R_behindStreamLine 3 (q' := (37, [some (.ref 16), some (.int (nI k)), some (.int (nI k))], [.int ((nI k) + 1)], wd C Y og)) rfl ?_
      rw [show ((nI k) + 1 : Int32) = nI (k + 1) from nI_add k 1]
      refine am_iret_r ok_R_behindStreamLine rfl rfl rfl ?_
      simp_all [← Nat.not_lt]
      try rfl
    · skip
      refine am_steps_r ok_R_behindStreamLine 4 (q' := (44, [some (.ref 16), some (.int (nI k)), some (.int (nI k))], [.ref 1, .int (nI k), .ref 16], wd C Y og)) rfl ?_
      refine am_callV_r (As := []) (rest := [.int (nI k), .ref 16]) ok_R_behindStreamLine rfl rfl ok_T_size oi_T_size lk_1_62 (Or.inl ⟨_, _, _, rfl, rfl, rfl⟩) rfl rfl (Nat.le_of_ble_eq_true rfl) (c_T_size _ C Y og n b hT) ?_
      rintro v_ w_ ⟨rfl, rfl⟩ -
      refine am_eq_r (q' := (47, [some (.ref 16), some (.int (nI k)), some (.int (nI k))], [.int (nI n), .int (nI k), .ref 16], wd C Y og)) rfl ?_
      refine am_steps_r ok_R_behindStreamLine 1 (q' := (bif decide ((nI n) ≤ (nI k)) then 54 else 50, [some (.ref 16), some (.int (nI k)), some (.int (nI k))], [.ref 16], wd C Y og)) rfl ?_
      refine am_br_r (fun h_12 => ?_) (fun h_12 => ?_)
      · skip
        have h_12 : n ≤ k := (nI_leI (show n < 2 ^ 31 by omega) (show k < 2 ^ 31 by omega)).mp h_12
        refine am_steps_r ok_R_behindStreamLine 2 (q' := (56, [some (.ref 16), some (.int (nI k)), some (.int (nI k))], [.int (nI k), .int 1, .ref 16], wd C Y og)) rfl ?_
        refine am_callV_r (As := [.int 1, .int (nI k)]) (rest := []) ok_R_behindStreamLine rfl rfl ok_R_fail oi_R_fail lk_1_122 (Or.inl ⟨_, _, _, rfl, rfl, rfl⟩) rfl rfl (Nat.le_of_ble_eq_true rfl) (c_R_fail _ C Y og 1 (nI k)) ?_
        rintro v_ w_ ⟨rfl, rfl⟩ -
        refine am_eq_r (q' := (59, [some (.ref 16), some (.int (nI k)), some (.int (nI k))], [.int (-1)], wd (upd (upd C.1 5 1) 6 (nI k), C.2) Y og)) rfl ?_
        refine am_iret_r ok_R_behindStreamLine rfl rfl rfl ?_
        simp_all [← Nat.not_lt]
        try rfl
      · skip
        have h_12 : ¬ n ≤ k := fun z => h_12 ((nI_leI (show n < 2 ^ 31 by omega) (show k < 2 ^ 31 by omega)).mpr z)
        refine am_steps_r ok_R_behindStreamLine 3 (q' := (56, [some (.ref 16), some (.int (nI k)), some (.int (nI k))], [.int (nI k), .int 2, .ref 16], wd C Y og)) rfl ?_
        refine am_callV_r (As := [.int 2, .int (nI k)]) (rest := []) ok_R_behindStreamLine rfl rfl ok_R_fail oi_R_fail lk_1_122 (Or.inl ⟨_, _, _, rfl, rfl, rfl⟩) rfl rfl (Nat.le_of_ble_eq_true rfl) (c_R_fail _ C Y og 2 (nI k)) ?_
        rintro v_ w_ ⟨rfl, rfl⟩ -
        refine am_eq_r (q' := (59, [some (.ref 16), some (.int (nI k)), some (.int (nI k))], [.int (-1)], wd (upd (upd C.1 5 2) 6 (nI k), C.2) Y og)) rfl ?_
        refine am_iret_r ok_R_behindStreamLine rfl rfl rfl ?_
        simp_all [← Nat.not_lt]
        try rfl
set_option maxHeartbeats 4000000 in
set_option maxRecDepth 100000 in
theorem c_R_behindEndstream (d : Nat) (C : wd_C) (Y : wd_Y) (og : Nat → Int64) (n : Nat) (b : Nat → Int32) (hT : tpC C n b) (hfm : fm = .null ∨ fm = .ref 3000) (k : Nat) (hk : k < 1073700000) : am_Mt l D cA ad fm (d + 6) m_R_behindEndstream [.ref 16, .int (nI k)] (wd C Y og) (fun v w' => v = some (.int (if wdA b st_9 (leE b k) = true then nI (leE b k + 9) else -1)) ∧ w' = wd C Y og) := by
  have hn := hT.2.1
  have hle : leE b k ≤ k + 2 := by unfold leE; split; omega; split <;> omega
  refine am_mt ok_R_behindEndstream (by simp [am_arg, Value.category, m_R_behindEndstream, am_ml]) ?_
  refine am_eq_r (q' := (0, [some (.ref 16), some (.int (nI k)), none], [], wd C Y og)) rfl ?_
  refine am_steps_r ok_R_behindEndstream 3 (q' := (5, [some (.ref 16), some (.int (nI k)), none], [.int (nI k), .ref 1], wd C Y og)) rfl ?_
  refine am_callV_r (As := [.int (nI k)]) (rest := []) ok_R_behindEndstream rfl rfl ok_T_behindLineEnd oi_T_behindLineEnd lk_1_213 (Or.inl ⟨_, _, _, rfl, rfl, rfl⟩) rfl rfl (Nat.le_of_ble_eq_true rfl) (c_T_behindLineEnd _ C Y og n b hT k (by omega)) ?_
  rintro v_ w_ ⟨rfl, rfl⟩ -
  refine am_eq_r (q' := (8, [some (.ref 16), some (.int (nI k)), none], [.int (nI (leE b k))], wd C Y og)) rfl ?_
  refine am_steps_r ok_R_behindEndstream 5 (q' := (17, [some (.ref 16), some (.int (nI k)), some (.int (nI (leE b k)))], [.ref 1009, .int (nI (leE b k)), .ref 1], wd C Y og)) rfl ?_
  refine am_callV_r (As := [.int (nI (leE b k)), .ref 1009]) (rest := []) ok_R_behindEndstream rfl rfl ok_T_wordStands oi_T_wordStands lk_1_83 (Or.inl ⟨_, _, _, rfl, rfl, rfl⟩) rfl rfl (Nat.le_of_ble_eq_true rfl) (c_T_wordStands _ C Y og n b hT 9 1 256 "endstream" st_9 rfl (by decide) hfm (leE b k) (by omega)) ?_
  rintro v_ w_ ⟨rfl, rfl⟩ -
  refine am_eq_r (q' := (20, [some (.ref 16), some (.int (nI k)), some (.int (nI (leE b k)))], [.int (bz (wdA b st_9 (leE b k)))], wd C Y og)) rfl ?_
  refine am_steps_r ok_R_behindEndstream 1 (q' := (bif decide ((bz (wdA b st_9 (leE b k))) = 0) then 34 else 23, [some (.ref 16), some (.int (nI k)), some (.int (nI (leE b k)))], [], wd C Y og)) rfl ?_
  refine am_bz_r (fun h_3 => ?_) (fun h_3 => ?_)
  · skip
    refine am_steps_r ok_R_behindEndstream 2 (q' := (27, [some (.ref 16), some (.int (nI k)), some (.int (nI (leE b k)))], [.ref 1009, .int (nI (leE b k))], wd C Y og)) rfl ?_
    refine am_callV_r (As := []) (rest := [.int (nI (leE b k))]) ok_R_behindEndstream rfl rfl ok_J_length oi_J_length lk_1_91 (Or.inr ⟨rfl, 9, _, rfl, rfl⟩) rfl rfl (Nat.le_of_ble_eq_true rfl) (c_J_length _ C Y og 9 1 256 "endstream" st_9 rfl (by decide)) ?_
    rintro v_ w_ ⟨rfl, rfl⟩ -
    refine am_eq_r (q' := (30, [some (.ref 16), some (.int (nI k)), some (.int (nI (leE b k)))], [.int 9, .int (nI (leE b k))], wd C Y og)) rfl ?_
    refine am_steps_r ok_R_behindEndstream 2 (q' := (35, [some (.ref 16), some (.int (nI k)), some (.int (nI (leE b k)))], [.int ((nI (leE b k)) + 9)], wd C Y og)) rfl ?_
    rw [show ((nI (leE b k)) + 9 : Int32) = nI ((leE b k) + 9) from nI_add (leE b k) 9]
    refine am_iret_r ok_R_behindEndstream rfl rfl rfl ?_
    refine ⟨?_, rfl⟩
    simp_all
  · skip
    refine am_steps_r ok_R_behindEndstream 1 (q' := (35, [some (.ref 16), some (.int (nI k)), some (.int (nI (leE b k)))], [.int (-1)], wd C Y og)) rfl ?_
    refine am_iret_r ok_R_behindEndstream rfl rfl rfl ?_
    refine ⟨?_, rfl⟩
    simp_all
end C25
