/-! the component reads numbers and words; printed by wip/gen/g48.py -/
section C48
variable {l : Launch} {D : va_G} {cA : Nat → ClassId} {ad : Nat → Nat} {fm : Value}
set_option maxHeartbeats 400000 in
set_option maxRecDepth 100000 in
theorem lp_R_readNumber_177 (d : Nat) (Y : wd_Y) (og : Nat → Int64) (n : Nat) (b : Nat → Int32) (C0 : wd_C) (hT0 : tpC C0 n b) (nv u : Nat) (V : VT) (C : wd_C) (hL : lfC C0 C nv u V 0 0 []) (p e : Nat) (ha : C.1 4 = nI e) (hpe : p < e) (hen : e ≤ n) (sg pt bf bh : Nat) (hsg : sg < 5000) (hpt : pt < 5000)  : ∀ (fu : Nat) (post : Option Value → am_W → Prop) (j : Nat) (s : Int64), (j ≤ 6) → (∀ vr w', lfP C0 Y og nv u V (.inr (if 0 < pt then 3 else 2, (if b p = 45 then -(m10 (if 0 < pt then 6 - j else 0) s) else m10 (if 0 < pt then 6 - j else 0) s), [], e, if 1 < sg then 1 else 0)) vr w' → post vr w') → 6 - j < fu → am_Rn l D cA ad fm (d + 2) m_R_readNumber (wd C Y og).length post (177, [some (.ref 16), some (.int (nI nv)), some (.int (nI p)), some (.int (nI e)), some (.int (nI sg)), some (.int (nI pt)), some (.int (nI bf)), some (.int (nI bh)), some (.long s), none, some (.int (nI j)), none], [], wd C Y og) := by
  intro fu
  induction fu with
  | zero => intro post j s hj hpo hfu; exact absurd hfu (Nat.not_lt_zero _)
  | succ fu ih =>
    intro post j s hj hpo hfu
    have hT := tpC_f hT0 hL.2.2.1
    have hn := hT.2.1
    have hal := hL.1.1.2.1
    refine am_steps_r ok_R_readNumber 2 (q' := (bif decide ((nI pt) ≤ 0) then 203 else 182, [some (.ref 16), some (.int (nI nv)), some (.int (nI p)), some (.int (nI e)), some (.int (nI sg)), some (.int (nI pt)), some (.int (nI bf)), some (.int (nI bh)), some (.long s), none, some (.int (nI j)), none], [], wd C Y og)) rfl ?_
    refine am_br_r (fun h_1 => ?_) (fun h_1 => ?_)
    · skip
      have h_1 : pt ≤ 0 := (nI_leI (show pt < 2 ^ 31 by omega) (show 0 < 2 ^ 31 by omega)).mp h_1
      refine am_steps_r ok_R_readNumber 6 (q' := (bif decide ((nI sg) ≤ 1) then 218 else 214, [some (.ref 16), some (.int (nI nv)), some (.int (nI p)), some (.int (nI e)), some (.int (nI sg)), some (.int (nI pt)), some (.int (nI bf)), some (.int (nI bh)), some (.long s), none, some (.int (nI j)), none], [.int (C.1 7), .ref 16], wd C Y og)) rfl ?_
      refine am_br_r (fun h_2 => ?_) (fun h_2 => ?_)
      · skip
        have h_2 : sg ≤ 1 := (nI_leI (show sg < 2 ^ 31 by omega) (show 1 < 2 ^ 31 by omega)).mp h_2
        refine am_steps_r ok_R_readNumber 8 (q' := (bif decide ((nI pt) ≤ 0) then 237 else 233, [some (.ref 16), some (.int (nI nv)), some (.int (nI p)), some (.int (nI e)), some (.int (nI sg)), some (.int (nI pt)), some (.int (nI bf)), some (.int (nI bh)), some (.long s), none, some (.int (nI j)), none], [.int (nI nv), .ref 3], wd (upd C.1 7 ((C.1 7) ||| 0), C.2) Y og)) rfl ?_
        refine am_br_r (fun h_3 => ?_) (fun h_3 => ?_)
        · skip
          have h_3 : pt ≤ 0 := (nI_leI (show pt < 2 ^ 31 by omega) (show 0 < 2 ^ 31 by omega)).mp h_3
          refine am_steps_r ok_R_readNumber 4 (q' := (243, [some (.ref 16), some (.int (nI nv)), some (.int (nI p)), some (.int (nI e)), some (.int (nI sg)), some (.int (nI pt)), some (.int (nI bf)), some (.int (nI bh)), some (.long s), none, some (.int (nI j)), none], [.int (nI p), .ref 1, .int 2, .int (nI nv), .ref 3], wd (upd C.1 7 ((C.1 7) ||| 0), C.2) Y og)) rfl ?_
          refine am_callV_r (As := [.int (nI p)]) (rest := [.int 2, .int (nI nv), .ref 3]) ok_R_readNumber rfl rfl ok_T_at oi_T_at lk_1_125 (Or.inl ⟨_, _, _, rfl, rfl, rfl⟩) rfl rfl (Nat.le_of_ble_eq_true rfl) (c_T_at _ (upd C.1 7 ((C.1 7) ||| 0), C.2) Y og n b hT p (by omega)) ?_
          rintro v_ w_ ⟨rfl, rfl⟩ -
          refine am_eq_r (q' := (246, [some (.ref 16), some (.int (nI nv)), some (.int (nI p)), some (.int (nI e)), some (.int (nI sg)), some (.int (nI pt)), some (.int (nI bf)), some (.int (nI bh)), some (.long s), none, some (.int (nI j)), none], [.int (b p), .int 2, .int (nI nv), .ref 3], wd (upd C.1 7 ((C.1 7) ||| 0), C.2) Y og)) rfl ?_
          refine am_steps_r ok_R_readNumber 2 (q' := (bif decide ((b p) = 45) then 251 else 257, [some (.ref 16), some (.int (nI nv)), some (.int (nI p)), some (.int (nI e)), some (.int (nI sg)), some (.int (nI pt)), some (.int (nI bf)), some (.int (nI bh)), some (.long s), none, some (.int (nI j)), none], [.int 2, .int (nI nv), .ref 3], wd (upd C.1 7 ((C.1 7) ||| 0), C.2) Y og)) rfl ?_
          refine am_br_r (fun h_5 => ?_) (fun h_5 => ?_)
          · skip
            refine am_steps_r ok_R_readNumber 3 (q' := (259, [some (.ref 16), some (.int (nI nv)), some (.int (nI p)), some (.int (nI e)), some (.int (nI sg)), some (.int (nI pt)), some (.int (nI bf)), some (.int (nI bh)), some (.long s), none, some (.int (nI j)), none], [.long (-s), .int 2, .int (nI nv), .ref 3], wd (upd C.1 7 ((C.1 7) ||| 0), C.2) Y og)) rfl ?_
            refine am_callV_r (As := [.int (nI nv), .int 2, .long (-s)]) (rest := []) ok_R_readNumber rfl rfl ok_V_setKind oi_V_setKind lk_1_155 (Or.inl ⟨_, _, _, rfl, rfl, rfl⟩) rfl rfl (Nat.le_of_ble_eq_true rfl) (c_V_setKind _ (upd C.1 7 ((C.1 7) ||| 0), C.2) Y og (nv + 1) (u + 0) hL.1.1 nv (by omega) 2 (-s)) ?_
            rintro v_ w_ ⟨rfl, rfl⟩ -
            refine am_eq_r (q' := (262, [some (.ref 16), some (.int (nI nv)), some (.int (nI p)), some (.int (nI e)), some (.int (nI sg)), some (.int (nI pt)), some (.int (nI bf)), some (.int (nI bh)), some (.long s), none, some (.int (nI j)), none], [], wd (vKind (upd C.1 7 ((C.1 7) ||| 0), C.2) nv 2 (-s)) Y og)) rfl ?_
            refine am_steps_r ok_R_readNumber 1 (q' := (263, [some (.ref 16), some (.int (nI nv)), some (.int (nI p)), some (.int (nI e)), some (.int (nI sg)), some (.int (nI pt)), some (.int (nI bf)), some (.int (nI bh)), some (.long s), none, some (.int (nI j)), none], [.int (nI nv)], wd (vKind (upd C.1 7 ((C.1 7) ||| 0), C.2) nv 2 (-s)) Y og)) rfl ?_
            refine am_iret_r ok_R_readNumber rfl rfl rfl ?_
            refine hpo _ _ ?_
            rw [show m10 (if 0 < pt then 6 - j else 0) s = s from by first | (rw [if_neg (by omega)]; rfl) | (rw [if_pos (by omega), show 6 - j = 0 by omega]; rfl)]
            rw [if_pos (show b p = 45 by assumption), if_neg (show ¬ 0 < pt by omega), if_neg (show ¬ 1 < sg by omega)]
            exact lfP_odd (C := vKind C nv 2 (-s)) (lfC_kind hL 2 (-s)) ha 0
          · skip
            refine am_steps_r ok_R_readNumber 1 (q' := (259, [some (.ref 16), some (.int (nI nv)), some (.int (nI p)), some (.int (nI e)), some (.int (nI sg)), some (.int (nI pt)), some (.int (nI bf)), some (.int (nI bh)), some (.long s), none, some (.int (nI j)), none], [.long s, .int 2, .int (nI nv), .ref 3], wd (upd C.1 7 ((C.1 7) ||| 0), C.2) Y og)) rfl ?_
            refine am_callV_r (As := [.int (nI nv), .int 2, .long s]) (rest := []) ok_R_readNumber rfl rfl ok_V_setKind oi_V_setKind lk_1_155 (Or.inl ⟨_, _, _, rfl, rfl, rfl⟩) rfl rfl (Nat.le_of_ble_eq_true rfl) (c_V_setKind _ (upd C.1 7 ((C.1 7) ||| 0), C.2) Y og (nv + 1) (u + 0) hL.1.1 nv (by omega) 2 s) ?_
            rintro v_ w_ ⟨rfl, rfl⟩ -
            refine am_eq_r (q' := (262, [some (.ref 16), some (.int (nI nv)), some (.int (nI p)), some (.int (nI e)), some (.int (nI sg)), some (.int (nI pt)), some (.int (nI bf)), some (.int (nI bh)), some (.long s), none, some (.int (nI j)), none], [], wd (vKind (upd C.1 7 ((C.1 7) ||| 0), C.2) nv 2 s) Y og)) rfl ?_
            refine am_steps_r ok_R_readNumber 1 (q' := (263, [some (.ref 16), some (.int (nI nv)), some (.int (nI p)), some (.int (nI e)), some (.int (nI sg)), some (.int (nI pt)), some (.int (nI bf)), some (.int (nI bh)), some (.long s), none, some (.int (nI j)), none], [.int (nI nv)], wd (vKind (upd C.1 7 ((C.1 7) ||| 0), C.2) nv 2 s) Y og)) rfl ?_
            refine am_iret_r ok_R_readNumber rfl rfl rfl ?_
            refine hpo _ _ ?_
            rw [show m10 (if 0 < pt then 6 - j else 0) s = s from by first | (rw [if_neg (by omega)]; rfl) | (rw [if_pos (by omega), show 6 - j = 0 by omega]; rfl)]
            rw [if_neg (show ¬ b p = 45 by assumption), if_neg (show ¬ 0 < pt by omega), if_neg (show ¬ 1 < sg by omega)]
            exact lfP_odd (C := vKind C nv 2 s) (lfC_kind hL 2 s) ha 0
        · skip
          have h_3 : ¬ pt ≤ 0 := fun z => h_3 ((nI_leI (show pt < 2 ^ 31 by omega) (show 0 < 2 ^ 31 by omega)).mpr z)
          first | contradiction | exact absurd (show 0 < (nI pt) by assumption) (Int32.not_lt.mpr (show (nI pt) ≤ 0 by assumption)) | exact absurd (Int32.not_le.mp (show ¬ (nI pt) ≤ 0 by assumption)) (show ¬ 0 < (nI pt) by assumption) | (exfalso; omega)
      · skip
        have h_2 : ¬ sg ≤ 1 := fun z => h_2 ((nI_leI (show sg < 2 ^ 31 by omega) (show 1 < 2 ^ 31 by omega)).mpr z)
        refine am_steps_r ok_R_readNumber 9 (q' := (bif decide ((nI pt) ≤ 0) then 237 else 233, [some (.ref 16), some (.int (nI nv)), some (.int (nI p)), some (.int (nI e)), some (.int (nI sg)), some (.int (nI pt)), some (.int (nI bf)), some (.int (nI bh)), some (.long s), none, some (.int (nI j)), none], [.int (nI nv), .ref 3], wd (upd C.1 7 ((C.1 7) ||| 1), C.2) Y og)) rfl ?_
        refine am_br_r (fun h_8 => ?_) (fun h_8 => ?_)
        · skip
          have h_8 : pt ≤ 0 := (nI_leI (show pt < 2 ^ 31 by omega) (show 0 < 2 ^ 31 by omega)).mp h_8
          refine am_steps_r ok_R_readNumber 4 (q' := (243, [some (.ref 16), some (.int (nI nv)), some (.int (nI p)), some (.int (nI e)), some (.int (nI sg)), some (.int (nI pt)), some (.int (nI bf)), some (.int (nI bh)), some (.long s), none, some (.int (nI j)), none], [.int (nI p), .ref 1, .int 2, .int (nI nv), .ref 3], wd (upd C.1 7 ((C.1 7) ||| 1), C.2) Y og)) rfl ?_
          refine am_callV_r (As := [.int (nI p)]) (rest := [.int 2, .int (nI nv), .ref 3]) ok_R_readNumber rfl rfl ok_T_at oi_T_at lk_1_125 (Or.inl ⟨_, _, _, rfl, rfl, rfl⟩) rfl rfl (Nat.le_of_ble_eq_true rfl) (c_T_at _ (upd C.1 7 ((C.1 7) ||| 1), C.2) Y og n b hT p (by omega)) ?_
          rintro v_ w_ ⟨rfl, rfl⟩ -
          refine am_eq_r (q' := (246, [some (.ref 16), some (.int (nI nv)), some (.int (nI p)), some (.int (nI e)), some (.int (nI sg)), some (.int (nI pt)), some (.int (nI bf)), some (.int (nI bh)), some (.long s), none, some (.int (nI j)), none], [.int (b p), .int 2, .int (nI nv), .ref 3], wd (upd C.1 7 ((C.1 7) ||| 1), C.2) Y og)) rfl ?_
          refine am_steps_r ok_R_readNumber 2 (q' := (bif decide ((b p) = 45) then 251 else 257, [some (.ref 16), some (.int (nI nv)), some (.int (nI p)), some (.int (nI e)), some (.int (nI sg)), some (.int (nI pt)), some (.int (nI bf)), some (.int (nI bh)), some (.long s), none, some (.int (nI j)), none], [.int 2, .int (nI nv), .ref 3], wd (upd C.1 7 ((C.1 7) ||| 1), C.2) Y og)) rfl ?_
          refine am_br_r (fun h_10 => ?_) (fun h_10 => ?_)
          · skip
            refine am_steps_r ok_R_readNumber 3 (q' := (259, [some (.ref 16), some (.int (nI nv)), some (.int (nI p)), some (.int (nI e)), some (.int (nI sg)), some (.int (nI pt)), some (.int (nI bf)), some (.int (nI bh)), some (.long s), none, some (.int (nI j)), none], [.long (-s), .int 2, .int (nI nv), .ref 3], wd (upd C.1 7 ((C.1 7) ||| 1), C.2) Y og)) rfl ?_
            refine am_callV_r (As := [.int (nI nv), .int 2, .long (-s)]) (rest := []) ok_R_readNumber rfl rfl ok_V_setKind oi_V_setKind lk_1_155 (Or.inl ⟨_, _, _, rfl, rfl, rfl⟩) rfl rfl (Nat.le_of_ble_eq_true rfl) (c_V_setKind _ (upd C.1 7 ((C.1 7) ||| 1), C.2) Y og (nv + 1) (u + 0) hL.1.1 nv (by omega) 2 (-s)) ?_
            rintro v_ w_ ⟨rfl, rfl⟩ -
            refine am_eq_r (q' := (262, [some (.ref 16), some (.int (nI nv)), some (.int (nI p)), some (.int (nI e)), some (.int (nI sg)), some (.int (nI pt)), some (.int (nI bf)), some (.int (nI bh)), some (.long s), none, some (.int (nI j)), none], [], wd (vKind (upd C.1 7 ((C.1 7) ||| 1), C.2) nv 2 (-s)) Y og)) rfl ?_
            refine am_steps_r ok_R_readNumber 1 (q' := (263, [some (.ref 16), some (.int (nI nv)), some (.int (nI p)), some (.int (nI e)), some (.int (nI sg)), some (.int (nI pt)), some (.int (nI bf)), some (.int (nI bh)), some (.long s), none, some (.int (nI j)), none], [.int (nI nv)], wd (vKind (upd C.1 7 ((C.1 7) ||| 1), C.2) nv 2 (-s)) Y og)) rfl ?_
            refine am_iret_r ok_R_readNumber rfl rfl rfl ?_
            refine hpo _ _ ?_
            rw [show m10 (if 0 < pt then 6 - j else 0) s = s from by first | (rw [if_neg (by omega)]; rfl) | (rw [if_pos (by omega), show 6 - j = 0 by omega]; rfl)]
            rw [if_pos (show b p = 45 by assumption), if_neg (show ¬ 0 < pt by omega), if_pos (show 1 < sg by omega)]
            exact lfP_odd (C := vKind C nv 2 (-s)) (lfC_kind hL 2 (-s)) ha 1
          · skip
            refine am_steps_r ok_R_readNumber 1 (q' := (259, [some (.ref 16), some (.int (nI nv)), some (.int (nI p)), some (.int (nI e)), some (.int (nI sg)), some (.int (nI pt)), some (.int (nI bf)), some (.int (nI bh)), some (.long s), none, some (.int (nI j)), none], [.long s, .int 2, .int (nI nv), .ref 3], wd (upd C.1 7 ((C.1 7) ||| 1), C.2) Y og)) rfl ?_
            refine am_callV_r (As := [.int (nI nv), .int 2, .long s]) (rest := []) ok_R_readNumber rfl rfl ok_V_setKind oi_V_setKind lk_1_155 (Or.inl ⟨_, _, _, rfl, rfl, rfl⟩) rfl rfl (Nat.le_of_ble_eq_true rfl) (c_V_setKind _ (upd C.1 7 ((C.1 7) ||| 1), C.2) Y og (nv + 1) (u + 0) hL.1.1 nv (by omega) 2 s) ?_
            rintro v_ w_ ⟨rfl, rfl⟩ -
            refine am_eq_r (q' := (262, [some (.ref 16), some (.int (nI nv)), some (.int (nI p)), some (.int (nI e)), some (.int (nI sg)), some (.int (nI pt)), some (.int (nI bf)), some (.int (nI bh)), some (.long s), none, some (.int (nI j)), none], [], wd (vKind (upd C.1 7 ((C.1 7) ||| 1), C.2) nv 2 s) Y og)) rfl ?_
            refine am_steps_r ok_R_readNumber 1 (q' := (263, [some (.ref 16), some (.int (nI nv)), some (.int (nI p)), some (.int (nI e)), some (.int (nI sg)), some (.int (nI pt)), some (.int (nI bf)), some (.int (nI bh)), some (.long s), none, some (.int (nI j)), none], [.int (nI nv)], wd (vKind (upd C.1 7 ((C.1 7) ||| 1), C.2) nv 2 s) Y og)) rfl ?_
            refine am_iret_r ok_R_readNumber rfl rfl rfl ?_
            refine hpo _ _ ?_
            rw [show m10 (if 0 < pt then 6 - j else 0) s = s from by first | (rw [if_neg (by omega)]; rfl) | (rw [if_pos (by omega), show 6 - j = 0 by omega]; rfl)]
            rw [if_neg (show ¬ b p = 45 by assumption), if_neg (show ¬ 0 < pt by omega), if_pos (show 1 < sg by omega)]
            exact lfP_odd (C := vKind C nv 2 s) (lfC_kind hL 2 s) ha 1
        · skip
          have h_8 : ¬ pt ≤ 0 := fun z => h_8 ((nI_leI (show pt < 2 ^ 31 by omega) (show 0 < 2 ^ 31 by omega)).mpr z)
          first | contradiction | exact absurd (show 0 < (nI pt) by assumption) (Int32.not_lt.mpr (show (nI pt) ≤ 0 by assumption)) | exact absurd (Int32.not_le.mp (show ¬ (nI pt) ≤ 0 by assumption)) (show ¬ 0 < (nI pt) by assumption) | (exfalso; omega)
    · skip
      have h_1 : ¬ pt ≤ 0 := fun z => h_1 ((nI_leI (show pt < 2 ^ 31 by omega) (show 0 < 2 ^ 31 by omega)).mpr z)
      refine am_steps_r ok_R_readNumber 3 (q' := (bif decide (6 ≤ (nI j)) then 203 else 189, [some (.ref 16), some (.int (nI nv)), some (.int (nI p)), some (.int (nI e)), some (.int (nI sg)), some (.int (nI pt)), some (.int (nI bf)), some (.int (nI bh)), some (.long s), none, some (.int (nI j)), none], [], wd C Y og)) rfl ?_
      refine am_br_r (fun h_13 => ?_) (fun h_13 => ?_)
      · skip
        have h_13 : 6 ≤ j := (nI_leI (show 6 < 2 ^ 31 by omega) (show j < 2 ^ 31 by omega)).mp h_13
        refine am_steps_r ok_R_readNumber 6 (q' := (bif decide ((nI sg) ≤ 1) then 218 else 214, [some (.ref 16), some (.int (nI nv)), some (.int (nI p)), some (.int (nI e)), some (.int (nI sg)), some (.int (nI pt)), some (.int (nI bf)), some (.int (nI bh)), some (.long s), none, some (.int (nI j)), none], [.int (C.1 7), .ref 16], wd C Y og)) rfl ?_
        refine am_br_r (fun h_14 => ?_) (fun h_14 => ?_)
        · skip
          have h_14 : sg ≤ 1 := (nI_leI (show sg < 2 ^ 31 by omega) (show 1 < 2 ^ 31 by omega)).mp h_14
          refine am_steps_r ok_R_readNumber 8 (q' := (bif decide ((nI pt) ≤ 0) then 237 else 233, [some (.ref 16), some (.int (nI nv)), some (.int (nI p)), some (.int (nI e)), some (.int (nI sg)), some (.int (nI pt)), some (.int (nI bf)), some (.int (nI bh)), some (.long s), none, some (.int (nI j)), none], [.int (nI nv), .ref 3], wd (upd C.1 7 ((C.1 7) ||| 0), C.2) Y og)) rfl ?_
          refine am_br_r (fun h_15 => ?_) (fun h_15 => ?_)
          · skip
            have h_15 : pt ≤ 0 := (nI_leI (show pt < 2 ^ 31 by omega) (show 0 < 2 ^ 31 by omega)).mp h_15
            first | contradiction | exact absurd (show 0 < (nI pt) by assumption) (Int32.not_lt.mpr (show (nI pt) ≤ 0 by assumption)) | exact absurd (Int32.not_le.mp (show ¬ (nI pt) ≤ 0 by assumption)) (show ¬ 0 < (nI pt) by assumption) | (exfalso; omega)
          · skip
            have h_15 : ¬ pt ≤ 0 := fun z => h_15 ((nI_leI (show pt < 2 ^ 31 by omega) (show 0 < 2 ^ 31 by omega)).mpr z)
            refine am_steps_r ok_R_readNumber 5 (q' := (243, [some (.ref 16), some (.int (nI nv)), some (.int (nI p)), some (.int (nI e)), some (.int (nI sg)), some (.int (nI pt)), some (.int (nI bf)), some (.int (nI bh)), some (.long s), none, some (.int (nI j)), none], [.int (nI p), .ref 1, .int 3, .int (nI nv), .ref 3], wd (upd C.1 7 ((C.1 7) ||| 0), C.2) Y og)) rfl ?_
            refine am_callV_r (As := [.int (nI p)]) (rest := [.int 3, .int (nI nv), .ref 3]) ok_R_readNumber rfl rfl ok_T_at oi_T_at lk_1_125 (Or.inl ⟨_, _, _, rfl, rfl, rfl⟩) rfl rfl (Nat.le_of_ble_eq_true rfl) (c_T_at _ (upd C.1 7 ((C.1 7) ||| 0), C.2) Y og n b hT p (by omega)) ?_
            rintro v_ w_ ⟨rfl, rfl⟩ -
            refine am_eq_r (q' := (246, [some (.ref 16), some (.int (nI nv)), some (.int (nI p)), some (.int (nI e)), some (.int (nI sg)), some (.int (nI pt)), some (.int (nI bf)), some (.int (nI bh)), some (.long s), none, some (.int (nI j)), none], [.int (b p), .int 3, .int (nI nv), .ref 3], wd (upd C.1 7 ((C.1 7) ||| 0), C.2) Y og)) rfl ?_
            refine am_steps_r ok_R_readNumber 2 (q' := (bif decide ((b p) = 45) then 251 else 257, [some (.ref 16), some (.int (nI nv)), some (.int (nI p)), some (.int (nI e)), some (.int (nI sg)), some (.int (nI pt)), some (.int (nI bf)), some (.int (nI bh)), some (.long s), none, some (.int (nI j)), none], [.int 3, .int (nI nv), .ref 3], wd (upd C.1 7 ((C.1 7) ||| 0), C.2) Y og)) rfl ?_
            refine am_br_r (fun h_17 => ?_) (fun h_17 => ?_)
            · skip
              refine am_steps_r ok_R_readNumber 3 (q' := (259, [some (.ref 16), some (.int (nI nv)), some (.int (nI p)), some (.int (nI e)), some (.int (nI sg)), some (.int (nI pt)), some (.int (nI bf)), some (.int (nI bh)), some (.long s), none, some (.int (nI j)), none], [.long (-s), .int 3, .int (nI nv), .ref 3], wd (upd C.1 7 ((C.1 7) ||| 0), C.2) Y og)) rfl ?_
              refine am_callV_r (As := [.int (nI nv), .int 3, .long (-s)]) (rest := []) ok_R_readNumber rfl rfl ok_V_setKind oi_V_setKind lk_1_155 (Or.inl ⟨_, _, _, rfl, rfl, rfl⟩) rfl rfl (Nat.le_of_ble_eq_true rfl) (c_V_setKind _ (upd C.1 7 ((C.1 7) ||| 0), C.2) Y og (nv + 1) (u + 0) hL.1.1 nv (by omega) 3 (-s)) ?_
              rintro v_ w_ ⟨rfl, rfl⟩ -
              refine am_eq_r (q' := (262, [some (.ref 16), some (.int (nI nv)), some (.int (nI p)), some (.int (nI e)), some (.int (nI sg)), some (.int (nI pt)), some (.int (nI bf)), some (.int (nI bh)), some (.long s), none, some (.int (nI j)), none], [], wd (vKind (upd C.1 7 ((C.1 7) ||| 0), C.2) nv 3 (-s)) Y og)) rfl ?_
              refine am_steps_r ok_R_readNumber 1 (q' := (263, [some (.ref 16), some (.int (nI nv)), some (.int (nI p)), some (.int (nI e)), some (.int (nI sg)), some (.int (nI pt)), some (.int (nI bf)), some (.int (nI bh)), some (.long s), none, some (.int (nI j)), none], [.int (nI nv)], wd (vKind (upd C.1 7 ((C.1 7) ||| 0), C.2) nv 3 (-s)) Y og)) rfl ?_
              refine am_iret_r ok_R_readNumber rfl rfl rfl ?_
              refine hpo _ _ ?_
              rw [show m10 (if 0 < pt then 6 - j else 0) s = s from by first | (rw [if_neg (by omega)]; rfl) | (rw [if_pos (by omega), show 6 - j = 0 by omega]; rfl)]
              rw [if_pos (show b p = 45 by assumption), if_pos (show 0 < pt by omega), if_neg (show ¬ 1 < sg by omega)]
              exact lfP_odd (C := vKind C nv 3 (-s)) (lfC_kind hL 3 (-s)) ha 0
            · skip
              refine am_steps_r ok_R_readNumber 1 (q' := (259, [some (.ref 16), some (.int (nI nv)), some (.int (nI p)), some (.int (nI e)), some (.int (nI sg)), some (.int (nI pt)), some (.int (nI bf)), some (.int (nI bh)), some (.long s), none, some (.int (nI j)), none], [.long s, .int 3, .int (nI nv), .ref 3], wd (upd C.1 7 ((C.1 7) ||| 0), C.2) Y og)) rfl ?_
              refine am_callV_r (As := [.int (nI nv), .int 3, .long s]) (rest := []) ok_R_readNumber rfl rfl ok_V_setKind oi_V_setKind lk_1_155 (Or.inl ⟨_, _, _, rfl, rfl, rfl⟩) rfl rfl (Nat.le_of_ble_eq_true rfl) (c_V_setKind _ (upd C.1 7 ((C.1 7) ||| 0), C.2) Y og (nv + 1) (u + 0) hL.1.1 nv (by omega) 3 s) ?_
              rintro v_ w_ ⟨rfl, rfl⟩ -
              refine am_eq_r (q' := (262, [some (.ref 16), some (.int (nI nv)), some (.int (nI p)), some (.int (nI e)), some (.int (nI sg)), some (.int (nI pt)), some (.int (nI bf)), some (.int (nI bh)), some (.long s), none, some (.int (nI j)), none], [], wd (vKind (upd C.1 7 ((C.1 7) ||| 0), C.2) nv 3 s) Y og)) rfl ?_
              refine am_steps_r ok_R_readNumber 1 (q' := (263, [some (.ref 16), some (.int (nI nv)), some (.int (nI p)), some (.int (nI e)), some (.int (nI sg)), some (.int (nI pt)), some (.int (nI bf)), some (.int (nI bh)), some (.long s), none, some (.int (nI j)), none], [.int (nI nv)], wd (vKind (upd C.1 7 ((C.1 7) ||| 0), C.2) nv 3 s) Y og)) rfl ?_
              refine am_iret_r ok_R_readNumber rfl rfl rfl ?_
              refine hpo _ _ ?_
              rw [show m10 (if 0 < pt then 6 - j else 0) s = s from by first | (rw [if_neg (by omega)]; rfl) | (rw [if_pos (by omega), show 6 - j = 0 by omega]; rfl)]
              rw [if_neg (show ¬ b p = 45 by assumption), if_pos (show 0 < pt by omega), if_neg (show ¬ 1 < sg by omega)]
              exact lfP_odd (C := vKind C nv 3 s) (lfC_kind hL 3 s) ha 0
        · skip
          have h_14 : ¬ sg ≤ 1 := fun z => h_14 ((nI_leI (show sg < 2 ^ 31 by omega) (show 1 < 2 ^ 31 by omega)).mpr z)
          refine am_steps_r ok_R_readNumber 9 (q' := (bif decide ((nI pt) ≤ 0) then 237 else 233, [some (.ref 16), some (.int (nI nv)), some (.int (nI p)), some (.int (nI e)), some (.int (nI sg)), some (.int (nI pt)), some (.int (nI bf)), some (.int (nI bh)), some (.long s), none, some (.int (nI j)), none], [.int (nI nv), .ref 3], wd (upd C.1 7 ((C.1 7) ||| 1), C.2) Y og)) rfl ?_
          refine am_br_r (fun h_20 => ?_) (fun h_20 => ?_)
          · skip
            have h_20 : pt ≤ 0 := (nI_leI (show pt < 2 ^ 31 by omega) (show 0 < 2 ^ 31 by omega)).mp h_20
            first | contradiction | exact absurd (show 0 < (nI pt) by assumption) (Int32.not_lt.mpr (show (nI pt) ≤ 0 by assumption)) | exact absurd (Int32.not_le.mp (show ¬ (nI pt) ≤ 0 by assumption)) (show ¬ 0 < (nI pt) by assumption) | (exfalso; omega)
          · skip
            have h_20 : ¬ pt ≤ 0 := fun z => h_20 ((nI_leI (show pt < 2 ^ 31 by omega) (show 0 < 2 ^ 31 by omega)).mpr z)
            refine am_steps_r ok_R_readNumber 5 (q' := (243, [some (.ref 16), some (.int (nI nv)), some (.int (nI p)), some (.int (nI e)), some (.int (nI sg)), some (.int (nI pt)), some (.int (nI bf)), some (.int (nI bh)), some (.long s), none, some (.int (nI j)), none], [.int (nI p), .ref 1, .int 3, .int (nI nv), .ref 3], wd (upd C.1 7 ((C.1 7) ||| 1), C.2) Y og)) rfl ?_
            refine am_callV_r (As := [.int (nI p)]) (rest := [.int 3, .int (nI nv), .ref 3]) ok_R_readNumber rfl rfl ok_T_at oi_T_at lk_1_125 (Or.inl ⟨_, _, _, rfl, rfl, rfl⟩) rfl rfl (Nat.le_of_ble_eq_true rfl) (c_T_at _ (upd C.1 7 ((C.1 7) ||| 1), C.2) Y og n b hT p (by omega)) ?_
            rintro v_ w_ ⟨rfl, rfl⟩ -
            refine am_eq_r (q' := (246, [some (.ref 16), some (.int (nI nv)), some (.int (nI p)), some (.int (nI e)), some (.int (nI sg)), some (.int (nI pt)), some (.int (nI bf)), some (.int (nI bh)), some (.long s), none, some (.int (nI j)), none], [.int (b p), .int 3, .int (nI nv), .ref 3], wd (upd C.1 7 ((C.1 7) ||| 1), C.2) Y og)) rfl ?_
            refine am_steps_r ok_R_readNumber 2 (q' := (bif decide ((b p) = 45) then 251 else 257, [some (.ref 16), some (.int (nI nv)), some (.int (nI p)), some (.int (nI e)), some (.int (nI sg)), some (.int (nI pt)), some (.int (nI bf)), some (.int (nI bh)), some (.long s), none, some (.int (nI j)), none], [.int 3, .int (nI nv), .ref 3], wd (upd C.1 7 ((C.1 7) ||| 1), C.2) Y og)) rfl ?_
            refine am_br_r (fun h_22 => ?_) (fun h_22 => ?_)
            · skip
              refine am_steps_r ok_R_readNumber 3 (q' := (259, [some (.ref 16), some (.int (nI nv)), some (.int (nI p)), some (.int (nI e)), some (.int (nI sg)), some (.int (nI pt)), some (.int (nI bf)), some (.int (nI bh)), some (.long s), none, some (.int (nI j)), none], [.long (-s), .int 3, .int (nI nv), .ref 3], wd (upd C.1 7 ((C.1 7) ||| 1), C.2) Y og)) rfl ?_
              refine am_callV_r (As := [.int (nI nv), .int 3, .long (-s)]) (rest := []) ok_R_readNumber rfl rfl ok_V_setKind oi_V_setKind lk_1_155 (Or.inl ⟨_, _, _, rfl, rfl, rfl⟩) rfl rfl (Nat.le_of_ble_eq_true rfl) (c_V_setKind _ (upd C.1 7 ((C.1 7) ||| 1), C.2) Y og (nv + 1) (u + 0) hL.1.1 nv (by omega) 3 (-s)) ?_
              rintro v_ w_ ⟨rfl, rfl⟩ -
              refine am_eq_r (q' := (262, [some (.ref 16), some (.int (nI nv)), some (.int (nI p)), some (.int (nI e)), some (.int (nI sg)), some (.int (nI pt)), some (.int (nI bf)), some (.int (nI bh)), some (.long s), none, some (.int (nI j)), none], [], wd (vKind (upd C.1 7 ((C.1 7) ||| 1), C.2) nv 3 (-s)) Y og)) rfl ?_
              refine am_steps_r ok_R_readNumber 1 (q' := (263, [some (.ref 16), some (.int (nI nv)), some (.int (nI p)), some (.int (nI e)), some (.int (nI sg)), some (.int (nI pt)), some (.int (nI bf)), some (.int (nI bh)), some (.long s), none, some (.int (nI j)), none], [.int (nI nv)], wd (vKind (upd C.1 7 ((C.1 7) ||| 1), C.2) nv 3 (-s)) Y og)) rfl ?_
              refine am_iret_r ok_R_readNumber rfl rfl rfl ?_
              refine hpo _ _ ?_
              rw [show m10 (if 0 < pt then 6 - j else 0) s = s from by first | (rw [if_neg (by omega)]; rfl) | (rw [if_pos (by omega), show 6 - j = 0 by omega]; rfl)]
              rw [if_pos (show b p = 45 by assumption), if_pos (show 0 < pt by omega), if_pos (show 1 < sg by omega)]
              exact lfP_odd (C := vKind C nv 3 (-s)) (lfC_kind hL 3 (-s)) ha 1
            · skip
              refine am_steps_r ok_R_readNumber 1 (q' := (259, [some (.ref 16), some (.int (nI nv)), some (.int (nI p)), some (.int (nI e)), some (.int (nI sg)), some (.int (nI pt)), some (.int (nI bf)), some (.int (nI bh)), some (.long s), none, some (.int (nI j)), none], [.long s, .int 3, .int (nI nv), .ref 3], wd (upd C.1 7 ((C.1 7) ||| 1), C.2) Y og)) rfl ?_
              refine am_callV_r (As := [.int (nI nv), .int 3, .long s]) (rest := []) ok_R_readNumber rfl rfl ok_V_setKind oi_V_setKind lk_1_155 (Or.inl ⟨_, _, _, rfl, rfl, rfl⟩) rfl rfl (Nat.le_of_ble_eq_true rfl) (c_V_setKind _ (upd C.1 7 ((C.1 7) ||| 1), C.2) Y og (nv + 1) (u + 0) hL.1.1 nv (by omega) 3 s) ?_
              rintro v_ w_ ⟨rfl, rfl⟩ -
              refine am_eq_r (q' := (262, [some (.ref 16), some (.int (nI nv)), some (.int (nI p)), some (.int (nI e)), some (.int (nI sg)), some (.int (nI pt)), some (.int (nI bf)), some (.int (nI bh)), some (.long s), none, some (.int (nI j)), none], [], wd (vKind (upd C.1 7 ((C.1 7) ||| 1), C.2) nv 3 s) Y og)) rfl ?_
              refine am_steps_r ok_R_readNumber 1 (q' := (263, [some (.ref 16), some (.int (nI nv)), some (.int (nI p)), some (.int (nI e)), some (.int (nI sg)), some (.int (nI pt)), some (.int (nI bf)), some (.int (nI bh)), some (.long s), none, some (.int (nI j)), none], [.int (nI nv)], wd (vKind (upd C.1 7 ((C.1 7) ||| 1), C.2) nv 3 s) Y og)) rfl ?_
              refine am_iret_r ok_R_readNumber rfl rfl rfl ?_
              refine hpo _ _ ?_
              rw [show m10 (if 0 < pt then 6 - j else 0) s = s from by first | (rw [if_neg (by omega)]; rfl) | (rw [if_pos (by omega), show 6 - j = 0 by omega]; rfl)]
              rw [if_neg (show ¬ b p = 45 by assumption), if_pos (show 0 < pt by omega), if_pos (show 1 < sg by omega)]
              exact lfP_odd (C := vKind C nv 3 s) (lfC_kind hL 3 s) ha 1
      · skip
        have h_13 : ¬ 6 ≤ j := fun z => h_13 ((nI_leI (show 6 < 2 ^ 31 by omega) (show j < 2 ^ 31 by omega)).mpr z)
        refine am_steps_r ok_R_readNumber 6 (q' := (177, [some (.ref 16), some (.int (nI nv)), some (.int (nI p)), some (.int (nI e)), some (.int (nI sg)), some (.int (nI pt)), some (.int (nI bf)), some (.int (nI bh)), some (.long (s * 10)), none, some (.int ((nI j) + 1)), none], [], wd C Y og)) rfl ?_
        rw [show ((nI j) + 1 : Int32) = nI (j + 1) from nI_add j 1]
        have hm : m10 (if 0 < pt then 6 - j else 0) s = m10 (if 0 < pt then 6 - (j + 1) else 0) (s * 10) := by rw [if_pos (by omega), if_pos (by omega), show 6 - j = (6 - (j + 1)) + 1 by omega, m10]
        refine ih post (j + 1) (s * 10) (by omega) (fun vr w' hw => hpo vr w' ?_) (by omega)
        rw [hm]
        exact hw
set_option maxHeartbeats 400000 in
set_option maxRecDepth 100000 in
theorem lp_R_readNumber_18 (d : Nat) (Y : wd_Y) (og : Nat → Int64) (n : Nat) (b : Nat → Int32) (C0 : wd_C) (hT0 : tpC C0 n b) (nv u : Nat) (V : VT) (C : wd_C) (hL : lfC C0 C nv u V 0 0 []) (p e : Nat) (ha : C.1 4 = nI e) (hpe : p < e) (hen : e ≤ n) (sg : Nat) (hsg : sg < 5000)  : ∀ (fu : Nat) (post : Option Value → am_W → Prop) (i : Nat) (pt : Nat) (bf : Nat) (bh : Nat) (s : Int64), (pt ≤ 1) → (0 < bf + pt) → (p ≤ i) → (i ≤ e) → (bf + bh ≤ i) → (∀ vr w', lfP C0 Y og nv u V (nbF b p e (sg, nbB b (e - i) i pt bf bh s)) vr w' → post vr w') → e - i < fu → am_Rn l D cA ad fm (d + 2) m_R_readNumber (wd C Y og).length post (18, [some (.ref 16), some (.int (nI nv)), some (.int (nI p)), some (.int (nI e)), some (.int (nI sg)), some (.int (nI pt)), some (.int (nI bf)), some (.int (nI bh)), some (.long s), none, some (.int (nI i)), none], [], wd C Y og) := by
  intro fu
  induction fu with
  | zero => intro post i pt bf bh s hpt hpb hpi hie hbb hpo hfu; exact absurd hfu (Nat.not_lt_zero _)
  | succ fu ih =>
    intro post i pt bf bh s hpt hpb hpi hie hbb hpo hfu
    have hT := tpC_f hT0 hL.2.2.1
    have hn := hT.2.1
    have hal := hL.1.1.2.1
    refine am_steps_r ok_R_readNumber 3 (q' := (bif decide ((nI e) ≤ (nI i)) then 137 else 24, [some (.ref 16), some (.int (nI nv)), some (.int (nI p)), some (.int (nI e)), some (.int (nI sg)), some (.int (nI pt)), some (.int (nI bf)), some (.int (nI bh)), some (.long s), none, some (.int (nI i)), none], [], wd C Y og)) rfl ?_
    refine am_br_r (fun h_1 => ?_) (fun h_1 => ?_)
    · skip
      have h_1 : e ≤ i := (nI_leI (show e < 2 ^ 31 by omega) (show i < 2 ^ 31 by omega)).mp h_1
      refine am_steps_r ok_R_readNumber 4 (q' := (bif decide (((nI bf) + (nI bh)) = 0) then 145 else 152, [some (.ref 16), some (.int (nI nv)), some (.int (nI p)), some (.int (nI e)), some (.int (nI sg)), some (.int (nI pt)), some (.int (nI bf)), some (.int (nI bh)), some (.long s), none, some (.int (nI i)), none], [], wd C Y og)) rfl ?_
      rw [show ((nI bf) + (nI bh) : Int32) = nI (bf + bh) from nI_add bf bh]
      refine am_br_r (fun h_2 => ?_) (fun h_2 => ?_)
      · skip
        have h_2 : (bf + bh) = 0 := (nI_eq (show (bf + bh) < 2 ^ 31 by omega) (show 0 < 2 ^ 31 by omega)).mp h_2
        refine am_steps_r ok_R_readNumber 3 (q' := (148, [some (.ref 16), some (.int (nI nv)), some (.int (nI p)), some (.int (nI e)), some (.int (nI sg)), some (.int (nI pt)), some (.int (nI bf)), some (.int (nI bh)), some (.long s), none, some (.int (nI i)), none], [.int (nI p), .int 2, .ref 16], wd C Y og)) rfl ?_
        refine am_callV_r (As := [.int 2, .int (nI p)]) (rest := []) ok_R_readNumber rfl rfl ok_R_fail oi_R_fail lk_1_122 (Or.inl ⟨_, _, _, rfl, rfl, rfl⟩) rfl rfl (Nat.le_of_ble_eq_true rfl) (c_R_fail _ C Y og 2 (nI p)) ?_
        rintro v_ w_ ⟨rfl, rfl⟩ -
        refine am_eq_r (q' := (151, [some (.ref 16), some (.int (nI nv)), some (.int (nI p)), some (.int (nI e)), some (.int (nI sg)), some (.int (nI pt)), some (.int (nI bf)), some (.int (nI bh)), some (.long s), none, some (.int (nI i)), none], [.int (-1)], wd (upd (upd C.1 5 2) 6 (nI p), C.2) Y og)) rfl ?_
        refine am_iret_r ok_R_readNumber rfl rfl rfl ?_
        refine hpo _ _ ?_
        rw [show e - i = 0 by omega, nbB, nbF, if_pos (by omega)]
        exact lfP_bad hL 2 p
      · skip
        have h_2 : ¬ (bf + bh) = 0 := fun z => h_2 ((nI_eq (show (bf + bh) < 2 ^ 31 by omega) (show 0 < 2 ^ 31 by omega)).mpr z)
        refine am_steps_r ok_R_readNumber 3 (q' := (bif decide (9 < (nI bf)) then 166 else 159, [some (.ref 16), some (.int (nI nv)), some (.int (nI p)), some (.int (nI e)), some (.int (nI sg)), some (.int (nI pt)), some (.int (nI bf)), some (.int (nI bh)), some (.long s), none, some (.int (nI i)), none], [], wd C Y og)) rfl ?_
        refine am_br_r (fun h_4 => ?_) (fun h_4 => ?_)
        · skip
          have h_4 : 9 < bf := (nI_ltI (show 9 < 2 ^ 31 by omega) (show bf < 2 ^ 31 by omega)).mp h_4
          refine am_steps_r ok_R_readNumber 3 (q' := (169, [some (.ref 16), some (.int (nI nv)), some (.int (nI p)), some (.int (nI e)), some (.int (nI sg)), some (.int (nI pt)), some (.int (nI bf)), some (.int (nI bh)), some (.long s), none, some (.int (nI i)), none], [.int (nI p), .int 4, .ref 16], wd C Y og)) rfl ?_
          refine am_callV_r (As := [.int 4, .int (nI p)]) (rest := []) ok_R_readNumber rfl rfl ok_R_fail oi_R_fail lk_1_122 (Or.inl ⟨_, _, _, rfl, rfl, rfl⟩) rfl rfl (Nat.le_of_ble_eq_true rfl) (c_R_fail _ C Y og 4 (nI p)) ?_
          rintro v_ w_ ⟨rfl, rfl⟩ -
          refine am_eq_r (q' := (172, [some (.ref 16), some (.int (nI nv)), some (.int (nI p)), some (.int (nI e)), some (.int (nI sg)), some (.int (nI pt)), some (.int (nI bf)), some (.int (nI bh)), some (.long s), none, some (.int (nI i)), none], [.int (-1)], wd (upd (upd C.1 5 4) 6 (nI p), C.2) Y og)) rfl ?_
          refine am_iret_r ok_R_readNumber rfl rfl rfl ?_
          refine hpo _ _ ?_
          rw [show e - i = 0 by omega, nbB, nbF, if_neg (by omega), if_pos (by omega)]
          exact lfP_bad hL 4 p
        · skip
          have h_4 : ¬ 9 < bf := fun z => h_4 ((nI_ltI (show 9 < 2 ^ 31 by omega) (show bf < 2 ^ 31 by omega)).mpr z)
          refine am_steps_r ok_R_readNumber 3 (q' := (bif decide ((nI bh) ≤ 6) then 173 else 166, [some (.ref 16), some (.int (nI nv)), some (.int (nI p)), some (.int (nI e)), some (.int (nI sg)), some (.int (nI pt)), some (.int (nI bf)), some (.int (nI bh)), some (.long s), none, some (.int (nI i)), none], [], wd C Y og)) rfl ?_
          refine am_br_r (fun h_6 => ?_) (fun h_6 => ?_)
          · skip
            have h_6 : bh ≤ 6 := (nI_leI (show bh < 2 ^ 31 by omega) (show 6 < 2 ^ 31 by omega)).mp h_6
            refine am_steps_r ok_R_readNumber 2 (q' := (177, [some (.ref 16), some (.int (nI nv)), some (.int (nI p)), some (.int (nI e)), some (.int (nI sg)), some (.int (nI pt)), some (.int (nI bf)), some (.int (nI bh)), some (.long s), none, some (.int (nI bh)), none], [], wd C Y og)) rfl ?_
            refine lp_R_readNumber_177 d Y og n b C0 hT0 nv u V C hL p e ha hpe hen sg pt bf bh (by omega) (by omega) 8 _ bh s (by omega) (fun vr w' hw => hpo vr w' ?_) (by omega)
            rw [show e - i = 0 by omega, nbB, nbF, if_neg (by omega), if_neg (by omega)]
            exact hw
          · skip
            have h_6 : ¬ bh ≤ 6 := fun z => h_6 ((nI_leI (show bh < 2 ^ 31 by omega) (show 6 < 2 ^ 31 by omega)).mpr z)
            refine am_steps_r ok_R_readNumber 3 (q' := (169, [some (.ref 16), some (.int (nI nv)), some (.int (nI p)), some (.int (nI e)), some (.int (nI sg)), some (.int (nI pt)), some (.int (nI bf)), some (.int (nI bh)), some (.long s), none, some (.int (nI i)), none], [.int (nI p), .int 4, .ref 16], wd C Y og)) rfl ?_
            refine am_callV_r (As := [.int 4, .int (nI p)]) (rest := []) ok_R_readNumber rfl rfl ok_R_fail oi_R_fail lk_1_122 (Or.inl ⟨_, _, _, rfl, rfl, rfl⟩) rfl rfl (Nat.le_of_ble_eq_true rfl) (c_R_fail _ C Y og 4 (nI p)) ?_
            rintro v_ w_ ⟨rfl, rfl⟩ -
            refine am_eq_r (q' := (172, [some (.ref 16), some (.int (nI nv)), some (.int (nI p)), some (.int (nI e)), some (.int (nI sg)), some (.int (nI pt)), some (.int (nI bf)), some (.int (nI bh)), some (.long s), none, some (.int (nI i)), none], [.int (-1)], wd (upd (upd C.1 5 4) 6 (nI p), C.2) Y og)) rfl ?_
            refine am_iret_r ok_R_readNumber rfl rfl rfl ?_
            refine hpo _ _ ?_
            rw [show e - i = 0 by omega, nbB, nbF, if_neg (by omega), if_pos (by omega)]
            exact lfP_bad hL 4 p
    · skip
      have h_1 : ¬ e ≤ i := fun z => h_1 ((nI_leI (show e < 2 ^ 31 by omega) (show i < 2 ^ 31 by omega)).mpr z)
      refine am_steps_r ok_R_readNumber 3 (q' := (30, [some (.ref 16), some (.int (nI nv)), some (.int (nI p)), some (.int (nI e)), some (.int (nI sg)), some (.int (nI pt)), some (.int (nI bf)), some (.int (nI bh)), some (.long s), none, some (.int (nI i)), none], [.int (nI i), .ref 1], wd C Y og)) rfl ?_
      refine am_callV_r (As := [.int (nI i)]) (rest := []) ok_R_readNumber rfl rfl ok_T_at oi_T_at lk_1_125 (Or.inl ⟨_, _, _, rfl, rfl, rfl⟩) rfl rfl (Nat.le_of_ble_eq_true rfl) (c_T_at _ C Y og n b hT i (by omega)) ?_
      rintro v_ w_ ⟨rfl, rfl⟩ -
      refine am_eq_r (q' := (33, [some (.ref 16), some (.int (nI nv)), some (.int (nI p)), some (.int (nI e)), some (.int (nI sg)), some (.int (nI pt)), some (.int (nI bf)), some (.int (nI bh)), some (.long s), none, some (.int (nI i)), none], [.int (b i)], wd C Y og)) rfl ?_
      refine am_steps_r ok_R_readNumber 4 (q' := (bif decide ((b i) = 43) then 49 else 42, [some (.ref 16), some (.int (nI nv)), some (.int (nI p)), some (.int (nI e)), some (.int (nI sg)), some (.int (nI pt)), some (.int (nI bf)), some (.int (nI bh)), some (.long s), none, some (.int (nI i)), some (.int (b i))], [], wd C Y og)) rfl ?_
      refine am_br_r (fun h_9 => ?_) (fun h_9 => ?_)
      · skip
        refine am_steps_r ok_R_readNumber 4 (q' := (bif decide (((nI bf) + (nI pt)) = 0) then 57 else 63, [some (.ref 16), some (.int (nI nv)), some (.int (nI p)), some (.int (nI e)), some (.int (nI sg)), some (.int (nI pt)), some (.int (nI bf)), some (.int (nI bh)), some (.long s), none, some (.int (nI i)), some (.int (b i))], [], wd C Y og)) rfl ?_
        rw [show ((nI bf) + (nI pt) : Int32) = nI (bf + pt) from nI_add bf pt]
        refine am_br_r (fun h_10 => ?_) (fun h_10 => ?_)
        · skip
          have h_10 : (bf + pt) = 0 := (nI_eq (show (bf + pt) < 2 ^ 31 by omega) (show 0 < 2 ^ 31 by omega)).mp h_10
          exfalso; omega
        · skip
          have h_10 : ¬ (bf + pt) = 0 := fun z => h_10 ((nI_eq (show (bf + pt) < 2 ^ 31 by omega) (show 0 < 2 ^ 31 by omega)).mpr z)
          refine am_steps_r ok_R_readNumber 3 (q' := (bif decide ((b i) = 46) then 70 else 81, [some (.ref 16), some (.int (nI nv)), some (.int (nI p)), some (.int (nI e)), some (.int (nI sg)), some (.int (nI pt)), some (.int (nI bf)), some (.int (nI bh)), some (.long s), none, some (.int (nI i)), some (.int (b i))], [], wd C Y og)) rfl ?_
          refine am_br_r (fun h_11 => ?_) (fun h_11 => ?_)
          · skip
            exact absurd ((show (b i) = 43 by assumption).symm.trans (show (b i) = 46 by assumption)) (by decide)
          · skip
            refine am_steps_r ok_R_readNumber 1 (q' := (83, [some (.ref 16), some (.int (nI nv)), some (.int (nI p)), some (.int (nI e)), some (.int (nI sg)), some (.int (nI pt)), some (.int (nI bf)), some (.int (nI bh)), some (.long s), none, some (.int (nI i)), some (.int (b i))], [.int (b i)], wd C Y og)) rfl ?_
            refine am_callN_r (As := [.int (b i)]) (rest := []) ok_R_readNumber rfl rfl ok_S_isFigure os_S_isFigure ln_1_238 rfl rfl (Nat.le_of_ble_eq_true rfl) (c_S_isFigure _ C Y og (b i)) ?_
            rintro v_ w_ ⟨rfl, rfl⟩ -
            refine am_eq_r (q' := (86, [some (.ref 16), some (.int (nI nv)), some (.int (nI p)), some (.int (nI e)), some (.int (nI sg)), some (.int (nI pt)), some (.int (nI bf)), some (.int (nI bh)), some (.long s), none, some (.int (nI i)), some (.int (b i))], [.int (bz (isFig (b i)))], wd C Y og)) rfl ?_
            refine am_steps_r ok_R_readNumber 1 (q' := (bif decide ((bz (isFig (b i))) = 0) then 124 else 89, [some (.ref 16), some (.int (nI nv)), some (.int (nI p)), some (.int (nI e)), some (.int (nI sg)), some (.int (nI pt)), some (.int (nI bf)), some (.int (nI bh)), some (.long s), none, some (.int (nI i)), some (.int (b i))], [], wd C Y og)) rfl ?_
            refine am_bz_r (fun h_13 => ?_) (fun h_13 => ?_)
            · skip
              refine am_steps_r ok_R_readNumber 22 (q' := (18, [some (.ref 16), some (.int (nI nv)), some (.int (nI p)), some (.int (nI e)), some (.int (nI sg)), some (.int (nI pt)), some (.int ((nI bf) + (1 - (nI pt)))), some (.int ((nI bh) + (nI pt))), some (.long (((s * 10) + (b i).toInt64) - 48)), none, some (.int ((nI i) + 1)), some (.int (b i))], [], wd C Y og)) rfl ?_
              rw [show (1 - (nI pt) : Int32) = nI (1 - pt) from pk_sub (a := 1) (b := pt) (by omega)]
              rw [show ((nI bf) + (nI (1 - pt)) : Int32) = nI (bf + (1 - pt)) from nI_add bf (1 - pt)]
              rw [show ((nI bh) + (nI pt) : Int32) = nI (bh + pt) from nI_add bh pt]
              rw [show ((nI i) + 1 : Int32) = nI (i + 1) from nI_add i 1]
              refine am_drop_r [11] (L' := [some (.ref 16), some (.int (nI nv)), some (.int (nI p)), some (.int (nI e)), some (.int (nI sg)), some (.int (nI pt)), some (.int (nI (bf + (1 - pt)))), some (.int (nI (bh + pt))), some (.long (((s * 10) + (b i).toInt64) - 48)), none, some (.int (nI (i + 1))), none]) rfl ?_
              refine ih post (i + 1) pt (bf + (1 - pt)) (bh + pt) (((s * 10) + (b i).toInt64) - 48) (by omega) (by omega) (by omega) (by omega) (by omega) (fun vr w' hw => hpo vr w' ?_) (by omega)
              rw [show e - i = (e - (i + 1)) + 1 by omega]
              first | rw [nbB_pt (by assumption) (by omega)] | rw [nbB_fig (by rintro ⟨z1, z2⟩; first | contradiction | omega) (by assumption)]
              exact hw
            · skip
              refine am_steps_r ok_R_readNumber 3 (q' := (127, [some (.ref 16), some (.int (nI nv)), some (.int (nI p)), some (.int (nI e)), some (.int (nI sg)), some (.int (nI pt)), some (.int (nI bf)), some (.int (nI bh)), some (.long s), none, some (.int (nI i)), some (.int (b i))], [.int (nI p), .int 2, .ref 16], wd C Y og)) rfl ?_
              refine am_callV_r (As := [.int 2, .int (nI p)]) (rest := []) ok_R_readNumber rfl rfl ok_R_fail oi_R_fail lk_1_122 (Or.inl ⟨_, _, _, rfl, rfl, rfl⟩) rfl rfl (Nat.le_of_ble_eq_true rfl) (c_R_fail _ C Y og 2 (nI p)) ?_
              rintro v_ w_ ⟨rfl, rfl⟩ -
              refine am_eq_r (q' := (130, [some (.ref 16), some (.int (nI nv)), some (.int (nI p)), some (.int (nI e)), some (.int (nI sg)), some (.int (nI pt)), some (.int (nI bf)), some (.int (nI bh)), some (.long s), none, some (.int (nI i)), some (.int (b i))], [.int (-1)], wd (upd (upd C.1 5 2) 6 (nI p), C.2) Y og)) rfl ?_
              refine am_iret_r ok_R_readNumber rfl rfl rfl ?_
              refine hpo _ _ ?_
              rw [show e - i = (e - (i + 1)) + 1 by omega, nbB_bad (by rintro ⟨z1, z2⟩; first | contradiction | omega) (by assumption)]
              exact lfP_bad hL 2 p
      · skip
        refine am_steps_r ok_R_readNumber 3 (q' := (bif decide ((b i) = 45) then 49 else 63, [some (.ref 16), some (.int (nI nv)), some (.int (nI p)), some (.int (nI e)), some (.int (nI sg)), some (.int (nI pt)), some (.int (nI bf)), some (.int (nI bh)), some (.long s), none, some (.int (nI i)), some (.int (b i))], [], wd C Y og)) rfl ?_
        refine am_br_r (fun h_15 => ?_) (fun h_15 => ?_)
        · skip
          refine am_steps_r ok_R_readNumber 4 (q' := (bif decide (((nI bf) + (nI pt)) = 0) then 57 else 63, [some (.ref 16), some (.int (nI nv)), some (.int (nI p)), some (.int (nI e)), some (.int (nI sg)), some (.int (nI pt)), some (.int (nI bf)), some (.int (nI bh)), some (.long s), none, some (.int (nI i)), some (.int (b i))], [], wd C Y og)) rfl ?_
          rw [show ((nI bf) + (nI pt) : Int32) = nI (bf + pt) from nI_add bf pt]
          refine am_br_r (fun h_16 => ?_) (fun h_16 => ?_)
          · skip
            have h_16 : (bf + pt) = 0 := (nI_eq (show (bf + pt) < 2 ^ 31 by omega) (show 0 < 2 ^ 31 by omega)).mp h_16
            exfalso; omega
          · skip
            have h_16 : ¬ (bf + pt) = 0 := fun z => h_16 ((nI_eq (show (bf + pt) < 2 ^ 31 by omega) (show 0 < 2 ^ 31 by omega)).mpr z)
            refine am_steps_r ok_R_readNumber 3 (q' := (bif decide ((b i) = 46) then 70 else 81, [some (.ref 16), some (.int (nI nv)), some (.int (nI p)), some (.int (nI e)), some (.int (nI sg)), some (.int (nI pt)), some (.int (nI bf)), some (.int (nI bh)), some (.long s), none, some (.int (nI i)), some (.int (b i))], [], wd C Y og)) rfl ?_
            refine am_br_r (fun h_17 => ?_) (fun h_17 => ?_)
            · skip
              exact absurd ((show (b i) = 45 by assumption).symm.trans (show (b i) = 46 by assumption)) (by decide)
            · skip
              refine am_steps_r ok_R_readNumber 1 (q' := (83, [some (.ref 16), some (.int (nI nv)), some (.int (nI p)), some (.int (nI e)), some (.int (nI sg)), some (.int (nI pt)), some (.int (nI bf)), some (.int (nI bh)), some (.long s), none, some (.int (nI i)), some (.int (b i))], [.int (b i)], wd C Y og)) rfl ?_
              refine am_callN_r (As := [.int (b i)]) (rest := []) ok_R_readNumber rfl rfl ok_S_isFigure os_S_isFigure ln_1_238 rfl rfl (Nat.le_of_ble_eq_true rfl) (c_S_isFigure _ C Y og (b i)) ?_
              rintro v_ w_ ⟨rfl, rfl⟩ -
              refine am_eq_r (q' := (86, [some (.ref 16), some (.int (nI nv)), some (.int (nI p)), some (.int (nI e)), some (.int (nI sg)), some (.int (nI pt)), some (.int (nI bf)), some (.int (nI bh)), some (.long s), none, some (.int (nI i)), some (.int (b i))], [.int (bz (isFig (b i)))], wd C Y og)) rfl ?_
              refine am_steps_r ok_R_readNumber 1 (q' := (bif decide ((bz (isFig (b i))) = 0) then 124 else 89, [some (.ref 16), some (.int (nI nv)), some (.int (nI p)), some (.int (nI e)), some (.int (nI sg)), some (.int (nI pt)), some (.int (nI bf)), some (.int (nI bh)), some (.long s), none, some (.int (nI i)), some (.int (b i))], [], wd C Y og)) rfl ?_
              refine am_bz_r (fun h_19 => ?_) (fun h_19 => ?_)
              · skip
                refine am_steps_r ok_R_readNumber 22 (q' := (18, [some (.ref 16), some (.int (nI nv)), some (.int (nI p)), some (.int (nI e)), some (.int (nI sg)), some (.int (nI pt)), some (.int ((nI bf) + (1 - (nI pt)))), some (.int ((nI bh) + (nI pt))), some (.long (((s * 10) + (b i).toInt64) - 48)), none, some (.int ((nI i) + 1)), some (.int (b i))], [], wd C Y og)) rfl ?_
                rw [show (1 - (nI pt) : Int32) = nI (1 - pt) from pk_sub (a := 1) (b := pt) (by omega)]
                rw [show ((nI bf) + (nI (1 - pt)) : Int32) = nI (bf + (1 - pt)) from nI_add bf (1 - pt)]
                rw [show ((nI bh) + (nI pt) : Int32) = nI (bh + pt) from nI_add bh pt]
                rw [show ((nI i) + 1 : Int32) = nI (i + 1) from nI_add i 1]
                refine am_drop_r [11] (L' := [some (.ref 16), some (.int (nI nv)), some (.int (nI p)), some (.int (nI e)), some (.int (nI sg)), some (.int (nI pt)), some (.int (nI (bf + (1 - pt)))), some (.int (nI (bh + pt))), some (.long (((s * 10) + (b i).toInt64) - 48)), none, some (.int (nI (i + 1))), none]) rfl ?_
                refine ih post (i + 1) pt (bf + (1 - pt)) (bh + pt) (((s * 10) + (b i).toInt64) - 48) (by omega) (by omega) (by omega) (by omega) (by omega) (fun vr w' hw => hpo vr w' ?_) (by omega)
                rw [show e - i = (e - (i + 1)) + 1 by omega]
                first | rw [nbB_pt (by assumption) (by omega)] | rw [nbB_fig (by rintro ⟨z1, z2⟩; first | contradiction | omega) (by assumption)]
                exact hw
              · skip
                refine am_steps_r ok_R_readNumber 3 (q' := (127, [some (.ref 16), some (.int (nI nv)), some (.int (nI p)), some (.int (nI e)), some (.int (nI sg)), some (.int (nI pt)), some (.int (nI bf)), some (.int (nI bh)), some (.long s), none, some (.int (nI i)), some (.int (b i))], [.int (nI p), .int 2, .ref 16], wd C Y og)) rfl ?_
                refine am_callV_r (As := [.int 2, .int (nI p)]) (rest := []) ok_R_readNumber rfl rfl ok_R_fail oi_R_fail lk_1_122 (Or.inl ⟨_, _, _, rfl, rfl, rfl⟩) rfl rfl (Nat.le_of_ble_eq_true rfl) (c_R_fail _ C Y og 2 (nI p)) ?_
                rintro v_ w_ ⟨rfl, rfl⟩ -
                refine am_eq_r (q' := (130, [some (.ref 16), some (.int (nI nv)), some (.int (nI p)), some (.int (nI e)), some (.int (nI sg)), some (.int (nI pt)), some (.int (nI bf)), some (.int (nI bh)), some (.long s), none, some (.int (nI i)), some (.int (b i))], [.int (-1)], wd (upd (upd C.1 5 2) 6 (nI p), C.2) Y og)) rfl ?_
                refine am_iret_r ok_R_readNumber rfl rfl rfl ?_
                refine hpo _ _ ?_
                rw [show e - i = (e - (i + 1)) + 1 by omega, nbB_bad (by rintro ⟨z1, z2⟩; first | contradiction | omega) (by assumption)]
                exact lfP_bad hL 2 p
        · skip
          refine am_steps_r ok_R_readNumber 3 (q' := (bif decide ((b i) = 46) then 70 else 81, [some (.ref 16), some (.int (nI nv)), some (.int (nI p)), some (.int (nI e)), some (.int (nI sg)), some (.int (nI pt)), some (.int (nI bf)), some (.int (nI bh)), some (.long s), none, some (.int (nI i)), some (.int (b i))], [], wd C Y og)) rfl ?_
          refine am_br_r (fun h_21 => ?_) (fun h_21 => ?_)
          · skip
            refine am_steps_r ok_R_readNumber 2 (q' := (bif decide ((nI pt) = 0) then 75 else 81, [some (.ref 16), some (.int (nI nv)), some (.int (nI p)), some (.int (nI e)), some (.int (nI sg)), some (.int (nI pt)), some (.int (nI bf)), some (.int (nI bh)), some (.long s), none, some (.int (nI i)), some (.int (b i))], [], wd C Y og)) rfl ?_
            refine am_br_r (fun h_22 => ?_) (fun h_22 => ?_)
            · skip
              have h_22 : pt = 0 := (nI_eq (show pt < 2 ^ 31 by omega) (show 0 < 2 ^ 31 by omega)).mp h_22
              refine am_steps_r ok_R_readNumber 4 (q' := (18, [some (.ref 16), some (.int (nI nv)), some (.int (nI p)), some (.int (nI e)), some (.int (nI sg)), some (.int ((nI pt) + 1)), some (.int (nI bf)), some (.int (nI bh)), some (.long s), none, some (.int ((nI i) + 1)), some (.int (b i))], [], wd C Y og)) rfl ?_
              rw [show ((nI pt) + 1 : Int32) = nI (pt + 1) from nI_add pt 1]
              rw [show ((nI i) + 1 : Int32) = nI (i + 1) from nI_add i 1]
              refine am_drop_r [11] (L' := [some (.ref 16), some (.int (nI nv)), some (.int (nI p)), some (.int (nI e)), some (.int (nI sg)), some (.int (nI (pt + 1))), some (.int (nI bf)), some (.int (nI bh)), some (.long s), none, some (.int (nI (i + 1))), none]) rfl ?_
              refine ih post (i + 1) (pt + 1) bf bh s (by omega) (by omega) (by omega) (by omega) (by omega) (fun vr w' hw => hpo vr w' ?_) (by omega)
              rw [show e - i = (e - (i + 1)) + 1 by omega]
              first | rw [nbB_pt (by assumption) (by omega)] | rw [nbB_fig (by rintro ⟨z1, z2⟩; first | contradiction | omega) (by assumption)]
              exact hw
            · skip
              have h_22 : ¬ pt = 0 := fun z => h_22 ((nI_eq (show pt < 2 ^ 31 by omega) (show 0 < 2 ^ 31 by omega)).mpr z)
              refine am_steps_r ok_R_readNumber 1 (q' := (83, [some (.ref 16), some (.int (nI nv)), some (.int (nI p)), some (.int (nI e)), some (.int (nI sg)), some (.int (nI pt)), some (.int (nI bf)), some (.int (nI bh)), some (.long s), none, some (.int (nI i)), some (.int (b i))], [.int (b i)], wd C Y og)) rfl ?_
              refine am_callN_r (As := [.int (b i)]) (rest := []) ok_R_readNumber rfl rfl ok_S_isFigure os_S_isFigure ln_1_238 rfl rfl (Nat.le_of_ble_eq_true rfl) (c_S_isFigure _ C Y og (b i)) ?_
              rintro v_ w_ ⟨rfl, rfl⟩ -
              refine am_eq_r (q' := (86, [some (.ref 16), some (.int (nI nv)), some (.int (nI p)), some (.int (nI e)), some (.int (nI sg)), some (.int (nI pt)), some (.int (nI bf)), some (.int (nI bh)), some (.long s), none, some (.int (nI i)), some (.int (b i))], [.int (bz (isFig (b i)))], wd C Y og)) rfl ?_
              refine am_steps_r ok_R_readNumber 1 (q' := (bif decide ((bz (isFig (b i))) = 0) then 124 else 89, [some (.ref 16), some (.int (nI nv)), some (.int (nI p)), some (.int (nI e)), some (.int (nI sg)), some (.int (nI pt)), some (.int (nI bf)), some (.int (nI bh)), some (.long s), none, some (.int (nI i)), some (.int (b i))], [], wd C Y og)) rfl ?_
              refine am_bz_r (fun h_24 => ?_) (fun h_24 => ?_)
              · skip
                refine am_steps_r ok_R_readNumber 22 (q' := (18, [some (.ref 16), some (.int (nI nv)), some (.int (nI p)), some (.int (nI e)), some (.int (nI sg)), some (.int (nI pt)), some (.int ((nI bf) + (1 - (nI pt)))), some (.int ((nI bh) + (nI pt))), some (.long (((s * 10) + (b i).toInt64) - 48)), none, some (.int ((nI i) + 1)), some (.int (b i))], [], wd C Y og)) rfl ?_
                rw [show (1 - (nI pt) : Int32) = nI (1 - pt) from pk_sub (a := 1) (b := pt) (by omega)]
                rw [show ((nI bf) + (nI (1 - pt)) : Int32) = nI (bf + (1 - pt)) from nI_add bf (1 - pt)]
                rw [show ((nI bh) + (nI pt) : Int32) = nI (bh + pt) from nI_add bh pt]
                rw [show ((nI i) + 1 : Int32) = nI (i + 1) from nI_add i 1]
                refine am_drop_r [11] (L' := [some (.ref 16), some (.int (nI nv)), some (.int (nI p)), some (.int (nI e)), some (.int (nI sg)), some (.int (nI pt)), some (.int (nI (bf + (1 - pt)))), some (.int (nI (bh + pt))), some (.long (((s * 10) + (b i).toInt64) - 48)), none, some (.int (nI (i + 1))), none]) rfl ?_
                refine ih post (i + 1) pt (bf + (1 - pt)) (bh + pt) (((s * 10) + (b i).toInt64) - 48) (by omega) (by omega) (by omega) (by omega) (by omega) (fun vr w' hw => hpo vr w' ?_) (by omega)
                rw [show e - i = (e - (i + 1)) + 1 by omega]
                first | rw [nbB_pt (by assumption) (by omega)] | rw [nbB_fig (by rintro ⟨z1, z2⟩; first | contradiction | omega) (by assumption)]
                exact hw
              · skip
                refine am_steps_r ok_R_readNumber 3 (q' := (127, [some (.ref 16), some (.int (nI nv)), some (.int (nI p)), some (.int (nI e)), some (.int (nI sg)), some (.int (nI pt)), some (.int (nI bf)), some (.int (nI bh)), some (.long s), none, some (.int (nI i)), some (.int (b i))], [.int (nI p), .int 2, .ref 16], wd C Y og)) rfl ?_
                refine am_callV_r (As := [.int 2, .int (nI p)]) (rest := []) ok_R_readNumber rfl rfl ok_R_fail oi_R_fail lk_1_122 (Or.inl ⟨_, _, _, rfl, rfl, rfl⟩) rfl rfl (Nat.le_of_ble_eq_true rfl) (c_R_fail _ C Y og 2 (nI p)) ?_
                rintro v_ w_ ⟨rfl, rfl⟩ -
                refine am_eq_r (q' := (130, [some (.ref 16), some (.int (nI nv)), some (.int (nI p)), some (.int (nI e)), some (.int (nI sg)), some (.int (nI pt)), some (.int (nI bf)), some (.int (nI bh)), some (.long s), none, some (.int (nI i)), some (.int (b i))], [.int (-1)], wd (upd (upd C.1 5 2) 6 (nI p), C.2) Y og)) rfl ?_
                refine am_iret_r ok_R_readNumber rfl rfl rfl ?_
                refine hpo _ _ ?_
                rw [show e - i = (e - (i + 1)) + 1 by omega, nbB_bad (by rintro ⟨z1, z2⟩; first | contradiction | omega) (by assumption)]
                exact lfP_bad hL 2 p
          · skip
            refine am_steps_r ok_R_readNumber 1 (q' := (83, [some (.ref 16), some (.int (nI nv)), some (.int (nI p)), some (.int (nI e)), some (.int (nI sg)), some (.int (nI pt)), some (.int (nI bf)), some (.int (nI bh)), some (.long s), none, some (.int (nI i)), some (.int (b i))], [.int (b i)], wd C Y og)) rfl ?_
            refine am_callN_r (As := [.int (b i)]) (rest := []) ok_R_readNumber rfl rfl ok_S_isFigure os_S_isFigure ln_1_238 rfl rfl (Nat.le_of_ble_eq_true rfl) (c_S_isFigure _ C Y og (b i)) ?_
            rintro v_ w_ ⟨rfl, rfl⟩ -
            refine am_eq_r (q' := (86, [some (.ref 16), some (.int (nI nv)), some (.int (nI p)), some (.int (nI e)), some (.int (nI sg)), some (.int (nI pt)), some (.int (nI bf)), some (.int (nI bh)), some (.long s), none, some (.int (nI i)), some (.int (b i))], [.int (bz (isFig (b i)))], wd C Y og)) rfl ?_
            refine am_steps_r ok_R_readNumber 1 (q' := (bif decide ((bz (isFig (b i))) = 0) then 124 else 89, [some (.ref 16), some (.int (nI nv)), some (.int (nI p)), some (.int (nI e)), some (.int (nI sg)), some (.int (nI pt)), some (.int (nI bf)), some (.int (nI bh)), some (.long s), none, some (.int (nI i)), some (.int (b i))], [], wd C Y og)) rfl ?_
            refine am_bz_r (fun h_27 => ?_) (fun h_27 => ?_)
            · skip
              refine am_steps_r ok_R_readNumber 22 (q' := (18, [some (.ref 16), some (.int (nI nv)), some (.int (nI p)), some (.int (nI e)), some (.int (nI sg)), some (.int (nI pt)), some (.int ((nI bf) + (1 - (nI pt)))), some (.int ((nI bh) + (nI pt))), some (.long (((s * 10) + (b i).toInt64) - 48)), none, some (.int ((nI i) + 1)), some (.int (b i))], [], wd C Y og)) rfl ?_
              rw [show (1 - (nI pt) : Int32) = nI (1 - pt) from pk_sub (a := 1) (b := pt) (by omega)]
              rw [show ((nI bf) + (nI (1 - pt)) : Int32) = nI (bf + (1 - pt)) from nI_add bf (1 - pt)]
              rw [show ((nI bh) + (nI pt) : Int32) = nI (bh + pt) from nI_add bh pt]
              rw [show ((nI i) + 1 : Int32) = nI (i + 1) from nI_add i 1]
              refine am_drop_r [11] (L' := [some (.ref 16), some (.int (nI nv)), some (.int (nI p)), some (.int (nI e)), some (.int (nI sg)), some (.int (nI pt)), some (.int (nI (bf + (1 - pt)))), some (.int (nI (bh + pt))), some (.long (((s * 10) + (b i).toInt64) - 48)), none, some (.int (nI (i + 1))), none]) rfl ?_
              refine ih post (i + 1) pt (bf + (1 - pt)) (bh + pt) (((s * 10) + (b i).toInt64) - 48) (by omega) (by omega) (by omega) (by omega) (by omega) (fun vr w' hw => hpo vr w' ?_) (by omega)
              rw [show e - i = (e - (i + 1)) + 1 by omega]
              first | rw [nbB_pt (by assumption) (by omega)] | rw [nbB_fig (by rintro ⟨z1, z2⟩; first | contradiction | omega) (by assumption)]
              exact hw
            · skip
              refine am_steps_r ok_R_readNumber 3 (q' := (127, [some (.ref 16), some (.int (nI nv)), some (.int (nI p)), some (.int (nI e)), some (.int (nI sg)), some (.int (nI pt)), some (.int (nI bf)), some (.int (nI bh)), some (.long s), none, some (.int (nI i)), some (.int (b i))], [.int (nI p), .int 2, .ref 16], wd C Y og)) rfl ?_
              refine am_callV_r (As := [.int 2, .int (nI p)]) (rest := []) ok_R_readNumber rfl rfl ok_R_fail oi_R_fail lk_1_122 (Or.inl ⟨_, _, _, rfl, rfl, rfl⟩) rfl rfl (Nat.le_of_ble_eq_true rfl) (c_R_fail _ C Y og 2 (nI p)) ?_
              rintro v_ w_ ⟨rfl, rfl⟩ -
              refine am_eq_r (q' := (130, [some (.ref 16), some (.int (nI nv)), some (.int (nI p)), some (.int (nI e)), some (.int (nI sg)), some (.int (nI pt)), some (.int (nI bf)), some (.int (nI bh)), some (.long s), none, some (.int (nI i)), some (.int (b i))], [.int (-1)], wd (upd (upd C.1 5 2) 6 (nI p), C.2) Y og)) rfl ?_
              refine am_iret_r ok_R_readNumber rfl rfl rfl ?_
              refine hpo _ _ ?_
              rw [show e - i = (e - (i + 1)) + 1 by omega, nbB_bad (by rintro ⟨z1, z2⟩; first | contradiction | omega) (by assumption)]
              exact lfP_bad hL 2 p
set_option maxHeartbeats 400000 in
set_option maxRecDepth 100000 in
theorem lp_R_readNumber_18a (d : Nat) (Y : wd_Y) (og : Nat → Int64) (n : Nat) (b : Nat → Int32) (C0 : wd_C) (hT0 : tpC C0 n b) (nv u : Nat) (V : VT) (C : wd_C) (hL : lfC C0 C nv u V 0 0 []) (p e : Nat) (ha : C.1 4 = nI e) (hpe : p < e) (hen : e ≤ n)  : ∀ (fu : Nat) (post : Option Value → am_W → Prop) (i : Nat) (sg : Nat), (p ≤ i) → (i ≤ e) → (sg ≤ i) → (∀ vr w', lfP C0 Y og nv u V (nbF b p e (nbA b (e - i) i sg)) vr w' → post vr w') → e - i < fu → am_Rn l D cA ad fm (d + 2) m_R_readNumber (wd C Y og).length post (18, [some (.ref 16), some (.int (nI nv)), some (.int (nI p)), some (.int (nI e)), some (.int (nI sg)), some (.int 0), some (.int 0), some (.int 0), some (.long 0), none, some (.int (nI i)), none], [], wd C Y og) := by
  intro fu
  induction fu with
  | zero => intro post i sg hpi hie hsg hpo hfu; exact absurd hfu (Nat.not_lt_zero _)
  | succ fu ih =>
    intro post i sg hpi hie hsg hpo hfu
    have hT := tpC_f hT0 hL.2.2.1
    have hn := hT.2.1
    have hal := hL.1.1.2.1
    refine am_steps_r ok_R_readNumber 3 (q' := (bif decide ((nI e) ≤ (nI i)) then 137 else 24, [some (.ref 16), some (.int (nI nv)), some (.int (nI p)), some (.int (nI e)), some (.int (nI sg)), some (.int 0), some (.int 0), some (.int 0), some (.long 0), none, some (.int (nI i)), none], [], wd C Y og)) rfl ?_
    refine am_br_r (fun h_1 => ?_) (fun h_1 => ?_)
    · skip
      have h_1 : e ≤ i := (nI_leI (show e < 2 ^ 31 by omega) (show i < 2 ^ 31 by omega)).mp h_1
      refine am_steps_r ok_R_readNumber 7 (q' := (148, [some (.ref 16), some (.int (nI nv)), some (.int (nI p)), some (.int (nI e)), some (.int (nI sg)), some (.int 0), some (.int 0), some (.int 0), some (.long 0), none, some (.int (nI i)), none], [.int (nI p), .int 2, .ref 16], wd C Y og)) rfl ?_
      refine am_callV_r (As := [.int 2, .int (nI p)]) (rest := []) ok_R_readNumber rfl rfl ok_R_fail oi_R_fail lk_1_122 (Or.inl ⟨_, _, _, rfl, rfl, rfl⟩) rfl rfl (Nat.le_of_ble_eq_true rfl) (c_R_fail _ C Y og 2 (nI p)) ?_
      rintro v_ w_ ⟨rfl, rfl⟩ -
      refine am_eq_r (q' := (151, [some (.ref 16), some (.int (nI nv)), some (.int (nI p)), some (.int (nI e)), some (.int (nI sg)), some (.int 0), some (.int 0), some (.int 0), some (.long 0), none, some (.int (nI i)), none], [.int (-1)], wd (upd (upd C.1 5 2) 6 (nI p), C.2) Y og)) rfl ?_
      refine am_iret_r ok_R_readNumber rfl rfl rfl ?_
      refine hpo _ _ ?_
      rw [show e - i = 0 by omega, nbA, nbF, if_pos (by omega)]
      exact lfP_bad hL 2 p
    · skip
      have h_1 : ¬ e ≤ i := fun z => h_1 ((nI_leI (show e < 2 ^ 31 by omega) (show i < 2 ^ 31 by omega)).mpr z)
      refine am_steps_r ok_R_readNumber 3 (q' := (30, [some (.ref 16), some (.int (nI nv)), some (.int (nI p)), some (.int (nI e)), some (.int (nI sg)), some (.int 0), some (.int 0), some (.int 0), some (.long 0), none, some (.int (nI i)), none], [.int (nI i), .ref 1], wd C Y og)) rfl ?_
      refine am_callV_r (As := [.int (nI i)]) (rest := []) ok_R_readNumber rfl rfl ok_T_at oi_T_at lk_1_125 (Or.inl ⟨_, _, _, rfl, rfl, rfl⟩) rfl rfl (Nat.le_of_ble_eq_true rfl) (c_T_at _ C Y og n b hT i (by omega)) ?_
      rintro v_ w_ ⟨rfl, rfl⟩ -
      refine am_eq_r (q' := (33, [some (.ref 16), some (.int (nI nv)), some (.int (nI p)), some (.int (nI e)), some (.int (nI sg)), some (.int 0), some (.int 0), some (.int 0), some (.long 0), none, some (.int (nI i)), none], [.int (b i)], wd C Y og)) rfl ?_
      refine am_steps_r ok_R_readNumber 4 (q' := (bif decide ((b i) = 43) then 49 else 42, [some (.ref 16), some (.int (nI nv)), some (.int (nI p)), some (.int (nI e)), some (.int (nI sg)), some (.int 0), some (.int 0), some (.int 0), some (.long 0), none, some (.int (nI i)), some (.int (b i))], [], wd C Y og)) rfl ?_
      refine am_br_r (fun h_4 => ?_) (fun h_4 => ?_)
      · skip
        refine am_steps_r ok_R_readNumber 8 (q' := (18, [some (.ref 16), some (.int (nI nv)), some (.int (nI p)), some (.int (nI e)), some (.int ((nI sg) + 1)), some (.int 0), some (.int 0), some (.int 0), some (.long 0), none, some (.int ((nI i) + 1)), some (.int (b i))], [], wd C Y og)) rfl ?_
        rw [show ((nI sg) + 1 : Int32) = nI (sg + 1) from nI_add sg 1]
        rw [show ((nI i) + 1 : Int32) = nI (i + 1) from nI_add i 1]
        refine am_drop_r [11] (L' := [some (.ref 16), some (.int (nI nv)), some (.int (nI p)), some (.int (nI e)), some (.int (nI (sg + 1))), some (.int 0), some (.int 0), some (.int 0), some (.long 0), none, some (.int (nI (i + 1))), none]) rfl ?_
        refine ih post (i + 1) (sg + 1) (by omega) (by omega) (by omega) (fun vr w' hw => hpo vr w' ?_) (by omega)
        rw [show e - i = (e - (i + 1)) + 1 by omega, nbA_sg (by first | exact Or.inl (by assumption) | exact Or.inr (by assumption))]
        exact hw
      · skip
        refine am_steps_r ok_R_readNumber 3 (q' := (bif decide ((b i) = 45) then 49 else 63, [some (.ref 16), some (.int (nI nv)), some (.int (nI p)), some (.int (nI e)), some (.int (nI sg)), some (.int 0), some (.int 0), some (.int 0), some (.long 0), none, some (.int (nI i)), some (.int (b i))], [], wd C Y og)) rfl ?_
        refine am_br_r (fun h_5 => ?_) (fun h_5 => ?_)
        · skip
          refine am_steps_r ok_R_readNumber 8 (q' := (18, [some (.ref 16), some (.int (nI nv)), some (.int (nI p)), some (.int (nI e)), some (.int ((nI sg) + 1)), some (.int 0), some (.int 0), some (.int 0), some (.long 0), none, some (.int ((nI i) + 1)), some (.int (b i))], [], wd C Y og)) rfl ?_
          rw [show ((nI sg) + 1 : Int32) = nI (sg + 1) from nI_add sg 1]
          rw [show ((nI i) + 1 : Int32) = nI (i + 1) from nI_add i 1]
          refine am_drop_r [11] (L' := [some (.ref 16), some (.int (nI nv)), some (.int (nI p)), some (.int (nI e)), some (.int (nI (sg + 1))), some (.int 0), some (.int 0), some (.int 0), some (.long 0), none, some (.int (nI (i + 1))), none]) rfl ?_
          refine ih post (i + 1) (sg + 1) (by omega) (by omega) (by omega) (fun vr w' hw => hpo vr w' ?_) (by omega)
          rw [show e - i = (e - (i + 1)) + 1 by omega, nbA_sg (by first | exact Or.inl (by assumption) | exact Or.inr (by assumption))]
          exact hw
        · skip
          refine am_steps_r ok_R_readNumber 3 (q' := (bif decide ((b i) = 46) then 70 else 81, [some (.ref 16), some (.int (nI nv)), some (.int (nI p)), some (.int (nI e)), some (.int (nI sg)), some (.int 0), some (.int 0), some (.int 0), some (.long 0), none, some (.int (nI i)), some (.int (b i))], [], wd C Y og)) rfl ?_
          refine am_br_r (fun h_6 => ?_) (fun h_6 => ?_)
          · skip
            refine am_steps_r ok_R_readNumber 6 (q' := (18, [some (.ref 16), some (.int (nI nv)), some (.int (nI p)), some (.int (nI e)), some (.int (nI sg)), some (.int 1), some (.int 0), some (.int 0), some (.long 0), none, some (.int ((nI i) + 1)), some (.int (b i))], [], wd C Y og)) rfl ?_
            rw [show ((nI i) + 1 : Int32) = nI (i + 1) from nI_add i 1]
            refine am_drop_r [11] (L' := [some (.ref 16), some (.int (nI nv)), some (.int (nI p)), some (.int (nI e)), some (.int (nI sg)), some (.int 1), some (.int 0), some (.int 0), some (.long 0), none, some (.int (nI (i + 1))), none]) rfl ?_
            refine lp_R_readNumber_18 d Y og n b C0 hT0 nv u V C hL p e ha hpe hen sg (by omega) 2000 _ (i + 1) 1 0 0 0 (by omega) (by omega) (by omega) (by omega) (by omega) (fun vr w' hw => hpo vr w' ?_) (by omega)
            rw [show e - i = (e - (i + 1)) + 1 by omega, nbA_no (by assumption) (by assumption)]
            first | rw [nbB_pt (by assumption) rfl] | rw [nbB_fig (by rintro ⟨z1, z2⟩; first | contradiction | omega) (by assumption)]
            exact hw
          · skip
            refine am_steps_r ok_R_readNumber 1 (q' := (83, [some (.ref 16), some (.int (nI nv)), some (.int (nI p)), some (.int (nI e)), some (.int (nI sg)), some (.int 0), some (.int 0), some (.int 0), some (.long 0), none, some (.int (nI i)), some (.int (b i))], [.int (b i)], wd C Y og)) rfl ?_
            refine am_callN_r (As := [.int (b i)]) (rest := []) ok_R_readNumber rfl rfl ok_S_isFigure os_S_isFigure ln_1_238 rfl rfl (Nat.le_of_ble_eq_true rfl) (c_S_isFigure _ C Y og (b i)) ?_
            rintro v_ w_ ⟨rfl, rfl⟩ -
            refine am_eq_r (q' := (86, [some (.ref 16), some (.int (nI nv)), some (.int (nI p)), some (.int (nI e)), some (.int (nI sg)), some (.int 0), some (.int 0), some (.int 0), some (.long 0), none, some (.int (nI i)), some (.int (b i))], [.int (bz (isFig (b i)))], wd C Y og)) rfl ?_
            refine am_steps_r ok_R_readNumber 1 (q' := (bif decide ((bz (isFig (b i))) = 0) then 124 else 89, [some (.ref 16), some (.int (nI nv)), some (.int (nI p)), some (.int (nI e)), some (.int (nI sg)), some (.int 0), some (.int 0), some (.int 0), some (.long 0), none, some (.int (nI i)), some (.int (b i))], [], wd C Y og)) rfl ?_
            refine am_bz_r (fun h_8 => ?_) (fun h_8 => ?_)
            · skip
              refine am_steps_r ok_R_readNumber 22 (q' := (18, [some (.ref 16), some (.int (nI nv)), some (.int (nI p)), some (.int (nI e)), some (.int (nI sg)), some (.int 0), some (.int 1), some (.int 0), some (.long (((0 * 10) + (b i).toInt64) - 48)), none, some (.int ((nI i) + 1)), some (.int (b i))], [], wd C Y og)) rfl ?_
              rw [show ((nI i) + 1 : Int32) = nI (i + 1) from nI_add i 1]
              refine am_drop_r [11] (L' := [some (.ref 16), some (.int (nI nv)), some (.int (nI p)), some (.int (nI e)), some (.int (nI sg)), some (.int 0), some (.int 1), some (.int 0), some (.long (((0 * 10) + (b i).toInt64) - 48)), none, some (.int (nI (i + 1))), none]) rfl ?_
              refine lp_R_readNumber_18 d Y og n b C0 hT0 nv u V C hL p e ha hpe hen sg (by omega) 2000 _ (i + 1) 0 1 0 (((0 * 10) + (b i).toInt64) - 48) (by omega) (by omega) (by omega) (by omega) (by omega) (fun vr w' hw => hpo vr w' ?_) (by omega)
              rw [show e - i = (e - (i + 1)) + 1 by omega, nbA_no (by assumption) (by assumption)]
              first | rw [nbB_pt (by assumption) rfl] | rw [nbB_fig (by rintro ⟨z1, z2⟩; first | contradiction | omega) (by assumption)]
              exact hw
            · skip
              refine am_steps_r ok_R_readNumber 3 (q' := (127, [some (.ref 16), some (.int (nI nv)), some (.int (nI p)), some (.int (nI e)), some (.int (nI sg)), some (.int 0), some (.int 0), some (.int 0), some (.long 0), none, some (.int (nI i)), some (.int (b i))], [.int (nI p), .int 2, .ref 16], wd C Y og)) rfl ?_
              refine am_callV_r (As := [.int 2, .int (nI p)]) (rest := []) ok_R_readNumber rfl rfl ok_R_fail oi_R_fail lk_1_122 (Or.inl ⟨_, _, _, rfl, rfl, rfl⟩) rfl rfl (Nat.le_of_ble_eq_true rfl) (c_R_fail _ C Y og 2 (nI p)) ?_
              rintro v_ w_ ⟨rfl, rfl⟩ -
              refine am_eq_r (q' := (130, [some (.ref 16), some (.int (nI nv)), some (.int (nI p)), some (.int (nI e)), some (.int (nI sg)), some (.int 0), some (.int 0), some (.int 0), some (.long 0), none, some (.int (nI i)), some (.int (b i))], [.int (-1)], wd (upd (upd C.1 5 2) 6 (nI p), C.2) Y og)) rfl ?_
              refine am_iret_r ok_R_readNumber rfl rfl rfl ?_
              refine hpo _ _ ?_
              rw [show e - i = (e - (i + 1)) + 1 by omega, nbA_no (by assumption) (by assumption), nbB_bad (by rintro ⟨z1, z2⟩; first | contradiction | omega) (by assumption)]
              exact lfP_bad hL 2 p
set_option maxHeartbeats 8000000 in
set_option maxRecDepth 100000 in
theorem c_R_readNumber (d : Nat) (Y : wd_Y) (og : Nat → Int64) (n : Nat) (b : Nat → Int32) (C0 : wd_C) (hT0 : tpC C0 n b) (nv u : Nat) (V : VT) (C : wd_C) (hL : lfC C0 C nv u V 0 0 []) (p e : Nat) (ha : C.1 4 = nI e) (hpe : p < e) (hen : e ≤ n)  : am_Mt l D cA ad fm (d + 2) m_R_readNumber [.ref 16, .int (nI nv), .int (nI p), .int (nI e)] (wd C Y og) (lfP C0 Y og nv u V (nbF b p e (nbA b (e - p) p 0))) := by
  have hT := tpC_f hT0 hL.2.2.1
  have hn := hT.2.1
  have hal := hL.1.1.2.1
  refine am_mt ok_R_readNumber (by simp [am_arg, Value.category, m_R_readNumber, am_ml]) ?_
  refine am_eq_r (q' := (0, [some (.ref 16), some (.int (nI nv)), some (.int (nI p)), some (.int (nI e)), none, none, none, none, none, none, none, none], [], wd C Y og)) rfl ?_
  refine am_steps_r ok_R_readNumber 12 (q' := (18, [some (.ref 16), some (.int (nI nv)), some (.int (nI p)), some (.int (nI e)), some (.int 0), some (.int 0), some (.int 0), some (.int 0), some (.long 0), none, some (.int (nI p)), none], [], wd C Y og)) rfl ?_
  refine am_eq_r (q' := (18, [some (.ref 16), some (.int (nI nv)), some (.int (nI p)), some (.int (nI e)), some (.int (nI 0)), some (.int 0), some (.int 0), some (.int 0), some (.long 0), none, some (.int (nI p)), none], [], wd C Y og)) rfl ?_
  have hlp := lp_R_readNumber_18a (l := l) (D := D) (cA := cA) (ad := ad) (fm := fm) d Y og n b C0 hT0 nv u V C hL p e ha hpe hen 2000 (lfP C0 Y og nv u V (nbF b p e (nbA b (e - p) p 0))) p 0 (by omega) (by omega) (by omega) (fun vr w' hw => hw) (by omega)
  exact hlp
set_option maxHeartbeats 400000 in
set_option maxRecDepth 100000 in
theorem c_R_readWord (d : Nat) (C : wd_C) (Y : wd_Y) (og : Nat → Int64) (n : Nat) (b : Nat → Int32) (hT : tpC C n b) (nv u : Nat) (V : VT) (hS : lfC C C nv u V 0 0 []) (k : Nat) (ha : C.1 4 = nI k) (hk : k < n) (huk : u ≤ k) (hfm : fm = .null ∨ fm = .ref 3000) (hr : isReg (b k) = true) : am_Mt l D cA ad fm (d + 7) m_R_readWord [.ref 16, .int (nI nv)] (wd C Y og) (lfP C Y og nv u V (wdL n b k)) := by
  have hn := hT.2.1
  have hal : nv + 1 ≤ 300 := hS.1.1.2.1
  have hw := wEnd_le n b (k := k) (by omega)
  have hw2 : k < wEnd n b k := by rw [wEnd_reg hk hr]; exact (wEnd_le n b (k := k + 1) (by omega)).1
  refine am_mt ok_R_readWord (by simp [am_arg, Value.category, m_R_readWord, am_ml]) ?_
  refine am_eq_r (q' := (0, [some (.ref 16), some (.int (nI nv)), none, none], [], wd C Y og)) rfl ?_
  refine am_steps_r ok_R_readWord 6 (q' := (9, [some (.ref 16), some (.int (nI nv)), some (.int (C.1 4)), none], [.ref 1003, .int (C.1 4), .ref 16], wd C Y og)) rfl ?_
  rw [show (C.1 4 : Int32) = nI k from ha]
  refine am_callV_r (As := [.int (nI k), .ref 1003]) (rest := []) ok_R_readWord rfl rfl ok_R_behindPair oi_R_behindPair lk_1_72 (Or.inl ⟨_, _, _, rfl, rfl, rfl⟩) rfl rfl (Nat.le_of_ble_eq_true rfl) (c_R_behindPair _ C Y og n b hT 3 _ _ _ st_3 rfl (by decide) hfm k (by omega)) ?_
  rintro v_ w_ (⟨hq0, rfl, rfl⟩ | ⟨e1, e2, hq1, hq2, hq3, rfl, rfl⟩) -
  · skip
    refine am_eq_r (q' := (12, [some (.ref 16), some (.int (nI nv)), some (.int (nI k)), none], [.int (-1)], wd C Y og)) rfl ?_
    refine am_steps_r ok_R_readWord 8 (q' := (56, [some (.ref 16), some (.int (nI nv)), some (.int (nI k)), some (.int (-1))], [.int (nI k), .ref 1, .ref 16], wd C Y og)) rfl ?_
    refine am_callV_r (As := [.int (nI k)]) (rest := [.ref 16]) ok_R_readWord rfl rfl ok_T_behindWord oi_T_behindWord lk_1_190 (Or.inl ⟨_, _, _, rfl, rfl, rfl⟩) rfl rfl (Nat.le_of_ble_eq_true rfl) (c_T_behindWord _ C Y og n b hT k (by omega)) ?_
    rintro v_ w_ ⟨rfl, rfl⟩ -
    refine am_eq_r (q' := (59, [some (.ref 16), some (.int (nI nv)), some (.int (nI k)), some (.int (-1))], [.int (nI (wEnd n b k)), .ref 16], wd C Y og)) rfl ?_
    refine am_steps_r ok_R_readWord 5 (q' := (69, [some (.ref 16), some (.int (nI nv)), some (.int (nI k)), some (.int (-1))], [.ref 1004, .int (nI k), .ref 1], wd (upd C.1 4 (nI (wEnd n b k)), C.2) Y og)) rfl ?_
    refine am_callV_r (As := [.int (nI k), .ref 1004]) (rest := []) ok_R_readWord rfl rfl ok_T_wordStands oi_T_wordStands lk_1_83 (Or.inl ⟨_, _, _, rfl, rfl, rfl⟩) rfl rfl (Nat.le_of_ble_eq_true rfl) (c_T_wordStands _ (upd C.1 4 (nI (wEnd n b k)), C.2) Y og n b hT 4 _ _ _ st_4 rfl (by decide) hfm k (by omega)) ?_
    rintro v_ w_ ⟨rfl, rfl⟩ -
    refine am_eq_r (q' := (72, [some (.ref 16), some (.int (nI nv)), some (.int (nI k)), some (.int (-1))], [.int (bz (wdA b st_4 k))], wd (upd C.1 4 (nI (wEnd n b k)), C.2) Y og)) rfl ?_
    refine am_steps_r ok_R_readWord 1 (q' := (bif decide ((bz (wdA b st_4 k)) = 0) then 77 else 75, [some (.ref 16), some (.int (nI nv)), some (.int (nI k)), some (.int (-1))], [], wd (upd C.1 4 (nI (wEnd n b k)), C.2) Y og)) rfl ?_
    refine am_bz_r (fun h_3 => ?_) (fun h_3 => ?_)
    · skip
      refine am_steps_r ok_R_readWord 1 (q' := (76, [some (.ref 16), some (.int (nI nv)), some (.int (nI k)), some (.int (-1))], [.int (nI nv)], wd (upd C.1 4 (nI (wEnd n b k)), C.2) Y og)) rfl ?_
      refine am_iret_r ok_R_readWord rfl rfl rfl ?_
      simp only [wdL, hq0]
      rw [if_pos (by assumption)]
      exact lfP_ok (C := (upd C.1 4 (nI (wEnd n b k)), C.2)) hS rfl
    · skip
      refine am_steps_r ok_R_readWord 4 (q' := (84, [some (.ref 16), some (.int (nI nv)), some (.int (nI k)), some (.int (-1))], [.ref 1005, .int (nI k), .ref 1], wd (upd C.1 4 (nI (wEnd n b k)), C.2) Y og)) rfl ?_
      refine am_callV_r (As := [.int (nI k), .ref 1005]) (rest := []) ok_R_readWord rfl rfl ok_T_wordStands oi_T_wordStands lk_1_83 (Or.inl ⟨_, _, _, rfl, rfl, rfl⟩) rfl rfl (Nat.le_of_ble_eq_true rfl) (c_T_wordStands _ (upd C.1 4 (nI (wEnd n b k)), C.2) Y og n b hT 5 _ _ _ st_5 rfl (by decide) hfm k (by omega)) ?_
      rintro v_ w_ ⟨rfl, rfl⟩ -
      refine am_eq_r (q' := (87, [some (.ref 16), some (.int (nI nv)), some (.int (nI k)), some (.int (-1))], [.int (bz (wdA b st_5 k))], wd (upd C.1 4 (nI (wEnd n b k)), C.2) Y og)) rfl ?_
      refine am_steps_r ok_R_readWord 1 (q' := (bif decide ((bz (wdA b st_5 k)) = 0) then 90 else 103, [some (.ref 16), some (.int (nI nv)), some (.int (nI k)), some (.int (-1))], [], wd (upd C.1 4 (nI (wEnd n b k)), C.2) Y og)) rfl ?_
      refine am_bz_r (fun h_5 => ?_) (fun h_5 => ?_)
      · skip
        refine am_steps_r ok_R_readWord 7 (q' := (114, [some (.ref 16), some (.int (nI nv)), some (.int (nI k)), some (.int (-1))], [.int (nI k), .ref 1, .int 1, .int (nI nv), .ref 3], wd (upd C.1 4 (nI (wEnd n b k)), C.2) Y og)) rfl ?_
        refine am_callV_r (As := [.int (nI k)]) (rest := [.int 1, .int (nI nv), .ref 3]) ok_R_readWord rfl rfl ok_T_at oi_T_at lk_1_125 (Or.inl ⟨_, _, _, rfl, rfl, rfl⟩) rfl rfl (Nat.le_of_ble_eq_true rfl) (c_T_at _ (upd C.1 4 (nI (wEnd n b k)), C.2) Y og n b hT k (by omega)) ?_
        rintro v_ w_ ⟨rfl, rfl⟩ -
        refine am_eq_r (q' := (117, [some (.ref 16), some (.int (nI nv)), some (.int (nI k)), some (.int (-1))], [.int (b k), .int 1, .int (nI nv), .ref 3], wd (upd C.1 4 (nI (wEnd n b k)), C.2) Y og)) rfl ?_
        refine am_steps_r ok_R_readWord 2 (q' := (bif decide ((b k) = 116) then 122 else 126, [some (.ref 16), some (.int (nI nv)), some (.int (nI k)), some (.int (-1))], [.int 1, .int (nI nv), .ref 3], wd (upd C.1 4 (nI (wEnd n b k)), C.2) Y og)) rfl ?_
        refine am_br_r (fun h_7 => ?_) (fun h_7 => ?_)
        · skip
          refine am_steps_r ok_R_readWord 2 (q' := (127, [some (.ref 16), some (.int (nI nv)), some (.int (nI k)), some (.int (-1))], [.long 1, .int 1, .int (nI nv), .ref 3], wd (upd C.1 4 (nI (wEnd n b k)), C.2) Y og)) rfl ?_
          refine am_callV_r (As := [.int (nI nv), .int 1, .long 1]) (rest := []) ok_R_readWord rfl rfl ok_V_setKind oi_V_setKind lk_1_155 (Or.inl ⟨_, _, _, rfl, rfl, rfl⟩) rfl rfl (Nat.le_of_ble_eq_true rfl) (c_V_setKind _ (upd C.1 4 (nI (wEnd n b k)), C.2) Y og (nv + 1) (u + 0) hS.1.1 nv (by omega) 1 1) ?_
          rintro v_ w_ ⟨rfl, rfl⟩ -
          refine am_eq_r (q' := (130, [some (.ref 16), some (.int (nI nv)), some (.int (nI k)), some (.int (-1))], [], wd (vKind (upd C.1 4 (nI (wEnd n b k)), C.2) nv 1 1) Y og)) rfl ?_
          refine am_steps_r ok_R_readWord 1 (q' := (131, [some (.ref 16), some (.int (nI nv)), some (.int (nI k)), some (.int (-1))], [.int (nI nv)], wd (vKind (upd C.1 4 (nI (wEnd n b k)), C.2) nv 1 1) Y og)) rfl ?_
          refine am_iret_r ok_R_readWord rfl rfl rfl ?_
          simp only [wdL, hq0]
          first | (rw [if_neg (by simp [*]), if_pos (by assumption)]; exact lfP_ok (C := (vKind (upd C.1 4 (nI (wEnd n b k)), C.2) nv 1 1)) (lfC_kind hS 1 1) rfl) | (exfalso; have h6 := wdA_hd (show wdA b (102 :: [97, 108, 115, 101]) k = true by assumption); exact absurd (h6.symm.trans (show b k = 116 by assumption)) (by decide))
        · skip
          refine am_steps_r ok_R_readWord 1 (q' := (127, [some (.ref 16), some (.int (nI nv)), some (.int (nI k)), some (.int (-1))], [.long 0, .int 1, .int (nI nv), .ref 3], wd (upd C.1 4 (nI (wEnd n b k)), C.2) Y og)) rfl ?_
          refine am_callV_r (As := [.int (nI nv), .int 1, .long 0]) (rest := []) ok_R_readWord rfl rfl ok_V_setKind oi_V_setKind lk_1_155 (Or.inl ⟨_, _, _, rfl, rfl, rfl⟩) rfl rfl (Nat.le_of_ble_eq_true rfl) (c_V_setKind _ (upd C.1 4 (nI (wEnd n b k)), C.2) Y og (nv + 1) (u + 0) hS.1.1 nv (by omega) 1 0) ?_
          rintro v_ w_ ⟨rfl, rfl⟩ -
          refine am_eq_r (q' := (130, [some (.ref 16), some (.int (nI nv)), some (.int (nI k)), some (.int (-1))], [], wd (vKind (upd C.1 4 (nI (wEnd n b k)), C.2) nv 1 0) Y og)) rfl ?_
          refine am_steps_r ok_R_readWord 1 (q' := (131, [some (.ref 16), some (.int (nI nv)), some (.int (nI k)), some (.int (-1))], [.int (nI nv)], wd (vKind (upd C.1 4 (nI (wEnd n b k)), C.2) nv 1 0) Y og)) rfl ?_
          refine am_iret_r ok_R_readWord rfl rfl rfl ?_
          simp only [wdL, hq0]
          first | (exfalso; exact absurd (wdA_hd (show wdA b (116 :: [114, 117, 101]) k = true by assumption)) (by assumption)) | (rw [if_neg (by simp [*]), if_neg (by simp [*]), if_pos (by assumption)]; exact lfP_ok (C := (vKind (upd C.1 4 (nI (wEnd n b k)), C.2) nv 1 0)) (lfC_kind hS 1 0) rfl)
      · skip
        refine am_steps_r ok_R_readWord 4 (q' := (97, [some (.ref 16), some (.int (nI nv)), some (.int (nI k)), some (.int (-1))], [.ref 1006, .int (nI k), .ref 1], wd (upd C.1 4 (nI (wEnd n b k)), C.2) Y og)) rfl ?_
        refine am_callV_r (As := [.int (nI k), .ref 1006]) (rest := []) ok_R_readWord rfl rfl ok_T_wordStands oi_T_wordStands lk_1_83 (Or.inl ⟨_, _, _, rfl, rfl, rfl⟩) rfl rfl (Nat.le_of_ble_eq_true rfl) (c_T_wordStands _ (upd C.1 4 (nI (wEnd n b k)), C.2) Y og n b hT 6 _ _ _ st_6 rfl (by decide) hfm k (by omega)) ?_
        rintro v_ w_ ⟨rfl, rfl⟩ -
        refine am_eq_r (q' := (100, [some (.ref 16), some (.int (nI nv)), some (.int (nI k)), some (.int (-1))], [.int (bz (wdA b st_6 k))], wd (upd C.1 4 (nI (wEnd n b k)), C.2) Y og)) rfl ?_
        refine am_steps_r ok_R_readWord 1 (q' := (bif decide ((bz (wdA b st_6 k)) = 0) then 132 else 103, [some (.ref 16), some (.int (nI nv)), some (.int (nI k)), some (.int (-1))], [], wd (upd C.1 4 (nI (wEnd n b k)), C.2) Y og)) rfl ?_
        refine am_bz_r (fun h_11 => ?_) (fun h_11 => ?_)
        · skip
          refine am_steps_r ok_R_readWord 7 (q' := (114, [some (.ref 16), some (.int (nI nv)), some (.int (nI k)), some (.int (-1))], [.int (nI k), .ref 1, .int 1, .int (nI nv), .ref 3], wd (upd C.1 4 (nI (wEnd n b k)), C.2) Y og)) rfl ?_
          refine am_callV_r (As := [.int (nI k)]) (rest := [.int 1, .int (nI nv), .ref 3]) ok_R_readWord rfl rfl ok_T_at oi_T_at lk_1_125 (Or.inl ⟨_, _, _, rfl, rfl, rfl⟩) rfl rfl (Nat.le_of_ble_eq_true rfl) (c_T_at _ (upd C.1 4 (nI (wEnd n b k)), C.2) Y og n b hT k (by omega)) ?_
          rintro v_ w_ ⟨rfl, rfl⟩ -
          refine am_eq_r (q' := (117, [some (.ref 16), some (.int (nI nv)), some (.int (nI k)), some (.int (-1))], [.int (b k), .int 1, .int (nI nv), .ref 3], wd (upd C.1 4 (nI (wEnd n b k)), C.2) Y og)) rfl ?_
          refine am_steps_r ok_R_readWord 2 (q' := (bif decide ((b k) = 116) then 122 else 126, [some (.ref 16), some (.int (nI nv)), some (.int (nI k)), some (.int (-1))], [.int 1, .int (nI nv), .ref 3], wd (upd C.1 4 (nI (wEnd n b k)), C.2) Y og)) rfl ?_
          refine am_br_r (fun h_13 => ?_) (fun h_13 => ?_)
          · skip
            refine am_steps_r ok_R_readWord 2 (q' := (127, [some (.ref 16), some (.int (nI nv)), some (.int (nI k)), some (.int (-1))], [.long 1, .int 1, .int (nI nv), .ref 3], wd (upd C.1 4 (nI (wEnd n b k)), C.2) Y og)) rfl ?_
            refine am_callV_r (As := [.int (nI nv), .int 1, .long 1]) (rest := []) ok_R_readWord rfl rfl ok_V_setKind oi_V_setKind lk_1_155 (Or.inl ⟨_, _, _, rfl, rfl, rfl⟩) rfl rfl (Nat.le_of_ble_eq_true rfl) (c_V_setKind _ (upd C.1 4 (nI (wEnd n b k)), C.2) Y og (nv + 1) (u + 0) hS.1.1 nv (by omega) 1 1) ?_
            rintro v_ w_ ⟨rfl, rfl⟩ -
            refine am_eq_r (q' := (130, [some (.ref 16), some (.int (nI nv)), some (.int (nI k)), some (.int (-1))], [], wd (vKind (upd C.1 4 (nI (wEnd n b k)), C.2) nv 1 1) Y og)) rfl ?_
            refine am_steps_r ok_R_readWord 1 (q' := (131, [some (.ref 16), some (.int (nI nv)), some (.int (nI k)), some (.int (-1))], [.int (nI nv)], wd (vKind (upd C.1 4 (nI (wEnd n b k)), C.2) nv 1 1) Y og)) rfl ?_
            refine am_iret_r ok_R_readWord rfl rfl rfl ?_
            simp only [wdL, hq0]
            first | (rw [if_neg (by simp [*]), if_pos (by assumption)]; exact lfP_ok (C := (vKind (upd C.1 4 (nI (wEnd n b k)), C.2) nv 1 1)) (lfC_kind hS 1 1) rfl) | (exfalso; have h6 := wdA_hd (show wdA b (102 :: [97, 108, 115, 101]) k = true by assumption); exact absurd (h6.symm.trans (show b k = 116 by assumption)) (by decide))
          · skip
            refine am_steps_r ok_R_readWord 1 (q' := (127, [some (.ref 16), some (.int (nI nv)), some (.int (nI k)), some (.int (-1))], [.long 0, .int 1, .int (nI nv), .ref 3], wd (upd C.1 4 (nI (wEnd n b k)), C.2) Y og)) rfl ?_
            refine am_callV_r (As := [.int (nI nv), .int 1, .long 0]) (rest := []) ok_R_readWord rfl rfl ok_V_setKind oi_V_setKind lk_1_155 (Or.inl ⟨_, _, _, rfl, rfl, rfl⟩) rfl rfl (Nat.le_of_ble_eq_true rfl) (c_V_setKind _ (upd C.1 4 (nI (wEnd n b k)), C.2) Y og (nv + 1) (u + 0) hS.1.1 nv (by omega) 1 0) ?_
            rintro v_ w_ ⟨rfl, rfl⟩ -
            refine am_eq_r (q' := (130, [some (.ref 16), some (.int (nI nv)), some (.int (nI k)), some (.int (-1))], [], wd (vKind (upd C.1 4 (nI (wEnd n b k)), C.2) nv 1 0) Y og)) rfl ?_
            refine am_steps_r ok_R_readWord 1 (q' := (131, [some (.ref 16), some (.int (nI nv)), some (.int (nI k)), some (.int (-1))], [.int (nI nv)], wd (vKind (upd C.1 4 (nI (wEnd n b k)), C.2) nv 1 0) Y og)) rfl ?_
            refine am_iret_r ok_R_readWord rfl rfl rfl ?_
            simp only [wdL, hq0]
            first | (exfalso; exact absurd (wdA_hd (show wdA b (116 :: [114, 117, 101]) k = true by assumption)) (by assumption)) | (rw [if_neg (by simp [*]), if_neg (by simp [*]), if_pos (by assumption)]; exact lfP_ok (C := (vKind (upd C.1 4 (nI (wEnd n b k)), C.2) nv 1 0)) (lfC_kind hS 1 0) rfl)
        · skip
          refine am_steps_r ok_R_readWord 5 (q' := (139, [some (.ref 16), some (.int (nI nv)), some (.int (nI k)), some (.int (-1))], [.int (nI (wEnd n b k)), .int (nI k), .int (nI nv), .ref 16], wd (upd C.1 4 (nI (wEnd n b k)), C.2) Y og)) rfl ?_
          refine am_callV_r (As := [.int (nI nv), .int (nI k), .int (nI (wEnd n b k))]) (rest := []) ok_R_readWord rfl rfl ok_R_readNumber oi_R_readNumber lk_1_235 (Or.inl ⟨_, _, _, rfl, rfl, rfl⟩) rfl rfl (Nat.le_of_ble_eq_true rfl) (c_R_readNumber _ Y og n b C hT nv u V (upd C.1 4 (nI (wEnd n b k)), C.2) hS k (wEnd n b k) rfl (by omega) (by omega)) ?_
          rintro v_ w_ hres -
          obtain ⟨x_, rfl⟩ := lfP_int hres
          refine am_iret_r ok_R_readWord rfl rfl (lfP_len hres) ?_
          simp only [wdL, hq0]
          rw [if_neg (by simp [*]), if_neg (by simp [*]), if_neg (by simp [*])]
          rw [nbL]
          exact hres
  · skip
    have hE := rfN_eq hT.2.2.2 (by omega) hq1 hq2
    obtain ⟨a1, a2, a3, a4, a5, a6, a7⟩ := fgW_some hT.2.2.2 (by omega) hq1
    have wq := skW_le n b a3
    obtain ⟨c1, c2, c3, c4, c5, c6, c7⟩ := fgW_some hT.2.2.2 wq.2 hq2
    have wq2 := skW_le n b c3
    refine am_eq_r (q' := (12, [some (.ref 16), some (.int (nI nv)), some (.int (nI k)), none], [.int (nI (skW n b e2 + 1))], wd (upd (upd C.1 9 (fgS b (e1 - k) k 0)) 10 (fgS b (e2 - skW n b e1) (skW n b e1) 0), C.2) Y og)) rfl ?_
    refine am_steps_r ok_R_readWord 4 (q' := (bif decide ((nI (skW n b e2 + 1)) = (-1)) then 50 else 18, [some (.ref 16), some (.int (nI nv)), some (.int (nI k)), some (.int (nI (skW n b e2 + 1)))], [], wd (upd (upd C.1 9 (fgS b (e1 - k) k 0)) 10 (fgS b (e2 - skW n b e1) (skW n b e1) 0), C.2) Y og)) rfl ?_
    refine am_br_r (fun h_16 => ?_) (fun h_16 => ?_)
    · skip
      exact absurd h_16 (nI_nm (show (skW n b e2 + 1) < 2 ^ 31 by omega))
    · skip
      refine am_steps_r ok_R_readWord 13 (q' := (40, [some (.ref 16), some (.int (nI nv)), some (.int (nI k)), some (.int (nI (skW n b e2 + 1)))], [.long (((fgS b (e2 - skW n b e1) (skW n b e1) 0).toInt64 * 1000000000) + (fgS b (e1 - k) k 0).toInt64), .int 8, .int (nI nv), .ref 3], wd (upd (upd C.1 9 (fgS b (e1 - k) k 0)) 10 (fgS b (e2 - skW n b e1) (skW n b e1) 0), C.2) Y og)) rfl ?_
      refine am_callV_r (As := [.int (nI nv), .int 8, .long (((fgS b (e2 - skW n b e1) (skW n b e1) 0).toInt64 * 1000000000) + (fgS b (e1 - k) k 0).toInt64)]) (rest := []) ok_R_readWord rfl rfl ok_V_setKind oi_V_setKind lk_1_155 (Or.inl ⟨_, _, _, rfl, rfl, rfl⟩) rfl rfl (Nat.le_of_ble_eq_true rfl) (c_V_setKind _ (upd (upd C.1 9 (fgS b (e1 - k) k 0)) 10 (fgS b (e2 - skW n b e1) (skW n b e1) 0), C.2) Y og (nv + 1) (u + 0) hS.1.1 nv (by omega) 8 (((fgS b (e2 - skW n b e1) (skW n b e1) 0).toInt64 * 1000000000) + (fgS b (e1 - k) k 0).toInt64)) ?_
      rintro v_ w_ ⟨rfl, rfl⟩ -
      refine am_eq_r (q' := (43, [some (.ref 16), some (.int (nI nv)), some (.int (nI k)), some (.int (nI (skW n b e2 + 1)))], [], wd (vKind (upd (upd C.1 9 (fgS b (e1 - k) k 0)) 10 (fgS b (e2 - skW n b e1) (skW n b e1) 0), C.2) nv 8 (((fgS b (e2 - skW n b e1) (skW n b e1) 0).toInt64 * 1000000000) + (fgS b (e1 - k) k 0).toInt64)) Y og)) rfl ?_
      refine am_steps_r ok_R_readWord 4 (q' := (49, [some (.ref 16), some (.int (nI nv)), some (.int (nI k)), some (.int (nI (skW n b e2 + 1)))], [.int (nI nv)], wd (upd ((vKind (upd (upd C.1 9 (fgS b (e1 - k) k 0)) 10 (fgS b (e2 - skW n b e1) (skW n b e1) 0), C.2) nv 8 (((fgS b (e2 - skW n b e1) (skW n b e1) 0).toInt64 * 1000000000) + (fgS b (e1 - k) k 0).toInt64)).1) 4 (nI (skW n b e2 + 1)), (vKind (upd (upd C.1 9 (fgS b (e1 - k) k 0)) 10 (fgS b (e2 - skW n b e1) (skW n b e1) 0), C.2) nv 8 (((fgS b (e2 - skW n b e1) (skW n b e1) 0).toInt64 * 1000000000) + (fgS b (e1 - k) k 0).toInt64)).2) Y og)) rfl ?_
      refine am_iret_r ok_R_readWord rfl rfl rfl ?_
      simp only [wdL, prW_some hq1 hq2 hq3]
      rw [← hE.1]
      exact lfP_ok (C := (upd ((vKind (upd (upd C.1 9 (fgS b (e1 - k) k 0)) 10 (fgS b (e2 - skW n b e1) (skW n b e1) 0), C.2) nv 8 (((fgS b (e2 - skW n b e1) (skW n b e1) 0).toInt64 * 1000000000) + (fgS b (e1 - k) k 0).toInt64)).1) 4 (nI (skW n b e2 + 1)), (vKind (upd (upd C.1 9 (fgS b (e1 - k) k 0)) 10 (fgS b (e2 - skW n b e1) (skW n b e1) 0), C.2) nv 8 (((fgS b (e2 - skW n b e1) (skW n b e1) 0).toInt64 * 1000000000) + (fgS b (e1 - k) k 0).toInt64)).2)) (lfC_kind hS 8 _) rfl
end C48
