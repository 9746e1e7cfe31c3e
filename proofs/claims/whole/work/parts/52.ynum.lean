/-! the reference reads strings of figures, numbers, words; printed by wip/gen/g52.py -/
theorem m10_0 {rl : Bool} {j : Nat} {v : Int64} (h : rl = false ∨ 6 ≤ j) : m10 (if rl = true then 6 - j else 0) v = v := by
  rcases h with h | h
  · rw [h]; rfl
  · rw [show 6 - j = 0 by omega]
    split <;> rfl
section C52
variable {l : Launch} {D : va_G} {cA : Nat → ClassId} {ad : Nat → Nat} {fm : Value}
set_option maxHeartbeats 2000000 in
set_option maxRecDepth 100000 in
theorem lp_M_readAngled_40 (d : Nat) (C : wd_C) (og : Nat → Int64) (n : Nat) (b : Nat → Int32) (Y0 : wd_Y) (hT0 : tpY Y0 n b) (nv u : Nat) (V : VT) (p : Nat) (hp : p < n)  : ∀ (fu : Nat) (post : Option Value → am_W → Prop) (Y : wd_Y) (k : Nat) (hf : Int32) (acc : List Int32), (lfD Y0 Y nv u V 5 acc) → (Y.1 6 = nI k) → (isH hf) → (p + 1 ≤ k) → (k ≤ n) → (acc.length ≤ 200) → (u + acc.length < k) → (∀ vr w', lfQ Y0 C og nv u V (anR n b p fu k hf acc) vr w' → post vr w') → n - k < fu → am_Rn l D cA ad fm (d + 2) m_M_readAngled (wd C Y og).length post (40, [some (.ref 19), some (.int (nI p)), some (.int (nI nv)), some (.int hf), none], [], wd C Y og) := by
  intro fu
  induction fu with
  | zero => intro post Y k hf acc hL ha hh hk hkn hacc hua hpo hfu; exact absurd hfu (Nat.not_lt_zero _)
  | succ fu ih =>
    intro post Y k hf acc hL ha hh hk hkn hacc hua hpo hfu
    have hT := tpY_f hT0 hL.2.2.2.1
    have hn := hT.2.1
    have hal := hL.1.1.2.1
    refine am_steps_r ok_M_readAngled 3 (q' := (45, [some (.ref 19), some (.int (nI p)), some (.int (nI nv)), some (.int hf), none], [.int (Y.1 6), .ref 19], wd C Y og)) rfl ?_
    rw [show (Y.1 6 : Int32) = nI k from ha]
    refine am_callV_r (As := [.int (nI k)]) (rest := []) ok_M_readAngled rfl rfl ok_M_byteAt oi_M_byteAt lk_6_78 (Or.inl ⟨_, _, _, rfl, rfl, rfl⟩) rfl rfl (Nat.le_of_ble_eq_true rfl) (c_M_byteAt _ C Y og n b hT k (by omega)) ?_
    rintro v_ w_ ⟨rfl, rfl⟩ -
    refine am_eq_r (q' := (48, [some (.ref 19), some (.int (nI p)), some (.int (nI nv)), some (.int hf), none], [.int (b k)], wd C Y og)) rfl ?_
    refine am_steps_r ok_M_readAngled 2 (q' := (bif decide ((b k) = 62) then 173 else 53, [some (.ref 19), some (.int (nI p)), some (.int (nI nv)), some (.int hf), none], [], wd C Y og)) rfl ?_
    refine am_br_r (fun h_2 => ?_) (fun h_2 => ?_)
    · skip
      have hkn2 : k < n := by rcases Nat.lt_or_ge k n with g | g; exact g; rw [hT.2.2.2.1 k g] at h_2; exact absurd h_2 (by decide)
      refine am_steps_r ok_M_readAngled 8 (q' := (bif decide (hf < 0) then 214 else 187, [some (.ref 19), some (.int (nI p)), some (.int (nI nv)), some (.int hf), none], [], wd C (upd Y.1 6 ((Y.1 6) + 1), Y.2) og)) rfl ?_
      rw [show (Y.1 6 : Int32) = nI k from ha]
      rw [show ((nI k) + 1 : Int32) = nI (k + 1) from nI_add k 1]
      refine am_br_r (fun h_3 => ?_) (fun h_3 => ?_)
      · skip
        have hv_4 : hf = -1 := isH_neg hh h_3
        refine am_steps_r ok_M_readAngled 3 (q' := (217, [some (.ref 19), some (.int (nI p)), some (.int (nI nv)), some (.int hf), none], [.int (nI p), .int (nI nv), .ref 19], wd C (upd Y.1 6 (nI (k + 1)), Y.2) og)) rfl ?_
        refine am_callV_r (As := [.int (nI nv), .int (nI p)]) (rest := []) ok_M_readAngled rfl rfl ok_M_keepBytes oi_M_keepBytes lk_6_161 (Or.inl ⟨_, _, _, rfl, rfl, rfl⟩) rfl rfl (Nat.le_of_ble_eq_true rfl) (c_M_keepBytes _ C (upd Y.1 6 (nI (k + 1)), Y.2) og (nv + 1) u hL.1.1 nv acc.length (by omega) hL.2.1 (by omega) (by omega) (nI p)) ?_
        rintro v_ w_ ⟨rfl, rfl⟩ -
        refine am_eq_r (q' := (220, [some (.ref 19), some (.int (nI p)), some (.int (nI nv)), some (.int hf), none], [.int 1], wd C (yKeep (upd Y.1 6 (nI (k + 1)), Y.2) nv u acc.length) og)) rfl ?_
        refine am_zret_r ok_M_readAngled rfl rfl rfl rfl ?_
        refine hpo _ _ ?_
        rw [anR_c0 (by omega) (by assumption) (by assumption)]
        exact lfQ_ok (Y := (upd Y.1 6 (nI (k + 1)), Y.2)) hL rfl (by omega)
      · skip
        have hv_6 : ¬ hf = -1 := isH_pos h_3
        refine am_steps_r ok_M_readAngled 6 (q' := (196, [some (.ref 19), some (.int (nI p)), some (.int (nI nv)), some (.int hf), none], [.int (nI p), .int 200, .int (16 * hf), .ref 19], wd C (upd Y.1 6 (nI (k + 1)), Y.2) og)) rfl ?_
        refine am_callV_r (As := [.int (16 * hf), .int 200, .int (nI p)]) (rest := []) ok_M_readAngled rfl rfl ok_M_gets oi_M_gets lk_6_157 (Or.inl ⟨_, _, _, rfl, rfl, rfl⟩) rfl rfl (Nat.le_of_ble_eq_true rfl) (c_M_gets _ C (upd Y.1 6 (nI (k + 1)), Y.2) og Y0 nv u V _ acc hL (16 * hf) 200 (by omega) (by omega) p (k + 1) (by first | rfl | exact ha)) ?_
        rintro v_ w_ (⟨q_10, rfl, Y_7, rfl, ha_8, hL_9⟩ | ⟨q_10, rfl, rfl⟩) -
        · skip
          have hT := tpY_f hT0 hL_9.2.2.2.1
          refine am_eq_r (q' := (199, [some (.ref 19), some (.int (nI p)), some (.int (nI nv)), some (.int hf), none], [.int 1], wd C Y_7 og)) rfl ?_
          refine am_steps_r ok_M_readAngled 10 (q' := (217, [some (.ref 19), some (.int (nI p)), some (.int (nI nv)), some (.int hf), none], [.int (nI p), .int (nI nv), .ref 19], wd C (upd Y_7.1 9 ((Y_7.1 9) ||| 1), Y_7.2) og)) rfl ?_
          refine am_callV_r (As := [.int (nI nv), .int (nI p)]) (rest := []) ok_M_readAngled rfl rfl ok_M_keepBytes oi_M_keepBytes lk_6_161 (Or.inl ⟨_, _, _, rfl, rfl, rfl⟩) rfl rfl (Nat.le_of_ble_eq_true rfl) (c_M_keepBytes _ C (upd Y_7.1 9 ((Y_7.1 9) ||| 1), Y_7.2) og (nv + 1) u hL_9.1.1 nv (acc ++ [(16 * hf)]).length (by omega) hL_9.2.1 (by simp; omega) (by simp; omega) (nI p)) ?_
          rintro v_ w_ ⟨rfl, rfl⟩ -
          refine am_eq_r (q' := (220, [some (.ref 19), some (.int (nI p)), some (.int (nI nv)), some (.int hf), none], [.int 1], wd C (yKeep (upd Y_7.1 9 ((Y_7.1 9) ||| 1), Y_7.2) nv u (acc ++ [(16 * hf)]).length) og)) rfl ?_
          refine am_zret_r ok_M_readAngled rfl rfl rfl rfl ?_
          refine hpo _ _ ?_
          rw [anR_c2 (by omega) (by assumption) (by assumption) (by omega), Int32.mul_comm hf 16]
          exact lfQ_odd hL_9 ha_8 (by simp; omega) 1
        · skip
          refine am_eq_r (q' := (199, [some (.ref 19), some (.int (nI p)), some (.int (nI nv)), some (.int hf), none], [.int 0], wd C (upd (upd (upd Y.1 6 (nI (k + 1))) 7 3) 8 (nI p), Y.2) og)) rfl ?_
          refine am_steps_r ok_M_readAngled 2 (q' := (203, [some (.ref 19), some (.int (nI p)), some (.int (nI nv)), some (.int hf), none], [.int 0], wd C (upd (upd (upd Y.1 6 (nI (k + 1))) 7 3) 8 (nI p), Y.2) og)) rfl ?_
          refine am_zret_r ok_M_readAngled rfl rfl rfl rfl ?_
          refine hpo _ _ ?_
          rw [anR_c1 (by omega) (by assumption) (by assumption) (by omega)]
          exact lfQ_bad (Y := (upd Y.1 6 (nI (k + 1)), Y.2)) hL 3 p
    · skip
      refine am_steps_r ok_M_readAngled 5 (q' := (bif decide ((Y.1 6) < (Y.1 1)) then 74 else 64, [some (.ref 19), some (.int (nI p)), some (.int (nI nv)), some (.int hf), none], [], wd C Y og)) rfl ?_
      rw [show (Y.1 6 : Int32) = nI k from ha]
      rw [show (Y.1 1 : Int32) = nI n from hT.1]
      refine am_br_r (fun h_12 => ?_) (fun h_12 => ?_)
      · skip
        have h_12 : k < n := (nI_ltI (show k < 2 ^ 31 by omega) (show n < 2 ^ 31 by omega)).mp h_12
        have hrd := hT.2.2.1 k (by omega)
        refine am_steps_r ok_M_readAngled 4 (q' := (82, [some (.ref 19), some (.int (nI p)), some (.int (nI nv)), some (.int hf), none], [.int (Y.1 6), .ref 20], wd C Y og)) rfl ?_
        rw [show (Y.1 6 : Int32) = nI k from ha]
        refine am_iald_r ok_M_readAngled rfl (w := wd C Y og) (f := Y.2.1 0) rfl rfl (pk_in k 1600 (by omega)) ?_
        rw [nI_clamp (show k < 2 ^ 31 by omega)]
        rw [hrd]
        refine am_callS_r (As := [.int (b k)]) (rest := []) ok_M_readAngled rfl rfl ok_M_hex os_M_hex lk_6_154 rfl rfl (Nat.le_of_ble_eq_true rfl) (c_M_hex _ C Y og (b k)) ?_
        rintro v_ w_ ⟨rfl, rfl⟩ -
        refine am_eq_r (q' := (86, [some (.ref 19), some (.int (nI p)), some (.int (nI nv)), some (.int hf), none], [.int (hexV (b k))], wd C Y og)) rfl ?_
        refine am_steps_r ok_M_readAngled 3 (q' := (bif decide (0 ≤ (hexV (b k))) then 118 else 93, [some (.ref 19), some (.int (nI p)), some (.int (nI nv)), some (.int hf), some (.int (hexV (b k)))], [], wd C Y og)) rfl ?_
        refine am_br_r (fun h_14 => ?_) (fun h_14 => ?_)
        · skip
          have hv_15 : ¬ (hexV (b k)) = -1 := hexV_pos (Int32.not_lt.mpr h_14)
          refine am_steps_r ok_M_readAngled 2 (q' := (bif decide ((hexV (b k)) < 0) then 152 else 123, [some (.ref 19), some (.int (nI p)), some (.int (nI nv)), some (.int hf), some (.int (hexV (b k)))], [], wd C Y og)) rfl ?_
          refine am_br_r (fun h_16 => ?_) (fun h_16 => ?_)
          · skip
            first | contradiction | exact absurd (show (hexV (b k)) < 0 by assumption) (Int32.not_lt.mpr (show 0 ≤ (hexV (b k)) by assumption)) | exact absurd (Int32.not_le.mp (show ¬ 0 ≤ (hexV (b k)) by assumption)) (show ¬ (hexV (b k)) < 0 by assumption) | (exfalso; omega)
          · skip
            have hv_17 : ¬ (hexV (b k)) = -1 := hexV_pos h_16
            refine am_steps_r ok_M_readAngled 2 (q' := (bif decide (hf < 0) then 152 else 127, [some (.ref 19), some (.int (nI p)), some (.int (nI nv)), some (.int hf), some (.int (hexV (b k)))], [], wd C Y og)) rfl ?_
            refine am_br_r (fun h_18 => ?_) (fun h_18 => ?_)
            · skip
              have hv_19 : hf = -1 := isH_neg hh h_18
              refine am_steps_r ok_M_readAngled 2 (q' := (bif decide ((hexV (b k)) < 0) then 160 else 157, [some (.ref 19), some (.int (nI p)), some (.int (nI nv)), some (.int hf), some (.int (hexV (b k)))], [], wd C Y og)) rfl ?_
              refine am_br_r (fun h_20 => ?_) (fun h_20 => ?_)
              · skip
                first | contradiction | exact absurd (show (hexV (b k)) < 0 by assumption) (Int32.not_lt.mpr (show 0 ≤ (hexV (b k)) by assumption)) | exact absurd (Int32.not_le.mp (show ¬ 0 ≤ (hexV (b k)) by assumption)) (show ¬ (hexV (b k)) < 0 by assumption) | (exfalso; omega)
              · skip
                have hv_21 : ¬ (hexV (b k)) = -1 := hexV_pos h_20
                refine am_steps_r ok_M_readAngled 9 (q' := (40, [some (.ref 19), some (.int (nI p)), some (.int (nI nv)), some (.int (hexV (b k))), some (.int (hexV (b k)))], [], wd C (upd Y.1 6 ((Y.1 6) + 1), Y.2) og)) rfl ?_
                rw [show (Y.1 6 : Int32) = nI k from ha]
                rw [show ((nI k) + 1 : Int32) = nI (k + 1) from nI_add k 1]
                refine am_drop_r [4] (L' := [some (.ref 19), some (.int (nI p)), some (.int (nI nv)), some (.int (hexV (b k))), none]) rfl ?_
                refine ih post (upd Y.1 6 (nI (k + 1)), Y.2) (k + 1) (hexV (b k)) acc hL rfl (hexV_rng _) (by omega) (by omega) (by omega) (by omega) (fun vr w' hw => hpo vr w' ?_) (by omega)
                first | rw [anR_wh (by omega) (by assumption) (by assumption) (by assumption)] | rw [anR_hi (by omega) (by assumption) (by assumption) (by assumption)]
                exact hw
            · skip
              have hv_22 : ¬ hf = -1 := isH_pos h_18
              refine am_steps_r ok_M_readAngled 8 (q' := (139, [some (.ref 19), some (.int (nI p)), some (.int (nI nv)), some (.int hf), some (.int (hexV (b k)))], [.int (nI p), .int 200, .int ((16 * hf) + (hexV (b k))), .ref 19], wd C Y og)) rfl ?_
              refine am_callV_r (As := [.int ((16 * hf) + (hexV (b k))), .int 200, .int (nI p)]) (rest := []) ok_M_readAngled rfl rfl ok_M_gets oi_M_gets lk_6_157 (Or.inl ⟨_, _, _, rfl, rfl, rfl⟩) rfl rfl (Nat.le_of_ble_eq_true rfl) (c_M_gets _ C Y og Y0 nv u V _ acc hL ((16 * hf) + (hexV (b k))) 200 (by omega) (by omega) p k (by first | rfl | exact ha)) ?_
              rintro v_ w_ (⟨q_26, rfl, Y_23, rfl, ha_24, hL_25⟩ | ⟨q_26, rfl, rfl⟩) -
              · skip
                have hT := tpY_f hT0 hL_25.2.2.2.1
                refine am_eq_r (q' := (142, [some (.ref 19), some (.int (nI p)), some (.int (nI nv)), some (.int hf), some (.int (hexV (b k)))], [.int 1], wd C Y_23 og)) rfl ?_
                refine am_steps_r ok_M_readAngled 11 (q' := (40, [some (.ref 19), some (.int (nI p)), some (.int (nI nv)), some (.int (-1)), some (.int (hexV (b k)))], [], wd C (upd Y_23.1 6 ((Y_23.1 6) + 1), Y_23.2) og)) rfl ?_
                rw [show (Y_23.1 6 : Int32) = nI k from ha_24]
                rw [show ((nI k) + 1 : Int32) = nI (k + 1) from nI_add k 1]
                refine am_drop_r [4] (L' := [some (.ref 19), some (.int (nI p)), some (.int (nI nv)), some (.int (-1)), none]) rfl ?_
                refine ih post (upd Y_23.1 6 (nI (k + 1)), Y_23.2) (k + 1) (-1) (acc ++ [((16 * hf) + (hexV (b k)))]) hL_25 rfl (Or.inl rfl) (by omega) (by omega) (by simp; omega) (by simp; omega) (fun vr w' hw => hpo vr w' ?_) (by omega)
                rw [anR_lo (by omega) (by assumption) (by assumption) (by assumption) (by omega), Int32.mul_comm hf 16]
                exact hw
              · skip
                refine am_eq_r (q' := (142, [some (.ref 19), some (.int (nI p)), some (.int (nI nv)), some (.int hf), some (.int (hexV (b k)))], [.int 0], wd C (upd (upd Y.1 7 3) 8 (nI p), Y.2) og)) rfl ?_
                refine am_steps_r ok_M_readAngled 2 (q' := (146, [some (.ref 19), some (.int (nI p)), some (.int (nI nv)), some (.int hf), some (.int (hexV (b k)))], [.int 0], wd C (upd (upd Y.1 7 3) 8 (nI p), Y.2) og)) rfl ?_
                refine am_zret_r ok_M_readAngled rfl rfl rfl rfl ?_
                refine hpo _ _ ?_
                rw [anR_ful (by omega) (by assumption) (by assumption) (by assumption) (by omega)]
                exact lfQ_bad hL 3 p
        · skip
          have hv_27 : (hexV (b k)) = -1 := hexV_neg (Int32.not_le.mp h_14)
          refine am_steps_r ok_M_readAngled 4 (q' := (101, [some (.ref 19), some (.int (nI p)), some (.int (nI nv)), some (.int hf), some (.int (hexV (b k)))], [.int (Y.1 6), .ref 20], wd C Y og)) rfl ?_
          rw [show (Y.1 6 : Int32) = nI k from ha]
          refine am_iald_r ok_M_readAngled rfl (w := wd C Y og) (f := Y.2.1 0) rfl rfl (pk_in k 1600 (by omega)) ?_
          rw [nI_clamp (show k < 2 ^ 31 by omega)]
          rw [hrd]
          refine am_callS_r (As := [.int (b k)]) (rest := []) ok_M_readAngled rfl rfl ok_M_isBlank os_M_isBlank lk_6_82 rfl rfl (Nat.le_of_ble_eq_true rfl) (c_M_isBlank _ C Y og (b k)) ?_
          rintro v_ w_ ⟨rfl, rfl⟩ -
          refine am_eq_r (q' := (105, [some (.ref 19), some (.int (nI p)), some (.int (nI nv)), some (.int hf), some (.int (hexV (b k)))], [.int (bz (isWh (b k)))], wd C Y og)) rfl ?_
          refine am_steps_r ok_M_readAngled 1 (q' := (bif decide ((bz (isWh (b k))) = 0) then 108 else 118, [some (.ref 19), some (.int (nI p)), some (.int (nI nv)), some (.int hf), some (.int (hexV (b k)))], [], wd C Y og)) rfl ?_
          refine am_bz_r (fun h_29 => ?_) (fun h_29 => ?_)
          · skip
            refine am_steps_r ok_M_readAngled 2 (q' := (bif decide ((hexV (b k)) < 0) then 152 else 123, [some (.ref 19), some (.int (nI p)), some (.int (nI nv)), some (.int hf), some (.int (hexV (b k)))], [], wd C Y og)) rfl ?_
            refine am_br_r (fun h_30 => ?_) (fun h_30 => ?_)
            · skip
              have hv_31 : (hexV (b k)) = -1 := hexV_neg h_30
              refine am_steps_r ok_M_readAngled 2 (q' := (bif decide ((hexV (b k)) < 0) then 160 else 157, [some (.ref 19), some (.int (nI p)), some (.int (nI nv)), some (.int hf), some (.int (hexV (b k)))], [], wd C Y og)) rfl ?_
              refine am_br_r (fun h_32 => ?_) (fun h_32 => ?_)
              · skip
                have hv_33 : (hexV (b k)) = -1 := hexV_neg h_32
                refine am_steps_r ok_M_readAngled 7 (q' := (40, [some (.ref 19), some (.int (nI p)), some (.int (nI nv)), some (.int hf), some (.int (hexV (b k)))], [], wd C (upd Y.1 6 ((Y.1 6) + 1), Y.2) og)) rfl ?_
                rw [show (Y.1 6 : Int32) = nI k from ha]
                rw [show ((nI k) + 1 : Int32) = nI (k + 1) from nI_add k 1]
                refine am_drop_r [4] (L' := [some (.ref 19), some (.int (nI p)), some (.int (nI nv)), some (.int hf), none]) rfl ?_
                refine ih post (upd Y.1 6 (nI (k + 1)), Y.2) (k + 1) hf acc hL rfl hh (by omega) (by omega) (by omega) (by omega) (fun vr w' hw => hpo vr w' ?_) (by omega)
                first | rw [anR_wh (by omega) (by assumption) (by assumption) (by assumption)] | rw [anR_hi (by omega) (by assumption) (by assumption) (by assumption)]
                exact hw
              · skip
                first | contradiction | exact absurd (show (hexV (b k)) < 0 by assumption) (Int32.not_lt.mpr (show 0 ≤ (hexV (b k)) by assumption)) | exact absurd (Int32.not_le.mp (show ¬ 0 ≤ (hexV (b k)) by assumption)) (show ¬ (hexV (b k)) < 0 by assumption) | (exfalso; omega)
            · skip
              first | contradiction | exact absurd (show (hexV (b k)) < 0 by assumption) (Int32.not_lt.mpr (show 0 ≤ (hexV (b k)) by assumption)) | exact absurd (Int32.not_le.mp (show ¬ 0 ≤ (hexV (b k)) by assumption)) (show ¬ (hexV (b k)) < 0 by assumption) | (exfalso; omega)
          · skip
            refine am_steps_r ok_M_readAngled 4 (q' := (114, [some (.ref 19), some (.int (nI p)), some (.int (nI nv)), some (.int hf), some (.int (hexV (b k)))], [.int (Y.1 6), .int 2, .ref 19], wd C Y og)) rfl ?_
            rw [show (Y.1 6 : Int32) = nI k from ha]
            refine am_callV_r (As := [.int 2, .int (nI k)]) (rest := []) ok_M_readAngled rfl rfl ok_M_fails oi_M_fails lk_6_139 (Or.inl ⟨_, _, _, rfl, rfl, rfl⟩) rfl rfl (Nat.le_of_ble_eq_true rfl) (c_M_fails _ C Y og 2 (nI k)) ?_
            rintro v_ w_ ⟨rfl, rfl⟩ -
            refine am_eq_r (q' := (117, [some (.ref 19), some (.int (nI p)), some (.int (nI nv)), some (.int hf), some (.int (hexV (b k)))], [.int 0], wd C (upd (upd Y.1 7 2) 8 (nI k), Y.2) og)) rfl ?_
            refine am_zret_r ok_M_readAngled rfl rfl rfl rfl ?_
            refine hpo _ _ ?_
            rw [anR_bad (by omega) (by assumption) (by assumption) (by assumption)]
            exact lfQ_bad hL 2 k
      · skip
        have h_12 : ¬ k < n := fun z => h_12 ((nI_ltI (show k < 2 ^ 31 by omega) (show n < 2 ^ 31 by omega)).mpr z)
        refine am_steps_r ok_M_readAngled 4 (q' := (70, [some (.ref 19), some (.int (nI p)), some (.int (nI nv)), some (.int hf), none], [.int (Y.1 1), .int 1, .ref 19], wd C Y og)) rfl ?_
        rw [show (Y.1 1 : Int32) = nI n from hT.1]
        refine am_callV_r (As := [.int 1, .int (nI n)]) (rest := []) ok_M_readAngled rfl rfl ok_M_fails oi_M_fails lk_6_139 (Or.inl ⟨_, _, _, rfl, rfl, rfl⟩) rfl rfl (Nat.le_of_ble_eq_true rfl) (c_M_fails _ C Y og 1 (nI n)) ?_
        rintro v_ w_ ⟨rfl, rfl⟩ -
        refine am_eq_r (q' := (73, [some (.ref 19), some (.int (nI p)), some (.int (nI nv)), some (.int hf), none], [.int 0], wd C (upd (upd Y.1 7 1) 8 (nI n), Y.2) og)) rfl ?_
        refine am_zret_r ok_M_readAngled rfl rfl rfl rfl ?_
        refine hpo _ _ ?_
        rw [anR_out (by omega)]
        exact lfQ_bad hL 1 n
set_option maxHeartbeats 2000000 in
set_option maxRecDepth 100000 in
theorem c_M_readAngled (d : Nat) (C : wd_C) (Y : wd_Y) (og : Nat → Int64) (n : Nat) (b : Nat → Int32) (hT : tpY Y n b) (nv u : Nat) (V : VT) (hY : vsY Y nv u V) (ho : vok nv V) (h3 : nv < 300) (k : Nat) (ha : Y.1 6 = nI k) (hk : k < n) (huk : u ≤ k)  : am_Mt l D cA ad fm (d + 2) m_M_readAngled [.ref 19] (wd C Y og) (lfQ Y C og nv u V (anR n b k 2000 (k + 1) (-1) [])) := by
  have hn := hT.2.1
  refine am_mt ok_M_readAngled (by simp [am_arg, Value.category, m_M_readAngled, am_ml]) ?_
  refine am_eq_r (q' := (0, [some (.ref 19), none, none, none, none], [], wd C Y og)) rfl ?_
  refine am_steps_r ok_M_readAngled 6 (q' := (8, [some (.ref 19), some (.int (Y.1 6)), none, none, none], [.int (Y.1 6), .int 5, .ref 19], wd C Y og)) rfl ?_
  rw [show (Y.1 6 : Int32) = nI k from ha]
  refine am_callV_r (As := [.int 5, .int (nI k)]) (rest := []) ok_M_readAngled rfl rfl ok_M_begins oi_M_begins lk_6_151 (Or.inl ⟨_, _, _, rfl, rfl, rfl⟩) rfl rfl (Nat.le_of_ble_eq_true rfl) (c_M_begins_in _ C Y og nv u hY.1 h3 5 (nI k)) ?_
  rintro v_ w_ ⟨rfl, rfl⟩ -
  refine am_eq_r (q' := (11, [some (.ref 19), some (.int (nI k)), none, none, none], [.int 1], wd C (yNew Y nv u 5) og)) rfl ?_
  refine am_steps_r ok_M_readAngled 17 (q' := (40, [some (.ref 19), some (.int (nI k)), some (.int (((yNew Y nv u 5).1 4) - 1)), some (.int (-1)), none], [], wd C (upd (upd ((yNew Y nv u 5).1) 10 0) 6 (((yNew Y nv u 5).1 6) + 1), (yNew Y nv u 5).2) og)) rfl ?_
  rw [show ((yNew Y nv u 5).1 4 : Int32) = nI (nv + 1) from rfl]
  rw [show ((nI (nv + 1)) - 1 : Int32) = nI nv from pk_sub (a := nv + 1) (b := 1) (by omega)]
  rw [show ((yNew Y nv u 5).1 6 : Int32) = nI k from ha]
  rw [show ((nI k) + 1 : Int32) = nI (k + 1) from nI_add k 1]
  refine am_eq_r (q' := (40, [some (.ref 19), some (.int (nI k)), some (.int (nI nv)), some (.int (-1)), none], [], wd C (upd (upd ((yNew Y nv u 5).1) 10 0) 6 (nI (k + 1)), (yNew Y nv u 5).2) og)) rfl ?_
  exact lp_M_readAngled_40 d C og n b Y hT nv u V k hk 2000 _ (upd (upd ((yNew Y nv u 5).1) 10 0) 6 (nI (k + 1)), (yNew Y nv u 5).2) (k + 1) (-1) [] (lfD_begin hY ho h3 5 _) rfl (Or.inl rfl) (by omega) (by omega) (by simp) (by simp; omega) (fun _ _ hw => hw) (by omega)
set_option maxHeartbeats 2000000 in
set_option maxRecDepth 100000 in
theorem lp_M_asNumber_238 (d : Nat) (C : wd_C) (Y : wd_Y) (og : Nat → Int64) (n : Nat) (b : Nat → Int32) (hT : tpY Y n b) (p e : Nat) (hpe : p < e) (hen : e ≤ n) (i sg bf bh : Nat) (ls rl : Bool) (hsg : sg < 5000) (hls : ls = true ↔ b p = 45)  : ∀ (fu : Nat) (post : Option Value → am_W → Prop) (j : Nat) (v : Int64), (j ≤ 6) → (∀ vr (Y' : wd_Y), anK Y Y' → vr = some (.int (if sg = 0 ∧ rl = false then 3 else 1)) → Y'.1 11 = bz rl → Y'.1 9 = Y.1 9 ||| (if 1 < sg then 1 else 0) → Y'.2.2.2 = (if b p = 45 then -(m10 (if rl = true then 6 - j else 0) v) else m10 (if rl = true then 6 - j else 0) v) → post vr (wd C Y' og)) → 6 - j < fu → am_Rn l D cA ad fm (d + 1) m_M_asNumber (wd C Y og).length post (238, [some (.ref 19), some (.int (nI p)), some (.int (nI e)), some (.int (nI i)), some (.int (nI sg)), some (.int (bz ls)), some (.long v), none, some (.int (nI bf)), some (.int (nI bh)), some (.int (nI j))], [], wd C (upd Y.1 11 (bz rl), Y.2) og) := by
  intro fu
  induction fu with
  | zero => intro post j v hj hpo hfu; exact absurd hfu (Nat.not_lt_zero _)
  | succ fu ih =>
    intro post j v hj hpo hfu
    refine am_steps_r ok_M_asNumber 3 (q' := (bif decide (6 ≤ (nI j)) then 266 else 245, [some (.ref 19), some (.int (nI p)), some (.int (nI e)), some (.int (nI i)), some (.int (nI sg)), some (.int (bz ls)), some (.long v), none, some (.int (nI bf)), some (.int (nI bh)), some (.int (nI j))], [], wd C (upd Y.1 11 (bz rl), Y.2) og)) rfl ?_
    refine am_br_r (fun h_1 => ?_) (fun h_1 => ?_)
    · skip
      have h_1 : 6 ≤ j := (nI_leI (show 6 < 2 ^ 31 by omega) (show j < 2 ^ 31 by omega)).mp h_1
      refine am_steps_r ok_M_asNumber 3 (q' := (bif decide ((bz ls) = 0) then 278 else 272, [some (.ref 19), some (.int (nI p)), some (.int (nI e)), some (.int (nI i)), some (.int (nI sg)), some (.int (bz ls)), some (.long v), none, some (.int (nI bf)), some (.int (nI bh)), some (.int (nI j))], [.ref 19], wd C (upd Y.1 11 (bz rl), Y.2) og)) rfl ?_
      refine am_bz_r (fun h_2 => ?_) (fun h_2 => ?_)
      · skip
        refine am_steps_r ok_M_asNumber 8 (q' := (bif decide ((nI sg) ≤ 1) then 299 else 290, [some (.ref 19), some (.int (nI p)), some (.int (nI e)), some (.int (nI i)), some (.int (nI sg)), some (.int (bz ls)), some (.long v), none, some (.int (nI bf)), some (.int (nI bh)), some (.int (nI j))], [.ref 19], wd C (upd Y.1 11 (bz rl), Y.2.1, Y.2.2.1, (-v)) og)) rfl ?_
        refine am_br_r (fun h_3 => ?_) (fun h_3 => ?_)
        · skip
          have h_3 : sg ≤ 1 := (nI_leI (show sg < 2 ^ 31 by omega) (show 1 < 2 ^ 31 by omega)).mp h_3
          refine am_steps_r ok_M_asNumber 5 (q' := (bif decide ((nI sg) = 0) then 311 else 322, [some (.ref 19), some (.int (nI p)), some (.int (nI e)), some (.int (nI i)), some (.int (nI sg)), some (.int (bz ls)), some (.long v), none, some (.int (nI bf)), some (.int (nI bh)), some (.int (nI j))], [], wd C (upd (upd Y.1 11 (bz rl)) 9 (Y.1 9), Y.2.1, Y.2.2.1, (-v)) og)) rfl ?_
          refine am_br_r (fun h_4 => ?_) (fun h_4 => ?_)
          · skip
            have h_4 : sg = 0 := (nI_eq (show sg < 2 ^ 31 by omega) (show 0 < 2 ^ 31 by omega)).mp h_4
            refine am_steps_r ok_M_asNumber 3 (q' := (bif decide ((bz rl) = 0) then 318 else 322, [some (.ref 19), some (.int (nI p)), some (.int (nI e)), some (.int (nI i)), some (.int (nI sg)), some (.int (bz ls)), some (.long v), none, some (.int (nI bf)), some (.int (nI bh)), some (.int (nI j))], [], wd C (upd (upd Y.1 11 (bz rl)) 9 (Y.1 9), Y.2.1, Y.2.2.1, (-v)) og)) rfl ?_
            refine am_bz_r (fun h_5 => ?_) (fun h_5 => ?_)
            · skip
              refine am_steps_r ok_M_asNumber 1 (q' := (323, [some (.ref 19), some (.int (nI p)), some (.int (nI e)), some (.int (nI i)), some (.int (nI sg)), some (.int (bz ls)), some (.long v), none, some (.int (nI bf)), some (.int (nI bh)), some (.int (nI j))], [.int 1], wd C (upd (upd Y.1 11 (bz rl)) 9 (Y.1 9), Y.2.1, Y.2.2.1, (-v)) og)) rfl ?_
              refine am_iret_r ok_M_asNumber rfl rfl rfl ?_
              have hm : m10 (if rl = true then 6 - j else 0) v = v := m10_0 (by first | exact Or.inl (show rl = false by assumption) | exact Or.inr (by omega))
              refine hpo _ _ ⟨fun j1 h9 h11 => ?_, rfl, rfl⟩ ?_ rfl ?_ ?_
              · simp [upd, h9, h11]
              · first | rw [if_pos ⟨by omega, by assumption⟩] | rw [if_neg (fun z => absurd z.1 (by omega))] | rw [if_neg (fun z => absurd (z.2.symm.trans (show rl = true by assumption)) (by decide))]
              · first | (rw [if_pos (by omega)]; rfl) | (rw [if_neg (by omega), Int32.or_zero]; rfl)
              · rw [hm]
                first | exact (if_pos (hls.mp (show ls = true by assumption))).symm | exact (if_neg (fun z => absurd ((hls.mpr z).symm.trans (show ls = false by assumption)) (by decide))).symm
            · skip
              refine am_steps_r ok_M_asNumber 2 (q' := (323, [some (.ref 19), some (.int (nI p)), some (.int (nI e)), some (.int (nI i)), some (.int (nI sg)), some (.int (bz ls)), some (.long v), none, some (.int (nI bf)), some (.int (nI bh)), some (.int (nI j))], [.int 3], wd C (upd (upd Y.1 11 (bz rl)) 9 (Y.1 9), Y.2.1, Y.2.2.1, (-v)) og)) rfl ?_
              refine am_iret_r ok_M_asNumber rfl rfl rfl ?_
              have hm : m10 (if rl = true then 6 - j else 0) v = v := m10_0 (by first | exact Or.inl (show rl = false by assumption) | exact Or.inr (by omega))
              refine hpo _ _ ⟨fun j1 h9 h11 => ?_, rfl, rfl⟩ ?_ rfl ?_ ?_
              · simp [upd, h9, h11]
              · first | rw [if_pos ⟨by omega, by assumption⟩] | rw [if_neg (fun z => absurd z.1 (by omega))] | rw [if_neg (fun z => absurd (z.2.symm.trans (show rl = true by assumption)) (by decide))]
              · first | (rw [if_pos (by omega)]; rfl) | (rw [if_neg (by omega), Int32.or_zero]; rfl)
              · rw [hm]
                first | exact (if_pos (hls.mp (show ls = true by assumption))).symm | exact (if_neg (fun z => absurd ((hls.mpr z).symm.trans (show ls = false by assumption)) (by decide))).symm
          · skip
            have h_4 : ¬ sg = 0 := fun z => h_4 ((nI_eq (show sg < 2 ^ 31 by omega) (show 0 < 2 ^ 31 by omega)).mpr z)
            refine am_steps_r ok_M_asNumber 1 (q' := (323, [some (.ref 19), some (.int (nI p)), some (.int (nI e)), some (.int (nI i)), some (.int (nI sg)), some (.int (bz ls)), some (.long v), none, some (.int (nI bf)), some (.int (nI bh)), some (.int (nI j))], [.int 1], wd C (upd (upd Y.1 11 (bz rl)) 9 (Y.1 9), Y.2.1, Y.2.2.1, (-v)) og)) rfl ?_
            refine am_iret_r ok_M_asNumber rfl rfl rfl ?_
            have hm : m10 (if rl = true then 6 - j else 0) v = v := m10_0 (by first | exact Or.inl (show rl = false by assumption) | exact Or.inr (by omega))
            refine hpo _ _ ⟨fun j1 h9 h11 => ?_, rfl, rfl⟩ ?_ rfl ?_ ?_
            · simp [upd, h9, h11]
            · first | rw [if_pos ⟨by omega, by assumption⟩] | rw [if_neg (fun z => absurd z.1 (by omega))] | rw [if_neg (fun z => absurd (z.2.symm.trans (show rl = true by assumption)) (by decide))]
            · first | (rw [if_pos (by omega)]; rfl) | (rw [if_neg (by omega), Int32.or_zero]; rfl)
            · rw [hm]
              first | exact (if_pos (hls.mp (show ls = true by assumption))).symm | exact (if_neg (fun z => absurd ((hls.mpr z).symm.trans (show ls = false by assumption)) (by decide))).symm
        · skip
          have h_3 : ¬ sg ≤ 1 := fun z => h_3 ((nI_leI (show sg < 2 ^ 31 by omega) (show 1 < 2 ^ 31 by omega)).mpr z)
          refine am_steps_r ok_M_asNumber 8 (q' := (bif decide ((nI sg) = 0) then 311 else 322, [some (.ref 19), some (.int (nI p)), some (.int (nI e)), some (.int (nI i)), some (.int (nI sg)), some (.int (bz ls)), some (.long v), none, some (.int (nI bf)), some (.int (nI bh)), some (.int (nI j))], [], wd C (upd (upd Y.1 11 (bz rl)) 9 ((Y.1 9) ||| 1), Y.2.1, Y.2.2.1, (-v)) og)) rfl ?_
          refine am_br_r (fun h_6 => ?_) (fun h_6 => ?_)
          · skip
            have h_6 : sg = 0 := (nI_eq (show sg < 2 ^ 31 by omega) (show 0 < 2 ^ 31 by omega)).mp h_6
            refine am_steps_r ok_M_asNumber 3 (q' := (bif decide ((bz rl) = 0) then 318 else 322, [some (.ref 19), some (.int (nI p)), some (.int (nI e)), some (.int (nI i)), some (.int (nI sg)), some (.int (bz ls)), some (.long v), none, some (.int (nI bf)), some (.int (nI bh)), some (.int (nI j))], [], wd C (upd (upd Y.1 11 (bz rl)) 9 ((Y.1 9) ||| 1), Y.2.1, Y.2.2.1, (-v)) og)) rfl ?_
            refine am_bz_r (fun h_7 => ?_) (fun h_7 => ?_)
            · skip
              refine am_steps_r ok_M_asNumber 1 (q' := (323, [some (.ref 19), some (.int (nI p)), some (.int (nI e)), some (.int (nI i)), some (.int (nI sg)), some (.int (bz ls)), some (.long v), none, some (.int (nI bf)), some (.int (nI bh)), some (.int (nI j))], [.int 1], wd C (upd (upd Y.1 11 (bz rl)) 9 ((Y.1 9) ||| 1), Y.2.1, Y.2.2.1, (-v)) og)) rfl ?_
              refine am_iret_r ok_M_asNumber rfl rfl rfl ?_
              have hm : m10 (if rl = true then 6 - j else 0) v = v := m10_0 (by first | exact Or.inl (show rl = false by assumption) | exact Or.inr (by omega))
              refine hpo _ _ ⟨fun j1 h9 h11 => ?_, rfl, rfl⟩ ?_ rfl ?_ ?_
              · simp [upd, h9, h11]
              · first | rw [if_pos ⟨by omega, by assumption⟩] | rw [if_neg (fun z => absurd z.1 (by omega))] | rw [if_neg (fun z => absurd (z.2.symm.trans (show rl = true by assumption)) (by decide))]
              · first | (rw [if_pos (by omega)]; rfl) | (rw [if_neg (by omega), Int32.or_zero]; rfl)
              · rw [hm]
                first | exact (if_pos (hls.mp (show ls = true by assumption))).symm | exact (if_neg (fun z => absurd ((hls.mpr z).symm.trans (show ls = false by assumption)) (by decide))).symm
            · skip
              refine am_steps_r ok_M_asNumber 2 (q' := (323, [some (.ref 19), some (.int (nI p)), some (.int (nI e)), some (.int (nI i)), some (.int (nI sg)), some (.int (bz ls)), some (.long v), none, some (.int (nI bf)), some (.int (nI bh)), some (.int (nI j))], [.int 3], wd C (upd (upd Y.1 11 (bz rl)) 9 ((Y.1 9) ||| 1), Y.2.1, Y.2.2.1, (-v)) og)) rfl ?_
              refine am_iret_r ok_M_asNumber rfl rfl rfl ?_
              have hm : m10 (if rl = true then 6 - j else 0) v = v := m10_0 (by first | exact Or.inl (show rl = false by assumption) | exact Or.inr (by omega))
              refine hpo _ _ ⟨fun j1 h9 h11 => ?_, rfl, rfl⟩ ?_ rfl ?_ ?_
              · simp [upd, h9, h11]
              · first | rw [if_pos ⟨by omega, by assumption⟩] | rw [if_neg (fun z => absurd z.1 (by omega))] | rw [if_neg (fun z => absurd (z.2.symm.trans (show rl = true by assumption)) (by decide))]
              · first | (rw [if_pos (by omega)]; rfl) | (rw [if_neg (by omega), Int32.or_zero]; rfl)
              · rw [hm]
                first | exact (if_pos (hls.mp (show ls = true by assumption))).symm | exact (if_neg (fun z => absurd ((hls.mpr z).symm.trans (show ls = false by assumption)) (by decide))).symm
          · skip
            have h_6 : ¬ sg = 0 := fun z => h_6 ((nI_eq (show sg < 2 ^ 31 by omega) (show 0 < 2 ^ 31 by omega)).mpr z)
            refine am_steps_r ok_M_asNumber 1 (q' := (323, [some (.ref 19), some (.int (nI p)), some (.int (nI e)), some (.int (nI i)), some (.int (nI sg)), some (.int (bz ls)), some (.long v), none, some (.int (nI bf)), some (.int (nI bh)), some (.int (nI j))], [.int 1], wd C (upd (upd Y.1 11 (bz rl)) 9 ((Y.1 9) ||| 1), Y.2.1, Y.2.2.1, (-v)) og)) rfl ?_
            refine am_iret_r ok_M_asNumber rfl rfl rfl ?_
            have hm : m10 (if rl = true then 6 - j else 0) v = v := m10_0 (by first | exact Or.inl (show rl = false by assumption) | exact Or.inr (by omega))
            refine hpo _ _ ⟨fun j1 h9 h11 => ?_, rfl, rfl⟩ ?_ rfl ?_ ?_
            · simp [upd, h9, h11]
            · first | rw [if_pos ⟨by omega, by assumption⟩] | rw [if_neg (fun z => absurd z.1 (by omega))] | rw [if_neg (fun z => absurd (z.2.symm.trans (show rl = true by assumption)) (by decide))]
            · first | (rw [if_pos (by omega)]; rfl) | (rw [if_neg (by omega), Int32.or_zero]; rfl)
            · rw [hm]
              first | exact (if_pos (hls.mp (show ls = true by assumption))).symm | exact (if_neg (fun z => absurd ((hls.mpr z).symm.trans (show ls = false by assumption)) (by decide))).symm
      · skip
        refine am_steps_r ok_M_asNumber 6 (q' := (bif decide ((nI sg) ≤ 1) then 299 else 290, [some (.ref 19), some (.int (nI p)), some (.int (nI e)), some (.int (nI i)), some (.int (nI sg)), some (.int (bz ls)), some (.long v), none, some (.int (nI bf)), some (.int (nI bh)), some (.int (nI j))], [.ref 19], wd C (upd Y.1 11 (bz rl), Y.2.1, Y.2.2.1, v) og)) rfl ?_
        refine am_br_r (fun h_8 => ?_) (fun h_8 => ?_)
        · skip
          have h_8 : sg ≤ 1 := (nI_leI (show sg < 2 ^ 31 by omega) (show 1 < 2 ^ 31 by omega)).mp h_8
          refine am_steps_r ok_M_asNumber 5 (q' := (bif decide ((nI sg) = 0) then 311 else 322, [some (.ref 19), some (.int (nI p)), some (.int (nI e)), some (.int (nI i)), some (.int (nI sg)), some (.int (bz ls)), some (.long v), none, some (.int (nI bf)), some (.int (nI bh)), some (.int (nI j))], [], wd C (upd (upd Y.1 11 (bz rl)) 9 (Y.1 9), Y.2.1, Y.2.2.1, v) og)) rfl ?_
          refine am_br_r (fun h_9 => ?_) (fun h_9 => ?_)
          · skip
            have h_9 : sg = 0 := (nI_eq (show sg < 2 ^ 31 by omega) (show 0 < 2 ^ 31 by omega)).mp h_9
            refine am_steps_r ok_M_asNumber 3 (q' := (bif decide ((bz rl) = 0) then 318 else 322, [some (.ref 19), some (.int (nI p)), some (.int (nI e)), some (.int (nI i)), some (.int (nI sg)), some (.int (bz ls)), some (.long v), none, some (.int (nI bf)), some (.int (nI bh)), some (.int (nI j))], [], wd C (upd (upd Y.1 11 (bz rl)) 9 (Y.1 9), Y.2.1, Y.2.2.1, v) og)) rfl ?_
            refine am_bz_r (fun h_10 => ?_) (fun h_10 => ?_)
            · skip
              refine am_steps_r ok_M_asNumber 1 (q' := (323, [some (.ref 19), some (.int (nI p)), some (.int (nI e)), some (.int (nI i)), some (.int (nI sg)), some (.int (bz ls)), some (.long v), none, some (.int (nI bf)), some (.int (nI bh)), some (.int (nI j))], [.int 1], wd C (upd (upd Y.1 11 (bz rl)) 9 (Y.1 9), Y.2.1, Y.2.2.1, v) og)) rfl ?_
              refine am_iret_r ok_M_asNumber rfl rfl rfl ?_
              have hm : m10 (if rl = true then 6 - j else 0) v = v := m10_0 (by first | exact Or.inl (show rl = false by assumption) | exact Or.inr (by omega))
              refine hpo _ _ ⟨fun j1 h9 h11 => ?_, rfl, rfl⟩ ?_ rfl ?_ ?_
              · simp [upd, h9, h11]
              · first | rw [if_pos ⟨by omega, by assumption⟩] | rw [if_neg (fun z => absurd z.1 (by omega))] | rw [if_neg (fun z => absurd (z.2.symm.trans (show rl = true by assumption)) (by decide))]
              · first | (rw [if_pos (by omega)]; rfl) | (rw [if_neg (by omega), Int32.or_zero]; rfl)
              · rw [hm]
                first | exact (if_pos (hls.mp (show ls = true by assumption))).symm | exact (if_neg (fun z => absurd ((hls.mpr z).symm.trans (show ls = false by assumption)) (by decide))).symm
            · skip
              refine am_steps_r ok_M_asNumber 2 (q' := (323, [some (.ref 19), some (.int (nI p)), some (.int (nI e)), some (.int (nI i)), some (.int (nI sg)), some (.int (bz ls)), some (.long v), none, some (.int (nI bf)), some (.int (nI bh)), some (.int (nI j))], [.int 3], wd C (upd (upd Y.1 11 (bz rl)) 9 (Y.1 9), Y.2.1, Y.2.2.1, v) og)) rfl ?_
              refine am_iret_r ok_M_asNumber rfl rfl rfl ?_
              have hm : m10 (if rl = true then 6 - j else 0) v = v := m10_0 (by first | exact Or.inl (show rl = false by assumption) | exact Or.inr (by omega))
              refine hpo _ _ ⟨fun j1 h9 h11 => ?_, rfl, rfl⟩ ?_ rfl ?_ ?_
              · simp [upd, h9, h11]
              · first | rw [if_pos ⟨by omega, by assumption⟩] | rw [if_neg (fun z => absurd z.1 (by omega))] | rw [if_neg (fun z => absurd (z.2.symm.trans (show rl = true by assumption)) (by decide))]
              · first | (rw [if_pos (by omega)]; rfl) | (rw [if_neg (by omega), Int32.or_zero]; rfl)
              · rw [hm]
                first | exact (if_pos (hls.mp (show ls = true by assumption))).symm | exact (if_neg (fun z => absurd ((hls.mpr z).symm.trans (show ls = false by assumption)) (by decide))).symm
          · skip
            have h_9 : ¬ sg = 0 := fun z => h_9 ((nI_eq (show sg < 2 ^ 31 by omega) (show 0 < 2 ^ 31 by omega)).mpr z)
            refine am_steps_r ok_M_asNumber 1 (q' := (323, [some (.ref 19), some (.int (nI p)), some (.int (nI e)), some (.int (nI i)), some (.int (nI sg)), some (.int (bz ls)), some (.long v), none, some (.int (nI bf)), some (.int (nI bh)), some (.int (nI j))], [.int 1], wd C (upd (upd Y.1 11 (bz rl)) 9 (Y.1 9), Y.2.1, Y.2.2.1, v) og)) rfl ?_
            refine am_iret_r ok_M_asNumber rfl rfl rfl ?_
            have hm : m10 (if rl = true then 6 - j else 0) v = v := m10_0 (by first | exact Or.inl (show rl = false by assumption) | exact Or.inr (by omega))
            refine hpo _ _ ⟨fun j1 h9 h11 => ?_, rfl, rfl⟩ ?_ rfl ?_ ?_
            · simp [upd, h9, h11]
            · first | rw [if_pos ⟨by omega, by assumption⟩] | rw [if_neg (fun z => absurd z.1 (by omega))] | rw [if_neg (fun z => absurd (z.2.symm.trans (show rl = true by assumption)) (by decide))]
            · first | (rw [if_pos (by omega)]; rfl) | (rw [if_neg (by omega), Int32.or_zero]; rfl)
            · rw [hm]
              first | exact (if_pos (hls.mp (show ls = true by assumption))).symm | exact (if_neg (fun z => absurd ((hls.mpr z).symm.trans (show ls = false by assumption)) (by decide))).symm
        · skip
          have h_8 : ¬ sg ≤ 1 := fun z => h_8 ((nI_leI (show sg < 2 ^ 31 by omega) (show 1 < 2 ^ 31 by omega)).mpr z)
          refine am_steps_r ok_M_asNumber 8 (q' := (bif decide ((nI sg) = 0) then 311 else 322, [some (.ref 19), some (.int (nI p)), some (.int (nI e)), some (.int (nI i)), some (.int (nI sg)), some (.int (bz ls)), some (.long v), none, some (.int (nI bf)), some (.int (nI bh)), some (.int (nI j))], [], wd C (upd (upd Y.1 11 (bz rl)) 9 ((Y.1 9) ||| 1), Y.2.1, Y.2.2.1, v) og)) rfl ?_
          refine am_br_r (fun h_11 => ?_) (fun h_11 => ?_)
          · skip
            have h_11 : sg = 0 := (nI_eq (show sg < 2 ^ 31 by omega) (show 0 < 2 ^ 31 by omega)).mp h_11
            refine am_steps_r ok_M_asNumber 3 (q' := (bif decide ((bz rl) = 0) then 318 else 322, [some (.ref 19), some (.int (nI p)), some (.int (nI e)), some (.int (nI i)), some (.int (nI sg)), some (.int (bz ls)), some (.long v), none, some (.int (nI bf)), some (.int (nI bh)), some (.int (nI j))], [], wd C (upd (upd Y.1 11 (bz rl)) 9 ((Y.1 9) ||| 1), Y.2.1, Y.2.2.1, v) og)) rfl ?_
            refine am_bz_r (fun h_12 => ?_) (fun h_12 => ?_)
            · skip
              refine am_steps_r ok_M_asNumber 1 (q' := (323, [some (.ref 19), some (.int (nI p)), some (.int (nI e)), some (.int (nI i)), some (.int (nI sg)), some (.int (bz ls)), some (.long v), none, some (.int (nI bf)), some (.int (nI bh)), some (.int (nI j))], [.int 1], wd C (upd (upd Y.1 11 (bz rl)) 9 ((Y.1 9) ||| 1), Y.2.1, Y.2.2.1, v) og)) rfl ?_
              refine am_iret_r ok_M_asNumber rfl rfl rfl ?_
              have hm : m10 (if rl = true then 6 - j else 0) v = v := m10_0 (by first | exact Or.inl (show rl = false by assumption) | exact Or.inr (by omega))
              refine hpo _ _ ⟨fun j1 h9 h11 => ?_, rfl, rfl⟩ ?_ rfl ?_ ?_
              · simp [upd, h9, h11]
              · first | rw [if_pos ⟨by omega, by assumption⟩] | rw [if_neg (fun z => absurd z.1 (by omega))] | rw [if_neg (fun z => absurd (z.2.symm.trans (show rl = true by assumption)) (by decide))]
              · first | (rw [if_pos (by omega)]; rfl) | (rw [if_neg (by omega), Int32.or_zero]; rfl)
              · rw [hm]
                first | exact (if_pos (hls.mp (show ls = true by assumption))).symm | exact (if_neg (fun z => absurd ((hls.mpr z).symm.trans (show ls = false by assumption)) (by decide))).symm
            · skip
              refine am_steps_r ok_M_asNumber 2 (q' := (323, [some (.ref 19), some (.int (nI p)), some (.int (nI e)), some (.int (nI i)), some (.int (nI sg)), some (.int (bz ls)), some (.long v), none, some (.int (nI bf)), some (.int (nI bh)), some (.int (nI j))], [.int 3], wd C (upd (upd Y.1 11 (bz rl)) 9 ((Y.1 9) ||| 1), Y.2.1, Y.2.2.1, v) og)) rfl ?_
              refine am_iret_r ok_M_asNumber rfl rfl rfl ?_
              have hm : m10 (if rl = true then 6 - j else 0) v = v := m10_0 (by first | exact Or.inl (show rl = false by assumption) | exact Or.inr (by omega))
              refine hpo _ _ ⟨fun j1 h9 h11 => ?_, rfl, rfl⟩ ?_ rfl ?_ ?_
              · simp [upd, h9, h11]
              · first | rw [if_pos ⟨by omega, by assumption⟩] | rw [if_neg (fun z => absurd z.1 (by omega))] | rw [if_neg (fun z => absurd (z.2.symm.trans (show rl = true by assumption)) (by decide))]
              · first | (rw [if_pos (by omega)]; rfl) | (rw [if_neg (by omega), Int32.or_zero]; rfl)
              · rw [hm]
                first | exact (if_pos (hls.mp (show ls = true by assumption))).symm | exact (if_neg (fun z => absurd ((hls.mpr z).symm.trans (show ls = false by assumption)) (by decide))).symm
          · skip
            have h_11 : ¬ sg = 0 := fun z => h_11 ((nI_eq (show sg < 2 ^ 31 by omega) (show 0 < 2 ^ 31 by omega)).mpr z)
            refine am_steps_r ok_M_asNumber 1 (q' := (323, [some (.ref 19), some (.int (nI p)), some (.int (nI e)), some (.int (nI i)), some (.int (nI sg)), some (.int (bz ls)), some (.long v), none, some (.int (nI bf)), some (.int (nI bh)), some (.int (nI j))], [.int 1], wd C (upd (upd Y.1 11 (bz rl)) 9 ((Y.1 9) ||| 1), Y.2.1, Y.2.2.1, v) og)) rfl ?_
            refine am_iret_r ok_M_asNumber rfl rfl rfl ?_
            have hm : m10 (if rl = true then 6 - j else 0) v = v := m10_0 (by first | exact Or.inl (show rl = false by assumption) | exact Or.inr (by omega))
            refine hpo _ _ ⟨fun j1 h9 h11 => ?_, rfl, rfl⟩ ?_ rfl ?_ ?_
            · simp [upd, h9, h11]
            · first | rw [if_pos ⟨by omega, by assumption⟩] | rw [if_neg (fun z => absurd z.1 (by omega))] | rw [if_neg (fun z => absurd (z.2.symm.trans (show rl = true by assumption)) (by decide))]
            · first | (rw [if_pos (by omega)]; rfl) | (rw [if_neg (by omega), Int32.or_zero]; rfl)
            · rw [hm]
              first | exact (if_pos (hls.mp (show ls = true by assumption))).symm | exact (if_neg (fun z => absurd ((hls.mpr z).symm.trans (show ls = false by assumption)) (by decide))).symm
    · skip
      have h_1 : ¬ 6 ≤ j := fun z => h_1 ((nI_leI (show 6 < 2 ^ 31 by omega) (show j < 2 ^ 31 by omega)).mpr z)
      refine am_steps_r ok_M_asNumber 3 (q' := (bif decide ((bz rl) = 0) then 266 else 252, [some (.ref 19), some (.int (nI p)), some (.int (nI e)), some (.int (nI i)), some (.int (nI sg)), some (.int (bz ls)), some (.long v), none, some (.int (nI bf)), some (.int (nI bh)), some (.int (nI j))], [], wd C (upd Y.1 11 (bz rl), Y.2) og)) rfl ?_
      refine am_bz_r (fun h_13 => ?_) (fun h_13 => ?_)
      · skip
        refine am_steps_r ok_M_asNumber 6 (q' := (238, [some (.ref 19), some (.int (nI p)), some (.int (nI e)), some (.int (nI i)), some (.int (nI sg)), some (.int (bz ls)), some (.long (10 * v)), none, some (.int (nI bf)), some (.int (nI bh)), some (.int ((nI j) + 1))], [], wd C (upd Y.1 11 (bz rl), Y.2) og)) rfl ?_
        rw [show ((nI j) + 1 : Int32) = nI (j + 1) from nI_add j 1]
        rw [Int64.mul_comm 10 v]
        have hm : m10 (if rl = true then 6 - j else 0) v = m10 (if rl = true then 6 - (j + 1) else 0) (v * 10) := by rw [if_pos (by assumption), if_pos (by assumption), show 6 - j = (6 - (j + 1)) + 1 by omega, m10]
        exact ih post (j + 1) (v * 10) (by omega) (fun vr Y' a1 a2 a3 a4 a5 => hpo vr Y' a1 a2 a3 a4 (by rw [hm]; exact a5)) (by omega)
      · skip
        refine am_steps_r ok_M_asNumber 3 (q' := (bif decide ((bz ls) = 0) then 278 else 272, [some (.ref 19), some (.int (nI p)), some (.int (nI e)), some (.int (nI i)), some (.int (nI sg)), some (.int (bz ls)), some (.long v), none, some (.int (nI bf)), some (.int (nI bh)), some (.int (nI j))], [.ref 19], wd C (upd Y.1 11 (bz rl), Y.2) og)) rfl ?_
        refine am_bz_r (fun h_14 => ?_) (fun h_14 => ?_)
        · skip
          refine am_steps_r ok_M_asNumber 8 (q' := (bif decide ((nI sg) ≤ 1) then 299 else 290, [some (.ref 19), some (.int (nI p)), some (.int (nI e)), some (.int (nI i)), some (.int (nI sg)), some (.int (bz ls)), some (.long v), none, some (.int (nI bf)), some (.int (nI bh)), some (.int (nI j))], [.ref 19], wd C (upd Y.1 11 (bz rl), Y.2.1, Y.2.2.1, (-v)) og)) rfl ?_
          refine am_br_r (fun h_15 => ?_) (fun h_15 => ?_)
          · skip
            have h_15 : sg ≤ 1 := (nI_leI (show sg < 2 ^ 31 by omega) (show 1 < 2 ^ 31 by omega)).mp h_15
            refine am_steps_r ok_M_asNumber 5 (q' := (bif decide ((nI sg) = 0) then 311 else 322, [some (.ref 19), some (.int (nI p)), some (.int (nI e)), some (.int (nI i)), some (.int (nI sg)), some (.int (bz ls)), some (.long v), none, some (.int (nI bf)), some (.int (nI bh)), some (.int (nI j))], [], wd C (upd (upd Y.1 11 (bz rl)) 9 (Y.1 9), Y.2.1, Y.2.2.1, (-v)) og)) rfl ?_
            refine am_br_r (fun h_16 => ?_) (fun h_16 => ?_)
            · skip
              have h_16 : sg = 0 := (nI_eq (show sg < 2 ^ 31 by omega) (show 0 < 2 ^ 31 by omega)).mp h_16
              refine am_steps_r ok_M_asNumber 3 (q' := (bif decide ((bz rl) = 0) then 318 else 322, [some (.ref 19), some (.int (nI p)), some (.int (nI e)), some (.int (nI i)), some (.int (nI sg)), some (.int (bz ls)), some (.long v), none, some (.int (nI bf)), some (.int (nI bh)), some (.int (nI j))], [], wd C (upd (upd Y.1 11 (bz rl)) 9 (Y.1 9), Y.2.1, Y.2.2.1, (-v)) og)) rfl ?_
              refine am_bz_r (fun h_17 => ?_) (fun h_17 => ?_)
              · skip
                first | contradiction | (exfalso; simp_all; done)
              · skip
                refine am_steps_r ok_M_asNumber 2 (q' := (323, [some (.ref 19), some (.int (nI p)), some (.int (nI e)), some (.int (nI i)), some (.int (nI sg)), some (.int (bz ls)), some (.long v), none, some (.int (nI bf)), some (.int (nI bh)), some (.int (nI j))], [.int 3], wd C (upd (upd Y.1 11 (bz rl)) 9 (Y.1 9), Y.2.1, Y.2.2.1, (-v)) og)) rfl ?_
                refine am_iret_r ok_M_asNumber rfl rfl rfl ?_
                have hm : m10 (if rl = true then 6 - j else 0) v = v := m10_0 (by first | exact Or.inl (show rl = false by assumption) | exact Or.inr (by omega))
                refine hpo _ _ ⟨fun j1 h9 h11 => ?_, rfl, rfl⟩ ?_ rfl ?_ ?_
                · simp [upd, h9, h11]
                · first | rw [if_pos ⟨by omega, by assumption⟩] | rw [if_neg (fun z => absurd z.1 (by omega))] | rw [if_neg (fun z => absurd (z.2.symm.trans (show rl = true by assumption)) (by decide))]
                · first | (rw [if_pos (by omega)]; rfl) | (rw [if_neg (by omega), Int32.or_zero]; rfl)
                · rw [hm]
                  first | exact (if_pos (hls.mp (show ls = true by assumption))).symm | exact (if_neg (fun z => absurd ((hls.mpr z).symm.trans (show ls = false by assumption)) (by decide))).symm
            · skip
              have h_16 : ¬ sg = 0 := fun z => h_16 ((nI_eq (show sg < 2 ^ 31 by omega) (show 0 < 2 ^ 31 by omega)).mpr z)
              refine am_steps_r ok_M_asNumber 1 (q' := (323, [some (.ref 19), some (.int (nI p)), some (.int (nI e)), some (.int (nI i)), some (.int (nI sg)), some (.int (bz ls)), some (.long v), none, some (.int (nI bf)), some (.int (nI bh)), some (.int (nI j))], [.int 1], wd C (upd (upd Y.1 11 (bz rl)) 9 (Y.1 9), Y.2.1, Y.2.2.1, (-v)) og)) rfl ?_
              refine am_iret_r ok_M_asNumber rfl rfl rfl ?_
              have hm : m10 (if rl = true then 6 - j else 0) v = v := m10_0 (by first | exact Or.inl (show rl = false by assumption) | exact Or.inr (by omega))
              refine hpo _ _ ⟨fun j1 h9 h11 => ?_, rfl, rfl⟩ ?_ rfl ?_ ?_
              · simp [upd, h9, h11]
              · first | rw [if_pos ⟨by omega, by assumption⟩] | rw [if_neg (fun z => absurd z.1 (by omega))] | rw [if_neg (fun z => absurd (z.2.symm.trans (show rl = true by assumption)) (by decide))]
              · first | (rw [if_pos (by omega)]; rfl) | (rw [if_neg (by omega), Int32.or_zero]; rfl)
              · rw [hm]
                first | exact (if_pos (hls.mp (show ls = true by assumption))).symm | exact (if_neg (fun z => absurd ((hls.mpr z).symm.trans (show ls = false by assumption)) (by decide))).symm
          · skip
            have h_15 : ¬ sg ≤ 1 := fun z => h_15 ((nI_leI (show sg < 2 ^ 31 by omega) (show 1 < 2 ^ 31 by omega)).mpr z)
            refine am_steps_r ok_M_asNumber 8 (q' := (bif decide ((nI sg) = 0) then 311 else 322, [some (.ref 19), some (.int (nI p)), some (.int (nI e)), some (.int (nI i)), some (.int (nI sg)), some (.int (bz ls)), some (.long v), none, some (.int (nI bf)), some (.int (nI bh)), some (.int (nI j))], [], wd C (upd (upd Y.1 11 (bz rl)) 9 ((Y.1 9) ||| 1), Y.2.1, Y.2.2.1, (-v)) og)) rfl ?_
            refine am_br_r (fun h_18 => ?_) (fun h_18 => ?_)
            · skip
              have h_18 : sg = 0 := (nI_eq (show sg < 2 ^ 31 by omega) (show 0 < 2 ^ 31 by omega)).mp h_18
              refine am_steps_r ok_M_asNumber 3 (q' := (bif decide ((bz rl) = 0) then 318 else 322, [some (.ref 19), some (.int (nI p)), some (.int (nI e)), some (.int (nI i)), some (.int (nI sg)), some (.int (bz ls)), some (.long v), none, some (.int (nI bf)), some (.int (nI bh)), some (.int (nI j))], [], wd C (upd (upd Y.1 11 (bz rl)) 9 ((Y.1 9) ||| 1), Y.2.1, Y.2.2.1, (-v)) og)) rfl ?_
              refine am_bz_r (fun h_19 => ?_) (fun h_19 => ?_)
              · skip
                first | contradiction | (exfalso; simp_all; done)
              · skip
                refine am_steps_r ok_M_asNumber 2 (q' := (323, [some (.ref 19), some (.int (nI p)), some (.int (nI e)), some (.int (nI i)), some (.int (nI sg)), some (.int (bz ls)), some (.long v), none, some (.int (nI bf)), some (.int (nI bh)), some (.int (nI j))], [.int 3], wd C (upd (upd Y.1 11 (bz rl)) 9 ((Y.1 9) ||| 1), Y.2.1, Y.2.2.1, (-v)) og)) rfl ?_
                refine am_iret_r ok_M_asNumber rfl rfl rfl ?_
                have hm : m10 (if rl = true then 6 - j else 0) v = v := m10_0 (by first | exact Or.inl (show rl = false by assumption) | exact Or.inr (by omega))
                refine hpo _ _ ⟨fun j1 h9 h11 => ?_, rfl, rfl⟩ ?_ rfl ?_ ?_
                · simp [upd, h9, h11]
                · first | rw [if_pos ⟨by omega, by assumption⟩] | rw [if_neg (fun z => absurd z.1 (by omega))] | rw [if_neg (fun z => absurd (z.2.symm.trans (show rl = true by assumption)) (by decide))]
                · first | (rw [if_pos (by omega)]; rfl) | (rw [if_neg (by omega), Int32.or_zero]; rfl)
                · rw [hm]
                  first | exact (if_pos (hls.mp (show ls = true by assumption))).symm | exact (if_neg (fun z => absurd ((hls.mpr z).symm.trans (show ls = false by assumption)) (by decide))).symm
            · skip
              have h_18 : ¬ sg = 0 := fun z => h_18 ((nI_eq (show sg < 2 ^ 31 by omega) (show 0 < 2 ^ 31 by omega)).mpr z)
              refine am_steps_r ok_M_asNumber 1 (q' := (323, [some (.ref 19), some (.int (nI p)), some (.int (nI e)), some (.int (nI i)), some (.int (nI sg)), some (.int (bz ls)), some (.long v), none, some (.int (nI bf)), some (.int (nI bh)), some (.int (nI j))], [.int 1], wd C (upd (upd Y.1 11 (bz rl)) 9 ((Y.1 9) ||| 1), Y.2.1, Y.2.2.1, (-v)) og)) rfl ?_
              refine am_iret_r ok_M_asNumber rfl rfl rfl ?_
              have hm : m10 (if rl = true then 6 - j else 0) v = v := m10_0 (by first | exact Or.inl (show rl = false by assumption) | exact Or.inr (by omega))
              refine hpo _ _ ⟨fun j1 h9 h11 => ?_, rfl, rfl⟩ ?_ rfl ?_ ?_
              · simp [upd, h9, h11]
              · first | rw [if_pos ⟨by omega, by assumption⟩] | rw [if_neg (fun z => absurd z.1 (by omega))] | rw [if_neg (fun z => absurd (z.2.symm.trans (show rl = true by assumption)) (by decide))]
              · first | (rw [if_pos (by omega)]; rfl) | (rw [if_neg (by omega), Int32.or_zero]; rfl)
              · rw [hm]
                first | exact (if_pos (hls.mp (show ls = true by assumption))).symm | exact (if_neg (fun z => absurd ((hls.mpr z).symm.trans (show ls = false by assumption)) (by decide))).symm
        · skip
          refine am_steps_r ok_M_asNumber 6 (q' := (bif decide ((nI sg) ≤ 1) then 299 else 290, [some (.ref 19), some (.int (nI p)), some (.int (nI e)), some (.int (nI i)), some (.int (nI sg)), some (.int (bz ls)), some (.long v), none, some (.int (nI bf)), some (.int (nI bh)), some (.int (nI j))], [.ref 19], wd C (upd Y.1 11 (bz rl), Y.2.1, Y.2.2.1, v) og)) rfl ?_
          refine am_br_r (fun h_20 => ?_) (fun h_20 => ?_)
          · skip
            have h_20 : sg ≤ 1 := (nI_leI (show sg < 2 ^ 31 by omega) (show 1 < 2 ^ 31 by omega)).mp h_20
            refine am_steps_r ok_M_asNumber 5 (q' := (bif decide ((nI sg) = 0) then 311 else 322, [some (.ref 19), some (.int (nI p)), some (.int (nI e)), some (.int (nI i)), some (.int (nI sg)), some (.int (bz ls)), some (.long v), none, some (.int (nI bf)), some (.int (nI bh)), some (.int (nI j))], [], wd C (upd (upd Y.1 11 (bz rl)) 9 (Y.1 9), Y.2.1, Y.2.2.1, v) og)) rfl ?_
            refine am_br_r (fun h_21 => ?_) (fun h_21 => ?_)
            · skip
              have h_21 : sg = 0 := (nI_eq (show sg < 2 ^ 31 by omega) (show 0 < 2 ^ 31 by omega)).mp h_21
              refine am_steps_r ok_M_asNumber 3 (q' := (bif decide ((bz rl) = 0) then 318 else 322, [some (.ref 19), some (.int (nI p)), some (.int (nI e)), some (.int (nI i)), some (.int (nI sg)), some (.int (bz ls)), some (.long v), none, some (.int (nI bf)), some (.int (nI bh)), some (.int (nI j))], [], wd C (upd (upd Y.1 11 (bz rl)) 9 (Y.1 9), Y.2.1, Y.2.2.1, v) og)) rfl ?_
              refine am_bz_r (fun h_22 => ?_) (fun h_22 => ?_)
              · skip
                first | contradiction | (exfalso; simp_all; done)
              · skip
                refine am_steps_r ok_M_asNumber 2 (q' := (323, [some (.ref 19), some (.int (nI p)), some (.int (nI e)), some (.int (nI i)), some (.int (nI sg)), some (.int (bz ls)), some (.long v), none, some (.int (nI bf)), some (.int (nI bh)), some (.int (nI j))], [.int 3], wd C (upd (upd Y.1 11 (bz rl)) 9 (Y.1 9), Y.2.1, Y.2.2.1, v) og)) rfl ?_
                refine am_iret_r ok_M_asNumber rfl rfl rfl ?_
                have hm : m10 (if rl = true then 6 - j else 0) v = v := m10_0 (by first | exact Or.inl (show rl = false by assumption) | exact Or.inr (by omega))
                refine hpo _ _ ⟨fun j1 h9 h11 => ?_, rfl, rfl⟩ ?_ rfl ?_ ?_
                · simp [upd, h9, h11]
                · first | rw [if_pos ⟨by omega, by assumption⟩] | rw [if_neg (fun z => absurd z.1 (by omega))] | rw [if_neg (fun z => absurd (z.2.symm.trans (show rl = true by assumption)) (by decide))]
                · first | (rw [if_pos (by omega)]; rfl) | (rw [if_neg (by omega), Int32.or_zero]; rfl)
                · rw [hm]
                  first | exact (if_pos (hls.mp (show ls = true by assumption))).symm | exact (if_neg (fun z => absurd ((hls.mpr z).symm.trans (show ls = false by assumption)) (by decide))).symm
            · skip
              have h_21 : ¬ sg = 0 := fun z => h_21 ((nI_eq (show sg < 2 ^ 31 by omega) (show 0 < 2 ^ 31 by omega)).mpr z)
              refine am_steps_r ok_M_asNumber 1 (q' := (323, [some (.ref 19), some (.int (nI p)), some (.int (nI e)), some (.int (nI i)), some (.int (nI sg)), some (.int (bz ls)), some (.long v), none, some (.int (nI bf)), some (.int (nI bh)), some (.int (nI j))], [.int 1], wd C (upd (upd Y.1 11 (bz rl)) 9 (Y.1 9), Y.2.1, Y.2.2.1, v) og)) rfl ?_
              refine am_iret_r ok_M_asNumber rfl rfl rfl ?_
              have hm : m10 (if rl = true then 6 - j else 0) v = v := m10_0 (by first | exact Or.inl (show rl = false by assumption) | exact Or.inr (by omega))
              refine hpo _ _ ⟨fun j1 h9 h11 => ?_, rfl, rfl⟩ ?_ rfl ?_ ?_
              · simp [upd, h9, h11]
              · first | rw [if_pos ⟨by omega, by assumption⟩] | rw [if_neg (fun z => absurd z.1 (by omega))] | rw [if_neg (fun z => absurd (z.2.symm.trans (show rl = true by assumption)) (by decide))]
              · first | (rw [if_pos (by omega)]; rfl) | (rw [if_neg (by omega), Int32.or_zero]; rfl)
              · rw [hm]
                first | exact (if_pos (hls.mp (show ls = true by assumption))).symm | exact (if_neg (fun z => absurd ((hls.mpr z).symm.trans (show ls = false by assumption)) (by decide))).symm
          · skip
            have h_20 : ¬ sg ≤ 1 := fun z => h_20 ((nI_leI (show sg < 2 ^ 31 by omega) (show 1 < 2 ^ 31 by omega)).mpr z)
            refine am_steps_r ok_M_asNumber 8 (q' := (bif decide ((nI sg) = 0) then 311 else 322, [some (.ref 19), some (.int (nI p)), some (.int (nI e)), some (.int (nI i)), some (.int (nI sg)), some (.int (bz ls)), some (.long v), none, some (.int (nI bf)), some (.int (nI bh)), some (.int (nI j))], [], wd C (upd (upd Y.1 11 (bz rl)) 9 ((Y.1 9) ||| 1), Y.2.1, Y.2.2.1, v) og)) rfl ?_
            refine am_br_r (fun h_23 => ?_) (fun h_23 => ?_)
            · skip
              have h_23 : sg = 0 := (nI_eq (show sg < 2 ^ 31 by omega) (show 0 < 2 ^ 31 by omega)).mp h_23
              refine am_steps_r ok_M_asNumber 3 (q' := (bif decide ((bz rl) = 0) then 318 else 322, [some (.ref 19), some (.int (nI p)), some (.int (nI e)), some (.int (nI i)), some (.int (nI sg)), some (.int (bz ls)), some (.long v), none, some (.int (nI bf)), some (.int (nI bh)), some (.int (nI j))], [], wd C (upd (upd Y.1 11 (bz rl)) 9 ((Y.1 9) ||| 1), Y.2.1, Y.2.2.1, v) og)) rfl ?_
              refine am_bz_r (fun h_24 => ?_) (fun h_24 => ?_)
              · skip
                first | contradiction | (exfalso; simp_all; done)
              · skip
                refine am_steps_r ok_M_asNumber 2 (q' := (323, [some (.ref 19), some (.int (nI p)), some (.int (nI e)), some (.int (nI i)), some (.int (nI sg)), some (.int (bz ls)), some (.long v), none, some (.int (nI bf)), some (.int (nI bh)), some (.int (nI j))], [.int 3], wd C (upd (upd Y.1 11 (bz rl)) 9 ((Y.1 9) ||| 1), Y.2.1, Y.2.2.1, v) og)) rfl ?_
                refine am_iret_r ok_M_asNumber rfl rfl rfl ?_
                have hm : m10 (if rl = true then 6 - j else 0) v = v := m10_0 (by first | exact Or.inl (show rl = false by assumption) | exact Or.inr (by omega))
                refine hpo _ _ ⟨fun j1 h9 h11 => ?_, rfl, rfl⟩ ?_ rfl ?_ ?_
                · simp [upd, h9, h11]
                · first | rw [if_pos ⟨by omega, by assumption⟩] | rw [if_neg (fun z => absurd z.1 (by omega))] | rw [if_neg (fun z => absurd (z.2.symm.trans (show rl = true by assumption)) (by decide))]
                · first | (rw [if_pos (by omega)]; rfl) | (rw [if_neg (by omega), Int32.or_zero]; rfl)
                · rw [hm]
                  first | exact (if_pos (hls.mp (show ls = true by assumption))).symm | exact (if_neg (fun z => absurd ((hls.mpr z).symm.trans (show ls = false by assumption)) (by decide))).symm
            · skip
              have h_23 : ¬ sg = 0 := fun z => h_23 ((nI_eq (show sg < 2 ^ 31 by omega) (show 0 < 2 ^ 31 by omega)).mpr z)
              refine am_steps_r ok_M_asNumber 1 (q' := (323, [some (.ref 19), some (.int (nI p)), some (.int (nI e)), some (.int (nI i)), some (.int (nI sg)), some (.int (bz ls)), some (.long v), none, some (.int (nI bf)), some (.int (nI bh)), some (.int (nI j))], [.int 1], wd C (upd (upd Y.1 11 (bz rl)) 9 ((Y.1 9) ||| 1), Y.2.1, Y.2.2.1, v) og)) rfl ?_
              refine am_iret_r ok_M_asNumber rfl rfl rfl ?_
              have hm : m10 (if rl = true then 6 - j else 0) v = v := m10_0 (by first | exact Or.inl (show rl = false by assumption) | exact Or.inr (by omega))
              refine hpo _ _ ⟨fun j1 h9 h11 => ?_, rfl, rfl⟩ ?_ rfl ?_ ?_
              · simp [upd, h9, h11]
              · first | rw [if_pos ⟨by omega, by assumption⟩] | rw [if_neg (fun z => absurd z.1 (by omega))] | rw [if_neg (fun z => absurd (z.2.symm.trans (show rl = true by assumption)) (by decide))]
              · first | (rw [if_pos (by omega)]; rfl) | (rw [if_neg (by omega), Int32.or_zero]; rfl)
              · rw [hm]
                first | exact (if_pos (hls.mp (show ls = true by assumption))).symm | exact (if_neg (fun z => absurd ((hls.mpr z).symm.trans (show ls = false by assumption)) (by decide))).symm
set_option maxHeartbeats 2000000 in
set_option maxRecDepth 100000 in
theorem lp_M_asNumber_77 (d : Nat) (C : wd_C) (Y : wd_Y) (og : Nat → Int64) (n : Nat) (b : Nat → Int32) (hT : tpY Y n b) (p e : Nat) (hpe : p < e) (hen : e ≤ n) (sg : Nat) (ls : Bool) (hsg : sg < 5000) (hls : ls = true ↔ b p = 45)  : ∀ (fu : Nat) (post : Option Value → am_W → Prop) (i : Nat) (rl : Bool) (bf : Nat) (bh : Nat) (v : Int64) (s : Int64), (p ≤ i) → (i ≤ e) → (bf + bh ≤ i) → (bf ≤ 9 → bh ≤ 6 → v = s) → (∀ vr w', anQ Y C og b p (sg, nbB b (e - i) i rl.toNat bf bh s) vr w' → post vr w') → e - i < fu → am_Rn l D cA ad fm (d + 1) m_M_asNumber (wd C Y og).length post (77, [some (.ref 19), some (.int (nI p)), some (.int (nI e)), some (.int (nI i)), some (.int (nI sg)), some (.int (bz ls)), some (.long v), none, some (.int (nI bf)), some (.int (nI bh)), none], [], wd C (upd Y.1 11 (bz rl), Y.2) og) := by
  intro fu
  induction fu with
  | zero => intro post i rl bf bh v s hpi hie hbb hv hpo hfu; exact absurd hfu (Nat.not_lt_zero _)
  | succ fu ih =>
    intro post i rl bf bh v s hpi hie hbb hv hpo hfu
    have hn := hT.2.1
    refine am_steps_r ok_M_asNumber 3 (q' := (bif decide ((nI e) ≤ (nI i)) then 208 else 82, [some (.ref 19), some (.int (nI p)), some (.int (nI e)), some (.int (nI i)), some (.int (nI sg)), some (.int (bz ls)), some (.long v), none, some (.int (nI bf)), some (.int (nI bh)), none], [], wd C (upd Y.1 11 (bz rl), Y.2) og)) rfl ?_
    refine am_br_r (fun h_1 => ?_) (fun h_1 => ?_)
    · skip
      have h_1 : e ≤ i := (nI_leI (show e < 2 ^ 31 by omega) (show i < 2 ^ 31 by omega)).mp h_1
      refine am_steps_r ok_M_asNumber 4 (q' := (bif decide (((nI bf) + (nI bh)) = 0) then 216 else 218, [some (.ref 19), some (.int (nI p)), some (.int (nI e)), some (.int (nI i)), some (.int (nI sg)), some (.int (bz ls)), some (.long v), none, some (.int (nI bf)), some (.int (nI bh)), none], [], wd C (upd Y.1 11 (bz rl), Y.2) og)) rfl ?_
      rw [show ((nI bf) + (nI bh) : Int32) = nI (bf + bh) from nI_add bf bh]
      refine am_br_r (fun h_2 => ?_) (fun h_2 => ?_)
      · skip
        have h_2 : (bf + bh) = 0 := (nI_eq (show (bf + bh) < 2 ^ 31 by omega) (show 0 < 2 ^ 31 by omega)).mp h_2
        refine am_steps_r ok_M_asNumber 1 (q' := (217, [some (.ref 19), some (.int (nI p)), some (.int (nI e)), some (.int (nI i)), some (.int (nI sg)), some (.int (bz ls)), some (.long v), none, some (.int (nI bf)), some (.int (nI bh)), none], [.int 0], wd C (upd Y.1 11 (bz rl), Y.2) og)) rfl ?_
        refine am_iret_r ok_M_asNumber rfl rfl rfl ?_
        refine hpo _ _ ⟨_, rfl, ⟨fun j1 h9 h11 => by simp [upd, h11], rfl, rfl⟩, ?_⟩
        rw [show e - i = 0 by omega, nbB]
        show (if bf + bh = 0 then _ else _)
        rw [if_pos (by omega)]
      · skip
        have h_2 : ¬ (bf + bh) = 0 := fun z => h_2 ((nI_eq (show (bf + bh) < 2 ^ 31 by omega) (show 0 < 2 ^ 31 by omega)).mpr z)
        refine am_steps_r ok_M_asNumber 3 (q' := (bif decide (9 < (nI bf)) then 232 else 225, [some (.ref 19), some (.int (nI p)), some (.int (nI e)), some (.int (nI i)), some (.int (nI sg)), some (.int (bz ls)), some (.long v), none, some (.int (nI bf)), some (.int (nI bh)), none], [], wd C (upd Y.1 11 (bz rl), Y.2) og)) rfl ?_
        refine am_br_r (fun h_3 => ?_) (fun h_3 => ?_)
        · skip
          have h_3 : 9 < bf := (nI_ltI (show 9 < 2 ^ 31 by omega) (show bf < 2 ^ 31 by omega)).mp h_3
          refine am_steps_r ok_M_asNumber 1 (q' := (233, [some (.ref 19), some (.int (nI p)), some (.int (nI e)), some (.int (nI i)), some (.int (nI sg)), some (.int (bz ls)), some (.long v), none, some (.int (nI bf)), some (.int (nI bh)), none], [.int 2], wd C (upd Y.1 11 (bz rl), Y.2) og)) rfl ?_
          refine am_iret_r ok_M_asNumber rfl rfl rfl ?_
          refine hpo _ _ ⟨_, rfl, ⟨fun j1 h9 h11 => by simp [upd, h11], rfl, rfl⟩, ?_⟩
          rw [show e - i = 0 by omega, nbB]
          show (if bf + bh = 0 then _ else _)
          rw [if_neg (by omega), if_pos (by omega)]
        · skip
          have h_3 : ¬ 9 < bf := fun z => h_3 ((nI_ltI (show 9 < 2 ^ 31 by omega) (show bf < 2 ^ 31 by omega)).mpr z)
          refine am_steps_r ok_M_asNumber 3 (q' := (bif decide ((nI bh) ≤ 6) then 234 else 232, [some (.ref 19), some (.int (nI p)), some (.int (nI e)), some (.int (nI i)), some (.int (nI sg)), some (.int (bz ls)), some (.long v), none, some (.int (nI bf)), some (.int (nI bh)), none], [], wd C (upd Y.1 11 (bz rl), Y.2) og)) rfl ?_
          refine am_br_r (fun h_4 => ?_) (fun h_4 => ?_)
          · skip
            have h_4 : bh ≤ 6 := (nI_leI (show bh < 2 ^ 31 by omega) (show 6 < 2 ^ 31 by omega)).mp h_4
            refine am_steps_r ok_M_asNumber 2 (q' := (238, [some (.ref 19), some (.int (nI p)), some (.int (nI e)), some (.int (nI i)), some (.int (nI sg)), some (.int (bz ls)), some (.long v), none, some (.int (nI bf)), some (.int (nI bh)), some (.int (nI bh))], [], wd C (upd Y.1 11 (bz rl), Y.2) og)) rfl ?_
            have hvs := hv (by omega) (by omega)
            subst hvs
            refine lp_M_asNumber_238 d C Y og n b hT p e hpe hen i sg bf bh ls rl hsg hls 8 _ bh v (by omega) (fun vr Y' a1 a2 a3 a4 a5 => hpo _ _ ⟨Y', rfl, a1, ?_⟩) (by omega)
            rw [show e - i = 0 by omega, nbB]
            show (if bf + bh = 0 then _ else _)
            rw [if_neg (by omega), if_neg (by omega)]
            cases rl <;> simp_all [bz]
          · skip
            have h_4 : ¬ bh ≤ 6 := fun z => h_4 ((nI_leI (show bh < 2 ^ 31 by omega) (show 6 < 2 ^ 31 by omega)).mpr z)
            refine am_steps_r ok_M_asNumber 1 (q' := (233, [some (.ref 19), some (.int (nI p)), some (.int (nI e)), some (.int (nI i)), some (.int (nI sg)), some (.int (bz ls)), some (.long v), none, some (.int (nI bf)), some (.int (nI bh)), none], [.int 2], wd C (upd Y.1 11 (bz rl), Y.2) og)) rfl ?_
            refine am_iret_r ok_M_asNumber rfl rfl rfl ?_
            refine hpo _ _ ⟨_, rfl, ⟨fun j1 h9 h11 => by simp [upd, h11], rfl, rfl⟩, ?_⟩
            rw [show e - i = 0 by omega, nbB]
            show (if bf + bh = 0 then _ else _)
            rw [if_neg (by omega), if_pos (by omega)]
    · skip
      have h_1 : ¬ e ≤ i := fun z => h_1 ((nI_leI (show e < 2 ^ 31 by omega) (show i < 2 ^ 31 by omega)).mpr z)
      have hrd := hT.2.2.1 i (by omega)
      refine am_steps_r ok_M_asNumber 3 (q' := (87, [some (.ref 19), some (.int (nI p)), some (.int (nI e)), some (.int (nI i)), some (.int (nI sg)), some (.int (bz ls)), some (.long v), none, some (.int (nI bf)), some (.int (nI bh)), none], [.int (nI i), .ref 20], wd C (upd Y.1 11 (bz rl), Y.2) og)) rfl ?_
      refine am_iald_r ok_M_asNumber rfl (w := wd C (upd Y.1 11 (bz rl), Y.2) og) (f := Y.2.1 0) rfl rfl (pk_in i 1600 (by omega)) ?_
      rw [nI_clamp (show i < 2 ^ 31 by omega)]
      rw [hrd]
      refine am_steps_r ok_M_asNumber 2 (q' := (bif decide ((b i) = 46) then 93 else 110, [some (.ref 19), some (.int (nI p)), some (.int (nI e)), some (.int (nI i)), some (.int (nI sg)), some (.int (bz ls)), some (.long v), none, some (.int (nI bf)), some (.int (nI bh)), none], [], wd C (upd Y.1 11 (bz rl), Y.2) og)) rfl ?_
      refine am_br_r (fun h_5 => ?_) (fun h_5 => ?_)
      · skip
        refine am_steps_r ok_M_asNumber 3 (q' := (bif decide ((bz rl) = 0) then 102 else 100, [some (.ref 19), some (.int (nI p)), some (.int (nI e)), some (.int (nI i)), some (.int (nI sg)), some (.int (bz ls)), some (.long v), none, some (.int (nI bf)), some (.int (nI bh)), none], [], wd C (upd Y.1 11 (bz rl), Y.2) og)) rfl ?_
        refine am_bz_r (fun h_6 => ?_) (fun h_6 => ?_)
        · skip
          refine am_steps_r ok_M_asNumber 1 (q' := (101, [some (.ref 19), some (.int (nI p)), some (.int (nI e)), some (.int (nI i)), some (.int (nI sg)), some (.int (bz ls)), some (.long v), none, some (.int (nI bf)), some (.int (nI bh)), none], [.int 0], wd C (upd Y.1 11 (bz rl), Y.2) og)) rfl ?_
          refine am_iret_r ok_M_asNumber rfl rfl rfl ?_
          refine hpo _ _ ⟨_, rfl, ⟨fun j1 h9 h11 => by simp [upd, h11], rfl, rfl⟩, ?_⟩
          rw [show e - i = (e - (i + 1)) + 1 by omega, nbB_bad (by rintro ⟨z1, z2⟩; first | contradiction | simp_all) (by first | assumption | (rw [show b i = 46 by assumption]; decide))]
        · skip
          refine am_steps_r ok_M_asNumber 2 (q' := (104, [some (.ref 19), some (.int (nI p)), some (.int (nI e)), some (.int (nI i)), some (.int (nI sg)), some (.int (bz ls)), some (.long v), none, some (.int (nI bf)), some (.int (nI bh)), none], [.int 1, .ref 19], wd C (upd Y.1 11 (bz rl), Y.2) og)) rfl ?_
          refine am_putz_r ok_M_asNumber (cj := 0) rfl rfl (w := wd C (upd Y.1 11 (bz rl), Y.2) og) rfl (Nat.le_of_ble_eq_true rfl) rfl rfl ?_
          refine am_eq_r (q' := (107, [some (.ref 19), some (.int (nI p)), some (.int (nI e)), some (.int (nI i)), some (.int (nI sg)), some (.int (bz ls)), some (.long v), none, some (.int (nI bf)), some (.int (nI bh)), none], [], wd C (upd Y.1 11 1, Y.2) og)) rfl ?_
          refine am_steps_r ok_M_asNumber 3 (q' := (77, [some (.ref 19), some (.int (nI p)), some (.int (nI e)), some (.int ((nI i) + 1)), some (.int (nI sg)), some (.int (bz ls)), some (.long v), none, some (.int (nI bf)), some (.int (nI bh)), none], [], wd C (upd Y.1 11 1, Y.2) og)) rfl ?_
          rw [show ((nI i) + 1 : Int32) = nI (i + 1) from nI_add i 1]
          refine am_eq_r (q' := (77, [some (.ref 19), some (.int (nI p)), some (.int (nI e)), some (.int (nI (i + 1))), some (.int (nI sg)), some (.int (bz ls)), some (.long v), none, some (.int (nI bf)), some (.int (nI bh)), none], [], wd C (upd Y.1 11 (bz true), Y.2) og)) rfl ?_
          refine ih post (i + 1) true bf bh v s (by omega) (by omega) (by omega) hv (fun vr w' hw => hpo vr w' ?_) (by omega)
          rw [show e - i = (e - (i + 1)) + 1 by omega]
          rw [nbB_pt (by assumption) (by simp [*])]
          simp only [*, Bool.toNat_false, Bool.toNat_true, Nat.zero_add] at hw ⊢
          exact hw
      · skip
        refine am_steps_r ok_M_asNumber 3 (q' := (115, [some (.ref 19), some (.int (nI p)), some (.int (nI e)), some (.int (nI i)), some (.int (nI sg)), some (.int (bz ls)), some (.long v), none, some (.int (nI bf)), some (.int (nI bh)), none], [.int (nI i), .ref 20], wd C (upd Y.1 11 (bz rl), Y.2) og)) rfl ?_
        refine am_iald_r ok_M_asNumber rfl (w := wd C (upd Y.1 11 (bz rl), Y.2) og) (f := Y.2.1 0) rfl rfl (pk_in i 1600 (by omega)) ?_
        rw [nI_clamp (show i < 2 ^ 31 by omega)]
        rw [hrd]
        refine am_callS_r (As := [.int (b i)]) (rest := []) ok_M_asNumber rfl rfl ok_M_isFigure os_M_isFigure lk_6_73 rfl rfl (Nat.le_of_ble_eq_true rfl) (c_M_isFigure _ C (upd Y.1 11 (bz rl), Y.2) og (b i)) ?_
        rintro v_ w_ ⟨rfl, rfl⟩ -
        refine am_eq_r (q' := (119, [some (.ref 19), some (.int (nI p)), some (.int (nI e)), some (.int (nI i)), some (.int (nI sg)), some (.int (bz ls)), some (.long v), none, some (.int (nI bf)), some (.int (nI bh)), none], [.int (bz (isFig (b i)))], wd C (upd Y.1 11 (bz rl), Y.2) og)) rfl ?_
        refine am_steps_r ok_M_asNumber 1 (q' := (bif decide ((bz (isFig (b i))) = 0) then 200 else 122, [some (.ref 19), some (.int (nI p)), some (.int (nI e)), some (.int (nI i)), some (.int (nI sg)), some (.int (bz ls)), some (.long v), none, some (.int (nI bf)), some (.int (nI bh)), none], [], wd C (upd Y.1 11 (bz rl), Y.2) og)) rfl ?_
        refine am_bz_r (fun h_8 => ?_) (fun h_8 => ?_)
        · skip
          refine am_steps_r ok_M_asNumber 3 (q' := (bif decide ((bz rl) = 0) then 134 else 129, [some (.ref 19), some (.int (nI p)), some (.int (nI e)), some (.int (nI i)), some (.int (nI sg)), some (.int (bz ls)), some (.long v), none, some (.int (nI bf)), some (.int (nI bh)), none], [], wd C (upd Y.1 11 (bz rl), Y.2) og)) rfl ?_
          refine am_bz_r (fun h_9 => ?_) (fun h_9 => ?_)
          · skip
            refine am_steps_r ok_M_asNumber 6 (q' := (bif decide ((bz rl) = 0) then 154 else 147, [some (.ref 19), some (.int (nI p)), some (.int (nI e)), some (.int (nI i)), some (.int (nI sg)), some (.int (bz ls)), some (.long v), none, some (.int (nI bf)), some (.int (nI bh)), none], [], wd C (upd Y.1 11 (bz rl), Y.2) og)) rfl ?_
            refine am_bz_r (fun h_10 => ?_) (fun h_10 => ?_)
            · skip
              refine am_steps_r ok_M_asNumber 8 (q' := (bif decide (9 < (nI bf)) then 172 else 165, [some (.ref 19), some (.int (nI p)), some (.int (nI e)), some (.int (nI i)), some (.int (nI sg)), some (.int (bz ls)), some (.long v), none, some (.int (nI bf)), some (.int ((nI bh) + 1)), none], [], wd C (upd Y.1 11 (bz rl), Y.2) og)) rfl ?_
              rw [show ((nI bh) + 1 : Int32) = nI (bh + 1) from nI_add bh 1]
              refine am_br_r (fun h_11 => ?_) (fun h_11 => ?_)
              · skip
                have h_11 : 9 < bf := (nI_ltI (show 9 < 2 ^ 31 by omega) (show bf < 2 ^ 31 by omega)).mp h_11
                refine am_steps_r ok_M_asNumber 6 (q' := (77, [some (.ref 19), some (.int (nI p)), some (.int (nI e)), some (.int ((nI i) + 1)), some (.int (nI sg)), some (.int (bz ls)), some (.long v), none, some (.int (nI bf)), some (.int (nI (bh + 1))), none], [], wd C (upd Y.1 11 (bz rl), Y.2) og)) rfl ?_
                rw [show ((nI i) + 1 : Int32) = nI (i + 1) from nI_add i 1]
                refine am_eq_r (q' := (77, [some (.ref 19), some (.int (nI p)), some (.int (nI e)), some (.int (nI (i + 1))), some (.int (nI sg)), some (.int (bz ls)), some (.long v), none, some (.int (nI bf)), some (.int (nI (bh + 1))), none], [], wd C (upd Y.1 11 (bz rl), Y.2) og)) rfl ?_
                refine ih post (i + 1) rl bf (bh + 1) v (s * 10 + (b i).toInt64 - 48) (by omega) (by omega) (by omega) (fun h1 h2 => by first | (exfalso; omega) | rw [hv (by omega) (by omega), Int64.mul_comm]) (fun vr w' hw => hpo vr w' ?_) (by omega)
                rw [show e - i = (e - (i + 1)) + 1 by omega]
                rw [nbB_fig (by rintro ⟨z1, z2⟩; first | contradiction | simp_all) (by assumption)]
                simp only [*, Bool.toNat_false, Bool.toNat_true, Nat.add_zero, Nat.sub_self, Nat.sub_zero] at hw ⊢
                exact hw
              · skip
                have h_11 : ¬ 9 < bf := fun z => h_11 ((nI_ltI (show 9 < 2 ^ 31 by omega) (show bf < 2 ^ 31 by omega)).mpr z)
                refine am_steps_r ok_M_asNumber 3 (q' := (bif decide ((nI (bh + 1)) ≤ 6) then 177 else 172, [some (.ref 19), some (.int (nI p)), some (.int (nI e)), some (.int (nI i)), some (.int (nI sg)), some (.int (bz ls)), some (.long v), none, some (.int (nI bf)), some (.int (nI (bh + 1))), none], [], wd C (upd Y.1 11 (bz rl), Y.2) og)) rfl ?_
                refine am_br_r (fun h_12 => ?_) (fun h_12 => ?_)
                · skip
                  have h_12 : (bh + 1) ≤ 6 := (nI_leI (show (bh + 1) < 2 ^ 31 by omega) (show 6 < 2 ^ 31 by omega)).mp h_12
                  refine am_steps_r ok_M_asNumber 6 (q' := (188, [some (.ref 19), some (.int (nI p)), some (.int (nI e)), some (.int (nI i)), some (.int (nI sg)), some (.int (bz ls)), some (.long v), none, some (.int (nI bf)), some (.int (nI (bh + 1))), none], [.int (nI i), .ref 20, .long (10 * v)], wd C (upd Y.1 11 (bz rl), Y.2) og)) rfl ?_
                  refine am_iald_r ok_M_asNumber rfl (w := wd C (upd Y.1 11 (bz rl), Y.2) og) (f := Y.2.1 0) rfl rfl (pk_in i 1600 (by omega)) ?_
                  rw [nI_clamp (show i < 2 ^ 31 by omega)]
                  rw [hrd]
                  refine am_steps_r ok_M_asNumber 8 (q' := (77, [some (.ref 19), some (.int (nI p)), some (.int (nI e)), some (.int ((nI i) + 1)), some (.int (nI sg)), some (.int (bz ls)), some (.long (((10 * v) + (b i).toInt64) - 48)), none, some (.int (nI bf)), some (.int (nI (bh + 1))), none], [], wd C (upd Y.1 11 (bz rl), Y.2) og)) rfl ?_
                  rw [show ((nI i) + 1 : Int32) = nI (i + 1) from nI_add i 1]
                  refine am_eq_r (q' := (77, [some (.ref 19), some (.int (nI p)), some (.int (nI e)), some (.int (nI (i + 1))), some (.int (nI sg)), some (.int (bz ls)), some (.long (((10 * v) + (b i).toInt64) - 48)), none, some (.int (nI bf)), some (.int (nI (bh + 1))), none], [], wd C (upd Y.1 11 (bz rl), Y.2) og)) rfl ?_
                  refine ih post (i + 1) rl bf (bh + 1) (((10 * v) + (b i).toInt64) - 48) (s * 10 + (b i).toInt64 - 48) (by omega) (by omega) (by omega) (fun h1 h2 => by first | (exfalso; omega) | rw [hv (by omega) (by omega), Int64.mul_comm]) (fun vr w' hw => hpo vr w' ?_) (by omega)
                  rw [show e - i = (e - (i + 1)) + 1 by omega]
                  rw [nbB_fig (by rintro ⟨z1, z2⟩; first | contradiction | simp_all) (by assumption)]
                  simp only [*, Bool.toNat_false, Bool.toNat_true, Nat.add_zero, Nat.sub_self, Nat.sub_zero] at hw ⊢
                  exact hw
                · skip
                  have h_12 : ¬ (bh + 1) ≤ 6 := fun z => h_12 ((nI_leI (show (bh + 1) < 2 ^ 31 by omega) (show 6 < 2 ^ 31 by omega)).mpr z)
                  refine am_steps_r ok_M_asNumber 6 (q' := (77, [some (.ref 19), some (.int (nI p)), some (.int (nI e)), some (.int ((nI i) + 1)), some (.int (nI sg)), some (.int (bz ls)), some (.long v), none, some (.int (nI bf)), some (.int (nI (bh + 1))), none], [], wd C (upd Y.1 11 (bz rl), Y.2) og)) rfl ?_
                  rw [show ((nI i) + 1 : Int32) = nI (i + 1) from nI_add i 1]
                  refine am_eq_r (q' := (77, [some (.ref 19), some (.int (nI p)), some (.int (nI e)), some (.int (nI (i + 1))), some (.int (nI sg)), some (.int (bz ls)), some (.long v), none, some (.int (nI bf)), some (.int (nI (bh + 1))), none], [], wd C (upd Y.1 11 (bz rl), Y.2) og)) rfl ?_
                  refine ih post (i + 1) rl bf (bh + 1) v (s * 10 + (b i).toInt64 - 48) (by omega) (by omega) (by omega) (fun h1 h2 => by first | (exfalso; omega) | rw [hv (by omega) (by omega), Int64.mul_comm]) (fun vr w' hw => hpo vr w' ?_) (by omega)
                  rw [show e - i = (e - (i + 1)) + 1 by omega]
                  rw [nbB_fig (by rintro ⟨z1, z2⟩; first | contradiction | simp_all) (by assumption)]
                  simp only [*, Bool.toNat_false, Bool.toNat_true, Nat.add_zero, Nat.sub_self, Nat.sub_zero] at hw ⊢
                  exact hw
            · skip
              first | contradiction | (exfalso; simp_all; done)
          · skip
            refine am_steps_r ok_M_asNumber 7 (q' := (bif decide ((bz rl) = 0) then 154 else 147, [some (.ref 19), some (.int (nI p)), some (.int (nI e)), some (.int (nI i)), some (.int (nI sg)), some (.int (bz ls)), some (.long v), none, some (.int ((nI bf) + 1)), some (.int (nI bh)), none], [], wd C (upd Y.1 11 (bz rl), Y.2) og)) rfl ?_
            rw [show ((nI bf) + 1 : Int32) = nI (bf + 1) from nI_add bf 1]
            refine am_bz_r (fun h_13 => ?_) (fun h_13 => ?_)
            · skip
              first | contradiction | (exfalso; simp_all; done)
            · skip
              refine am_steps_r ok_M_asNumber 5 (q' := (bif decide (9 < (nI (bf + 1))) then 172 else 165, [some (.ref 19), some (.int (nI p)), some (.int (nI e)), some (.int (nI i)), some (.int (nI sg)), some (.int (bz ls)), some (.long v), none, some (.int (nI (bf + 1))), some (.int (nI bh)), none], [], wd C (upd Y.1 11 (bz rl), Y.2) og)) rfl ?_
              refine am_br_r (fun h_14 => ?_) (fun h_14 => ?_)
              · skip
                have h_14 : 9 < (bf + 1) := (nI_ltI (show 9 < 2 ^ 31 by omega) (show (bf + 1) < 2 ^ 31 by omega)).mp h_14
                refine am_steps_r ok_M_asNumber 6 (q' := (77, [some (.ref 19), some (.int (nI p)), some (.int (nI e)), some (.int ((nI i) + 1)), some (.int (nI sg)), some (.int (bz ls)), some (.long v), none, some (.int (nI (bf + 1))), some (.int (nI bh)), none], [], wd C (upd Y.1 11 (bz rl), Y.2) og)) rfl ?_
                rw [show ((nI i) + 1 : Int32) = nI (i + 1) from nI_add i 1]
                refine am_eq_r (q' := (77, [some (.ref 19), some (.int (nI p)), some (.int (nI e)), some (.int (nI (i + 1))), some (.int (nI sg)), some (.int (bz ls)), some (.long v), none, some (.int (nI (bf + 1))), some (.int (nI bh)), none], [], wd C (upd Y.1 11 (bz rl), Y.2) og)) rfl ?_
                refine ih post (i + 1) rl (bf + 1) bh v (s * 10 + (b i).toInt64 - 48) (by omega) (by omega) (by omega) (fun h1 h2 => by first | (exfalso; omega) | rw [hv (by omega) (by omega), Int64.mul_comm]) (fun vr w' hw => hpo vr w' ?_) (by omega)
                rw [show e - i = (e - (i + 1)) + 1 by omega]
                rw [nbB_fig (by rintro ⟨z1, z2⟩; first | contradiction | simp_all) (by assumption)]
                simp only [*, Bool.toNat_false, Bool.toNat_true, Nat.add_zero, Nat.sub_self, Nat.sub_zero] at hw ⊢
                exact hw
              · skip
                have h_14 : ¬ 9 < (bf + 1) := fun z => h_14 ((nI_ltI (show 9 < 2 ^ 31 by omega) (show (bf + 1) < 2 ^ 31 by omega)).mpr z)
                refine am_steps_r ok_M_asNumber 3 (q' := (bif decide ((nI bh) ≤ 6) then 177 else 172, [some (.ref 19), some (.int (nI p)), some (.int (nI e)), some (.int (nI i)), some (.int (nI sg)), some (.int (bz ls)), some (.long v), none, some (.int (nI (bf + 1))), some (.int (nI bh)), none], [], wd C (upd Y.1 11 (bz rl), Y.2) og)) rfl ?_
                refine am_br_r (fun h_15 => ?_) (fun h_15 => ?_)
                · skip
                  have h_15 : bh ≤ 6 := (nI_leI (show bh < 2 ^ 31 by omega) (show 6 < 2 ^ 31 by omega)).mp h_15
                  refine am_steps_r ok_M_asNumber 6 (q' := (188, [some (.ref 19), some (.int (nI p)), some (.int (nI e)), some (.int (nI i)), some (.int (nI sg)), some (.int (bz ls)), some (.long v), none, some (.int (nI (bf + 1))), some (.int (nI bh)), none], [.int (nI i), .ref 20, .long (10 * v)], wd C (upd Y.1 11 (bz rl), Y.2) og)) rfl ?_
                  refine am_iald_r ok_M_asNumber rfl (w := wd C (upd Y.1 11 (bz rl), Y.2) og) (f := Y.2.1 0) rfl rfl (pk_in i 1600 (by omega)) ?_
                  rw [nI_clamp (show i < 2 ^ 31 by omega)]
                  rw [hrd]
                  refine am_steps_r ok_M_asNumber 8 (q' := (77, [some (.ref 19), some (.int (nI p)), some (.int (nI e)), some (.int ((nI i) + 1)), some (.int (nI sg)), some (.int (bz ls)), some (.long (((10 * v) + (b i).toInt64) - 48)), none, some (.int (nI (bf + 1))), some (.int (nI bh)), none], [], wd C (upd Y.1 11 (bz rl), Y.2) og)) rfl ?_
                  rw [show ((nI i) + 1 : Int32) = nI (i + 1) from nI_add i 1]
                  refine am_eq_r (q' := (77, [some (.ref 19), some (.int (nI p)), some (.int (nI e)), some (.int (nI (i + 1))), some (.int (nI sg)), some (.int (bz ls)), some (.long (((10 * v) + (b i).toInt64) - 48)), none, some (.int (nI (bf + 1))), some (.int (nI bh)), none], [], wd C (upd Y.1 11 (bz rl), Y.2) og)) rfl ?_
                  refine ih post (i + 1) rl (bf + 1) bh (((10 * v) + (b i).toInt64) - 48) (s * 10 + (b i).toInt64 - 48) (by omega) (by omega) (by omega) (fun h1 h2 => by first | (exfalso; omega) | rw [hv (by omega) (by omega), Int64.mul_comm]) (fun vr w' hw => hpo vr w' ?_) (by omega)
                  rw [show e - i = (e - (i + 1)) + 1 by omega]
                  rw [nbB_fig (by rintro ⟨z1, z2⟩; first | contradiction | simp_all) (by assumption)]
                  simp only [*, Bool.toNat_false, Bool.toNat_true, Nat.add_zero, Nat.sub_self, Nat.sub_zero] at hw ⊢
                  exact hw
                · skip
                  have h_15 : ¬ bh ≤ 6 := fun z => h_15 ((nI_leI (show bh < 2 ^ 31 by omega) (show 6 < 2 ^ 31 by omega)).mpr z)
                  refine am_steps_r ok_M_asNumber 6 (q' := (77, [some (.ref 19), some (.int (nI p)), some (.int (nI e)), some (.int ((nI i) + 1)), some (.int (nI sg)), some (.int (bz ls)), some (.long v), none, some (.int (nI (bf + 1))), some (.int (nI bh)), none], [], wd C (upd Y.1 11 (bz rl), Y.2) og)) rfl ?_
                  rw [show ((nI i) + 1 : Int32) = nI (i + 1) from nI_add i 1]
                  refine am_eq_r (q' := (77, [some (.ref 19), some (.int (nI p)), some (.int (nI e)), some (.int (nI (i + 1))), some (.int (nI sg)), some (.int (bz ls)), some (.long v), none, some (.int (nI (bf + 1))), some (.int (nI bh)), none], [], wd C (upd Y.1 11 (bz rl), Y.2) og)) rfl ?_
                  refine ih post (i + 1) rl (bf + 1) bh v (s * 10 + (b i).toInt64 - 48) (by omega) (by omega) (by omega) (fun h1 h2 => by first | (exfalso; omega) | rw [hv (by omega) (by omega), Int64.mul_comm]) (fun vr w' hw => hpo vr w' ?_) (by omega)
                  rw [show e - i = (e - (i + 1)) + 1 by omega]
                  rw [nbB_fig (by rintro ⟨z1, z2⟩; first | contradiction | simp_all) (by assumption)]
                  simp only [*, Bool.toNat_false, Bool.toNat_true, Nat.add_zero, Nat.sub_self, Nat.sub_zero] at hw ⊢
                  exact hw
        · skip
          refine am_steps_r ok_M_asNumber 1 (q' := (201, [some (.ref 19), some (.int (nI p)), some (.int (nI e)), some (.int (nI i)), some (.int (nI sg)), some (.int (bz ls)), some (.long v), none, some (.int (nI bf)), some (.int (nI bh)), none], [.int 0], wd C (upd Y.1 11 (bz rl), Y.2) og)) rfl ?_
          refine am_iret_r ok_M_asNumber rfl rfl rfl ?_
          refine hpo _ _ ⟨_, rfl, ⟨fun j1 h9 h11 => by simp [upd, h11], rfl, rfl⟩, ?_⟩
          rw [show e - i = (e - (i + 1)) + 1 by omega, nbB_bad (by rintro ⟨z1, z2⟩; first | contradiction | simp_all) (by first | assumption | (rw [show b i = 46 by assumption]; decide))]
set_option maxHeartbeats 2000000 in
set_option maxRecDepth 100000 in
theorem lp_M_asNumber_2 (d : Nat) (C : wd_C) (Y : wd_Y) (og : Nat → Int64) (n : Nat) (b : Nat → Int32) (hT : tpY Y n b) (p e : Nat) (hpe : p < e) (hen : e ≤ n)  : ∀ (fu : Nat) (post : Option Value → am_W → Prop) (i : Nat), (p ≤ i) → (i ≤ e) → (∀ j, p ≤ j → j < i → b j = 43 ∨ b j = 45) → (∀ vr w', anQ Y C og b p (nbA b (e - i) i (i - p)) vr w' → post vr w') → e - i < fu → am_Rn l D cA ad fm (d + 1) m_M_asNumber (wd C Y og).length post (2, [some (.ref 19), some (.int (nI p)), some (.int (nI e)), some (.int (nI i)), none, none, none, none, none, none, none], [], wd C Y og) := by
  intro fu
  induction fu with
  | zero => intro post i hpi hie hsn hpo hfu; exact absurd hfu (Nat.not_lt_zero _)
  | succ fu ih =>
    intro post i hpi hie hsn hpo hfu
    have hn := hT.2.1
    refine am_steps_r ok_M_asNumber 3 (q' := (bif decide ((nI e) ≤ (nI i)) then 35 else 7, [some (.ref 19), some (.int (nI p)), some (.int (nI e)), some (.int (nI i)), none, none, none, none, none, none, none], [], wd C Y og)) rfl ?_
    refine am_br_r (fun h_1 => ?_) (fun h_1 => ?_)
    · skip
      have h_1 : e ≤ i := (nI_leI (show e < 2 ^ 31 by omega) (show i < 2 ^ 31 by omega)).mp h_1
      refine am_steps_r ok_M_asNumber 6 (q' := (bif decide (((nI i) - (nI p)) ≤ 0) then 60 else 45, [some (.ref 19), some (.int (nI p)), some (.int (nI e)), some (.int (nI i)), some (.int ((nI i) - (nI p))), none, none, none, none, none, none], [], wd C Y og)) rfl ?_
      rw [show ((nI i) - (nI p) : Int32) = nI (i - p) from pk_sub (a := i) (b := p) (by omega)]
      refine am_br_r (fun h_2 => ?_) (fun h_2 => ?_)
      · skip
        have h_2 : (i - p) ≤ 0 := (nI_leI (show (i - p) < 2 ^ 31 by omega) (show 0 < 2 ^ 31 by omega)).mp h_2
        refine am_steps_r ok_M_asNumber 10 (q' := (74, [some (.ref 19), some (.int (nI p)), some (.int (nI e)), some (.int (nI i)), some (.int (nI (i - p))), some (.int 0), some (.long 0), none, some (.int 0), some (.int 0), none], [.int 0, .ref 19], wd C Y og)) rfl ?_
        refine am_putz_r ok_M_asNumber (cj := 0) rfl rfl (w := wd C Y og) rfl (Nat.le_of_ble_eq_true rfl) rfl rfl ?_
        refine am_eq_r (q' := (77, [some (.ref 19), some (.int (nI p)), some (.int (nI e)), some (.int (nI i)), some (.int (nI (i - p))), some (.int 0), some (.long 0), none, some (.int 0), some (.int 0), none], [], wd C (upd Y.1 11 0, Y.2) og)) rfl ?_
        refine am_eq_r (q' := (77, [some (.ref 19), some (.int (nI p)), some (.int (nI e)), some (.int (nI i)), some (.int (nI (i - p))), some (.int (bz false)), some (.long 0), none, some (.int (nI 0)), some (.int (nI 0)), none], [], wd C (upd Y.1 11 (bz false), Y.2) og)) rfl ?_
        have hns : 0 < e - i → ¬ b i = 43 ∧ ¬ b i = 45 := fun z => by first | (exfalso; omega) | exact ⟨by assumption, by assumption⟩
        have hls : false = true ↔ b p = 45 := ⟨fun z => (by cases z), fun z => by
          exfalso
          by_cases ei : i = p
          · subst ei; exact (hns (by omega)).2 z
          · first | contradiction | omega⟩
        refine lp_M_asNumber_77 d C Y og n b hT p e hpe hen (i - p) false (by omega) hls 2000 _ i false 0 0 0 0 (by omega) (by omega) (by omega) (fun _ _ => rfl) (fun vr w' hw => hpo vr w' ?_) (by omega)
        rw [nbA_st hns]
        exact hw
      · skip
        have h_2 : ¬ (i - p) ≤ 0 := fun z => h_2 ((nI_leI (show (i - p) < 2 ^ 31 by omega) (show 0 < 2 ^ 31 by omega)).mpr z)
        have hrp := hT.2.2.1 p (by omega)
        refine am_steps_r ok_M_asNumber 3 (q' := (50, [some (.ref 19), some (.int (nI p)), some (.int (nI e)), some (.int (nI i)), some (.int (nI (i - p))), none, none, none, none, none, none], [.int (nI p), .ref 20], wd C Y og)) rfl ?_
        refine am_iald_r ok_M_asNumber rfl (w := wd C Y og) (f := Y.2.1 0) rfl rfl (pk_in p 1600 (by omega)) ?_
        rw [nI_clamp (show p < 2 ^ 31 by omega)]
        rw [hrp]
        refine am_steps_r ok_M_asNumber 2 (q' := (bif decide ((b p) = 45) then 56 else 60, [some (.ref 19), some (.int (nI p)), some (.int (nI e)), some (.int (nI i)), some (.int (nI (i - p))), none, none, none, none, none, none], [], wd C Y og)) rfl ?_
        refine am_br_r (fun h_3 => ?_) (fun h_3 => ?_)
        · skip
          refine am_steps_r ok_M_asNumber 11 (q' := (74, [some (.ref 19), some (.int (nI p)), some (.int (nI e)), some (.int (nI i)), some (.int (nI (i - p))), some (.int 1), some (.long 0), none, some (.int 0), some (.int 0), none], [.int 0, .ref 19], wd C Y og)) rfl ?_
          refine am_putz_r ok_M_asNumber (cj := 0) rfl rfl (w := wd C Y og) rfl (Nat.le_of_ble_eq_true rfl) rfl rfl ?_
          refine am_eq_r (q' := (77, [some (.ref 19), some (.int (nI p)), some (.int (nI e)), some (.int (nI i)), some (.int (nI (i - p))), some (.int 1), some (.long 0), none, some (.int 0), some (.int 0), none], [], wd C (upd Y.1 11 0, Y.2) og)) rfl ?_
          refine am_eq_r (q' := (77, [some (.ref 19), some (.int (nI p)), some (.int (nI e)), some (.int (nI i)), some (.int (nI (i - p))), some (.int (bz true)), some (.long 0), none, some (.int (nI 0)), some (.int (nI 0)), none], [], wd C (upd Y.1 11 (bz false), Y.2) og)) rfl ?_
          have hns : 0 < e - i → ¬ b i = 43 ∧ ¬ b i = 45 := fun z => by first | (exfalso; omega) | exact ⟨by assumption, by assumption⟩
          have hls : true = true ↔ b p = 45 := ⟨fun _ => by assumption, fun _ => rfl⟩
          refine lp_M_asNumber_77 d C Y og n b hT p e hpe hen (i - p) true (by omega) hls 2000 _ i false 0 0 0 0 (by omega) (by omega) (by omega) (fun _ _ => rfl) (fun vr w' hw => hpo vr w' ?_) (by omega)
          rw [nbA_st hns]
          exact hw
        · skip
          refine am_steps_r ok_M_asNumber 10 (q' := (74, [some (.ref 19), some (.int (nI p)), some (.int (nI e)), some (.int (nI i)), some (.int (nI (i - p))), some (.int 0), some (.long 0), none, some (.int 0), some (.int 0), none], [.int 0, .ref 19], wd C Y og)) rfl ?_
          refine am_putz_r ok_M_asNumber (cj := 0) rfl rfl (w := wd C Y og) rfl (Nat.le_of_ble_eq_true rfl) rfl rfl ?_
          refine am_eq_r (q' := (77, [some (.ref 19), some (.int (nI p)), some (.int (nI e)), some (.int (nI i)), some (.int (nI (i - p))), some (.int 0), some (.long 0), none, some (.int 0), some (.int 0), none], [], wd C (upd Y.1 11 0, Y.2) og)) rfl ?_
          refine am_eq_r (q' := (77, [some (.ref 19), some (.int (nI p)), some (.int (nI e)), some (.int (nI i)), some (.int (nI (i - p))), some (.int (bz false)), some (.long 0), none, some (.int (nI 0)), some (.int (nI 0)), none], [], wd C (upd Y.1 11 (bz false), Y.2) og)) rfl ?_
          have hns : 0 < e - i → ¬ b i = 43 ∧ ¬ b i = 45 := fun z => by first | (exfalso; omega) | exact ⟨by assumption, by assumption⟩
          have hls : false = true ↔ b p = 45 := ⟨fun z => (by cases z), fun z => by
            exfalso
            by_cases ei : i = p
            · subst ei; exact (hns (by omega)).2 z
            · first | contradiction | omega⟩
          refine lp_M_asNumber_77 d C Y og n b hT p e hpe hen (i - p) false (by omega) hls 2000 _ i false 0 0 0 0 (by omega) (by omega) (by omega) (fun _ _ => rfl) (fun vr w' hw => hpo vr w' ?_) (by omega)
          rw [nbA_st hns]
          exact hw
    · skip
      have h_1 : ¬ e ≤ i := fun z => h_1 ((nI_leI (show e < 2 ^ 31 by omega) (show i < 2 ^ 31 by omega)).mpr z)
      have hrd := hT.2.2.1 i (by omega)
      refine am_steps_r ok_M_asNumber 3 (q' := (12, [some (.ref 19), some (.int (nI p)), some (.int (nI e)), some (.int (nI i)), none, none, none, none, none, none, none], [.int (nI i), .ref 20], wd C Y og)) rfl ?_
      refine am_iald_r ok_M_asNumber rfl (w := wd C Y og) (f := Y.2.1 0) rfl rfl (pk_in i 1600 (by omega)) ?_
      rw [nI_clamp (show i < 2 ^ 31 by omega)]
      rw [hrd]
      refine am_steps_r ok_M_asNumber 2 (q' := (bif decide ((b i) = 43) then 29 else 18, [some (.ref 19), some (.int (nI p)), some (.int (nI e)), some (.int (nI i)), none, none, none, none, none, none, none], [], wd C Y og)) rfl ?_
      refine am_br_r (fun h_4 => ?_) (fun h_4 => ?_)
      · skip
        refine am_steps_r ok_M_asNumber 2 (q' := (2, [some (.ref 19), some (.int (nI p)), some (.int (nI e)), some (.int ((nI i) + 1)), none, none, none, none, none, none, none], [], wd C Y og)) rfl ?_
        rw [show ((nI i) + 1 : Int32) = nI (i + 1) from nI_add i 1]
        refine ih post (i + 1) (by omega) (by omega) (fun j a1 a2 => by by_cases ej : j = i; (subst ej; first | exact Or.inl (by assumption) | exact Or.inr (by assumption)); exact hsn j a1 (by omega)) (fun vr w' hw => hpo vr w' ?_) (by omega)
        rw [show e - i = (e - (i + 1)) + 1 by omega, nbA_sg (by first | exact Or.inl (by assumption) | exact Or.inr (by assumption)), show i - p + 1 = i + 1 - p by omega]
        exact hw
      · skip
        refine am_steps_r ok_M_asNumber 3 (q' := (23, [some (.ref 19), some (.int (nI p)), some (.int (nI e)), some (.int (nI i)), none, none, none, none, none, none, none], [.int (nI i), .ref 20], wd C Y og)) rfl ?_
        refine am_iald_r ok_M_asNumber rfl (w := wd C Y og) (f := Y.2.1 0) rfl rfl (pk_in i 1600 (by omega)) ?_
        rw [nI_clamp (show i < 2 ^ 31 by omega)]
        rw [hrd]
        refine am_steps_r ok_M_asNumber 2 (q' := (bif decide ((b i) = 45) then 29 else 35, [some (.ref 19), some (.int (nI p)), some (.int (nI e)), some (.int (nI i)), none, none, none, none, none, none, none], [], wd C Y og)) rfl ?_
        refine am_br_r (fun h_5 => ?_) (fun h_5 => ?_)
        · skip
          refine am_steps_r ok_M_asNumber 2 (q' := (2, [some (.ref 19), some (.int (nI p)), some (.int (nI e)), some (.int ((nI i) + 1)), none, none, none, none, none, none, none], [], wd C Y og)) rfl ?_
          rw [show ((nI i) + 1 : Int32) = nI (i + 1) from nI_add i 1]
          refine ih post (i + 1) (by omega) (by omega) (fun j a1 a2 => by by_cases ej : j = i; (subst ej; first | exact Or.inl (by assumption) | exact Or.inr (by assumption)); exact hsn j a1 (by omega)) (fun vr w' hw => hpo vr w' ?_) (by omega)
          rw [show e - i = (e - (i + 1)) + 1 by omega, nbA_sg (by first | exact Or.inl (by assumption) | exact Or.inr (by assumption)), show i - p + 1 = i + 1 - p by omega]
          exact hw
        · skip
          refine am_steps_r ok_M_asNumber 6 (q' := (bif decide (((nI i) - (nI p)) ≤ 0) then 60 else 45, [some (.ref 19), some (.int (nI p)), some (.int (nI e)), some (.int (nI i)), some (.int ((nI i) - (nI p))), none, none, none, none, none, none], [], wd C Y og)) rfl ?_
          rw [show ((nI i) - (nI p) : Int32) = nI (i - p) from pk_sub (a := i) (b := p) (by omega)]
          refine am_br_r (fun h_6 => ?_) (fun h_6 => ?_)
          · skip
            have h_6 : (i - p) ≤ 0 := (nI_leI (show (i - p) < 2 ^ 31 by omega) (show 0 < 2 ^ 31 by omega)).mp h_6
            refine am_steps_r ok_M_asNumber 10 (q' := (74, [some (.ref 19), some (.int (nI p)), some (.int (nI e)), some (.int (nI i)), some (.int (nI (i - p))), some (.int 0), some (.long 0), none, some (.int 0), some (.int 0), none], [.int 0, .ref 19], wd C Y og)) rfl ?_
            refine am_putz_r ok_M_asNumber (cj := 0) rfl rfl (w := wd C Y og) rfl (Nat.le_of_ble_eq_true rfl) rfl rfl ?_
            refine am_eq_r (q' := (77, [some (.ref 19), some (.int (nI p)), some (.int (nI e)), some (.int (nI i)), some (.int (nI (i - p))), some (.int 0), some (.long 0), none, some (.int 0), some (.int 0), none], [], wd C (upd Y.1 11 0, Y.2) og)) rfl ?_
            refine am_eq_r (q' := (77, [some (.ref 19), some (.int (nI p)), some (.int (nI e)), some (.int (nI i)), some (.int (nI (i - p))), some (.int (bz false)), some (.long 0), none, some (.int (nI 0)), some (.int (nI 0)), none], [], wd C (upd Y.1 11 (bz false), Y.2) og)) rfl ?_
            have hns : 0 < e - i → ¬ b i = 43 ∧ ¬ b i = 45 := fun z => by first | (exfalso; omega) | exact ⟨by assumption, by assumption⟩
            have hls : false = true ↔ b p = 45 := ⟨fun z => (by cases z), fun z => by
              exfalso
              by_cases ei : i = p
              · subst ei; exact (hns (by omega)).2 z
              · first | contradiction | omega⟩
            refine lp_M_asNumber_77 d C Y og n b hT p e hpe hen (i - p) false (by omega) hls 2000 _ i false 0 0 0 0 (by omega) (by omega) (by omega) (fun _ _ => rfl) (fun vr w' hw => hpo vr w' ?_) (by omega)
            rw [nbA_st hns]
            exact hw
          · skip
            have h_6 : ¬ (i - p) ≤ 0 := fun z => h_6 ((nI_leI (show (i - p) < 2 ^ 31 by omega) (show 0 < 2 ^ 31 by omega)).mpr z)
            have hrp := hT.2.2.1 p (by omega)
            refine am_steps_r ok_M_asNumber 3 (q' := (50, [some (.ref 19), some (.int (nI p)), some (.int (nI e)), some (.int (nI i)), some (.int (nI (i - p))), none, none, none, none, none, none], [.int (nI p), .ref 20], wd C Y og)) rfl ?_
            refine am_iald_r ok_M_asNumber rfl (w := wd C Y og) (f := Y.2.1 0) rfl rfl (pk_in p 1600 (by omega)) ?_
            rw [nI_clamp (show p < 2 ^ 31 by omega)]
            rw [hrp]
            refine am_steps_r ok_M_asNumber 2 (q' := (bif decide ((b p) = 45) then 56 else 60, [some (.ref 19), some (.int (nI p)), some (.int (nI e)), some (.int (nI i)), some (.int (nI (i - p))), none, none, none, none, none, none], [], wd C Y og)) rfl ?_
            refine am_br_r (fun h_7 => ?_) (fun h_7 => ?_)
            · skip
              refine am_steps_r ok_M_asNumber 11 (q' := (74, [some (.ref 19), some (.int (nI p)), some (.int (nI e)), some (.int (nI i)), some (.int (nI (i - p))), some (.int 1), some (.long 0), none, some (.int 0), some (.int 0), none], [.int 0, .ref 19], wd C Y og)) rfl ?_
              refine am_putz_r ok_M_asNumber (cj := 0) rfl rfl (w := wd C Y og) rfl (Nat.le_of_ble_eq_true rfl) rfl rfl ?_
              refine am_eq_r (q' := (77, [some (.ref 19), some (.int (nI p)), some (.int (nI e)), some (.int (nI i)), some (.int (nI (i - p))), some (.int 1), some (.long 0), none, some (.int 0), some (.int 0), none], [], wd C (upd Y.1 11 0, Y.2) og)) rfl ?_
              refine am_eq_r (q' := (77, [some (.ref 19), some (.int (nI p)), some (.int (nI e)), some (.int (nI i)), some (.int (nI (i - p))), some (.int (bz true)), some (.long 0), none, some (.int (nI 0)), some (.int (nI 0)), none], [], wd C (upd Y.1 11 (bz false), Y.2) og)) rfl ?_
              have hns : 0 < e - i → ¬ b i = 43 ∧ ¬ b i = 45 := fun z => by first | (exfalso; omega) | exact ⟨by assumption, by assumption⟩
              have hls : true = true ↔ b p = 45 := ⟨fun _ => by assumption, fun _ => rfl⟩
              refine lp_M_asNumber_77 d C Y og n b hT p e hpe hen (i - p) true (by omega) hls 2000 _ i false 0 0 0 0 (by omega) (by omega) (by omega) (fun _ _ => rfl) (fun vr w' hw => hpo vr w' ?_) (by omega)
              rw [nbA_st hns]
              exact hw
            · skip
              refine am_steps_r ok_M_asNumber 10 (q' := (74, [some (.ref 19), some (.int (nI p)), some (.int (nI e)), some (.int (nI i)), some (.int (nI (i - p))), some (.int 0), some (.long 0), none, some (.int 0), some (.int 0), none], [.int 0, .ref 19], wd C Y og)) rfl ?_
              refine am_putz_r ok_M_asNumber (cj := 0) rfl rfl (w := wd C Y og) rfl (Nat.le_of_ble_eq_true rfl) rfl rfl ?_
              refine am_eq_r (q' := (77, [some (.ref 19), some (.int (nI p)), some (.int (nI e)), some (.int (nI i)), some (.int (nI (i - p))), some (.int 0), some (.long 0), none, some (.int 0), some (.int 0), none], [], wd C (upd Y.1 11 0, Y.2) og)) rfl ?_
              refine am_eq_r (q' := (77, [some (.ref 19), some (.int (nI p)), some (.int (nI e)), some (.int (nI i)), some (.int (nI (i - p))), some (.int (bz false)), some (.long 0), none, some (.int (nI 0)), some (.int (nI 0)), none], [], wd C (upd Y.1 11 (bz false), Y.2) og)) rfl ?_
              have hns : 0 < e - i → ¬ b i = 43 ∧ ¬ b i = 45 := fun z => by first | (exfalso; omega) | exact ⟨by assumption, by assumption⟩
              have hls : false = true ↔ b p = 45 := ⟨fun z => (by cases z), fun z => by
                exfalso
                by_cases ei : i = p
                · subst ei; exact (hns (by omega)).2 z
                · first | contradiction | omega⟩
              refine lp_M_asNumber_77 d C Y og n b hT p e hpe hen (i - p) false (by omega) hls 2000 _ i false 0 0 0 0 (by omega) (by omega) (by omega) (fun _ _ => rfl) (fun vr w' hw => hpo vr w' ?_) (by omega)
              rw [nbA_st hns]
              exact hw
set_option maxHeartbeats 2000000 in
set_option maxRecDepth 100000 in
theorem c_M_asNumber (d : Nat) (C : wd_C) (Y : wd_Y) (og : Nat → Int64) (n : Nat) (b : Nat → Int32) (hT : tpY Y n b) (p e : Nat) (hpe : p < e) (hen : e ≤ n)  : am_Mt l D cA ad fm (d + 1) m_M_asNumber [.ref 19, .int (nI p), .int (nI e)] (wd C Y og) (anQ Y C og b p (nbA b (e - p) p 0)) := by
  have hn := hT.2.1
  refine am_mt ok_M_asNumber (by simp [am_arg, Value.category, m_M_asNumber, am_ml]) ?_
  refine am_eq_r (q' := (0, [some (.ref 19), some (.int (nI p)), some (.int (nI e)), none, none, none, none, none, none, none, none], [], wd C Y og)) rfl ?_
  refine am_steps_r ok_M_asNumber 2 (q' := (2, [some (.ref 19), some (.int (nI p)), some (.int (nI e)), some (.int (nI p)), none, none, none, none, none, none, none], [], wd C Y og)) rfl ?_
  have hlp := lp_M_asNumber_2 (l := l) (D := D) (cA := cA) (ad := ad) (fm := fm) d C Y og n b hT p e hpe hen 2000 (anQ Y C og b p (nbA b (e - p) p 0)) p (by omega) (by omega) (fun j a1 a2 => by omega) (fun vr w' hw => by rw [Nat.sub_self] at hw; exact hw) (by omega)
  exact hlp
end C52
