/-! the component reads a name; printed by wip/gen/g43.py -/
theorem lfC_len {C0 C : wd_C} {nv u : Nat} {V : VT} {kd : Int32} {nu : Int64} {acc : List Int32} (h : lfC C0 C nv u V kd nu acc) : C.2.1 3 nv = nI acc.length := by
  obtain ⟨s, -, s2, -⟩ := (h.1.2.1 nv (by omega)).2.2.2.2.2.2.1
  rw [vtLeaf_bs] at s2
  exact s2
section C43
variable {l : Launch} {D : va_G} {cA : Nat → ClassId} {ad : Nat → Nat} {fm : Value}
set_option maxHeartbeats 400000 in
set_option maxRecDepth 100000 in
theorem c_R_putByte (d : Nat) (C : wd_C) (Y : wd_Y) (og : Nat → Int64) (C0 : wd_C) (nv u : Nat) (V : VT) (kd : Int32) (nu : Int64) (acc : List Int32) (hL : lfC C0 C nv u V kd nu acc) (hu : u + acc.length < 2000) (x : Int32) (hx : isB x) (m : Nat) (hm : m < 1000) (p k : Nat) (ha : C.1 4 = nI k) : am_Mt l D cA ad fm (d + 1) m_R_putByte [.ref 16, .int (nI nv), .int x, .int (nI m), .int (nI p)] (wd C Y og) (fun vr w' => (acc.length < m ∧ vr = some (.int 1) ∧ ∃ C' : wd_C, w' = wd C' Y og ∧ C'.1 4 = nI k ∧ lfC C0 C' nv u V kd nu (acc ++ [x])) ∨ (m ≤ acc.length ∧ vr = some (.int 0) ∧ w' = wd (upd (upd C.1 5 3) 6 (nI p), C.2) Y og)) := by
  have hal := hL.1.1.2.2.2
  refine am_mt ok_R_putByte (by simp [am_arg, Value.category, m_R_putByte, am_ml]) ?_
  refine am_eq_r (q' := (0, [some (.ref 16), some (.int (nI nv)), some (.int x), some (.int (nI m)), some (.int (nI p))], [], wd C Y og)) rfl ?_
  refine am_steps_r ok_R_putByte 3 (q' := (5, [some (.ref 16), some (.int (nI nv)), some (.int x), some (.int (nI m)), some (.int (nI p))], [.int (nI nv), .ref 3], wd C Y og)) rfl ?_
  refine am_callV_r (As := [.int (nI nv)]) (rest := []) ok_R_putByte rfl rfl ok_V_lengthOf oi_V_lengthOf lk_1_200 (Or.inl ⟨_, _, _, rfl, rfl, rfl⟩) rfl rfl (Nat.le_of_ble_eq_true rfl) (c_V_lengthOf_in _ C Y og (nv + 1) (u + acc.length) hL.1.1 nv (by omega)) ?_
  rintro v_ w_ ⟨rfl, rfl⟩ -
  rw [lfC_len hL]
  refine am_eq_r (q' := (8, [some (.ref 16), some (.int (nI nv)), some (.int x), some (.int (nI m)), some (.int (nI p))], [.int (nI acc.length)], wd C Y og)) rfl ?_
  refine am_steps_r ok_R_putByte 2 (q' := (bif decide ((nI acc.length) < (nI m)) then 22 else 12, [some (.ref 16), some (.int (nI nv)), some (.int x), some (.int (nI m)), some (.int (nI p))], [], wd C Y og)) rfl ?_
  refine am_br_r (fun h_1 => ?_) (fun h_1 => ?_)
  · skip
    have h_1 : acc.length < m := (nI_ltI (show acc.length < 2 ^ 31 by omega) (show m < 2 ^ 31 by omega)).mp h_1
    refine am_steps_r ok_R_putByte 4 (q' := (28, [some (.ref 16), some (.int (nI nv)), some (.int x), some (.int (nI m)), some (.int (nI p))], [.int x, .int (nI nv), .ref 3], wd C Y og)) rfl ?_
    refine am_callV_r (As := [.int (nI nv), .int x]) (rest := []) ok_R_putByte rfl rfl ok_V_addByte oi_V_addByte lk_1_203 (Or.inl ⟨_, _, _, rfl, rfl, rfl⟩) rfl rfl (Nat.le_of_ble_eq_true rfl) (c_V_addByte_in _ C Y og (nv + 1) (u + acc.length) hL.1.1 nv (by omega) hu x) ?_
    rintro v_ w_ ⟨rfl, rfl⟩ -
    refine am_eq_r (q' := (31, [some (.ref 16), some (.int (nI nv)), some (.int x), some (.int (nI m)), some (.int (nI p))], [.int 1], wd (vByte C nv (u + acc.length) x) Y og)) rfl ?_
    refine am_steps_r ok_R_putByte 2 (q' := (46, [some (.ref 16), some (.int (nI nv)), some (.int x), some (.int (nI m)), some (.int (nI p))], [.int 1], wd (vByte C nv (u + acc.length) x) Y og)) rfl ?_
    refine am_zret_r ok_R_putByte rfl rfl rfl rfl ?_
    exact Or.inl ⟨by omega, rfl, _, rfl, ha, lfC_byte hL hu hx⟩
  · skip
    have h_1 : ¬ acc.length < m := fun z => h_1 ((nI_ltI (show acc.length < 2 ^ 31 by omega) (show m < 2 ^ 31 by omega)).mpr z)
    refine am_steps_r ok_R_putByte 3 (q' := (16, [some (.ref 16), some (.int (nI nv)), some (.int x), some (.int (nI m)), some (.int (nI p))], [.int (nI p), .int 3, .ref 16], wd C Y og)) rfl ?_
    refine am_callV_r (As := [.int 3, .int (nI p)]) (rest := []) ok_R_putByte rfl rfl ok_R_fail oi_R_fail lk_1_122 (Or.inl ⟨_, _, _, rfl, rfl, rfl⟩) rfl rfl (Nat.le_of_ble_eq_true rfl) (c_R_fail _ C Y og 3 (nI p)) ?_
    rintro v_ w_ ⟨rfl, rfl⟩ -
    refine am_eq_r (q' := (19, [some (.ref 16), some (.int (nI nv)), some (.int x), some (.int (nI m)), some (.int (nI p))], [.int (-1)], wd (upd (upd C.1 5 3) 6 (nI p), C.2) Y og)) rfl ?_
    refine am_steps_r ok_R_putByte 2 (q' := (21, [some (.ref 16), some (.int (nI nv)), some (.int x), some (.int (nI m)), some (.int (nI p))], [.int 0], wd (upd (upd C.1 5 3) 6 (nI p), C.2) Y og)) rfl ?_
    refine am_zret_r ok_R_putByte rfl rfl rfl rfl ?_
    exact Or.inr ⟨by omega, rfl, rfl⟩
set_option maxHeartbeats 400000 in
set_option maxRecDepth 100000 in
theorem lp_R_readName_39 (d : Nat) (Y : wd_Y) (og : Nat → Int64) (n : Nat) (b : Nat → Int32) (C0 : wd_C) (hT0 : tpC C0 n b) (nv u : Nat) (V : VT) (p e : Nat) (hp : p < n) (he : e = wEnd n b (p + 1)) (hup : u ≤ p)  : ∀ (fu : Nat) (post : Option Value → am_W → Prop) (C : wd_C) (k st : Nat) (acc : List Int32), (lfC C0 C nv u V 4 0 acc) → (C.1 4 = nI k) → (p + 1 + st ≤ k) → (k ≤ e) → (u + acc.length < k) → (∀ vr w', lfP C0 Y og nv u V (nmL p (nmR b e fu k acc)) vr w' → post vr w') → e - k < fu → am_Rn l D cA ad fm (d + 6) m_R_readName (wd C Y og).length post (39, [some (.ref 16), some (.int (nI nv)), some (.int (nI p)), some (.int (nI e)), some (.int (nI st)), none, none, none, none], [], wd C Y og) := by
  intro fu
  induction fu with
  | zero => intro post C k st acc hL ha hk hke hacc hpo hfu; exact absurd hfu (Nat.not_lt_zero _)
  | succ fu ih =>
    intro post C k st acc hL ha hk hke hacc hpo hfu
    have hT := tpC_f hT0 hL.2.2.1
    have hn := hT.2.1
    have hal := hL.1.1.2.1
    have hen := wEnd_le n b (k := p + 1) (by omega)
    refine am_steps_r ok_R_readName 3 (q' := (bif decide (1600 ≤ (nI st)) then 206 else 47, [some (.ref 16), some (.int (nI nv)), some (.int (nI p)), some (.int (nI e)), some (.int (nI st)), none, none, none, none], [], wd C Y og)) rfl ?_
    refine am_br_r (fun h_1 => ?_) (fun h_1 => ?_)
    · skip
      have h_1 : 1600 ≤ st := (nI_leI (show 1600 < 2 ^ 31 by omega) (show st < 2 ^ 31 by omega)).mp h_1
      refine am_steps_r ok_R_readName 1 (q' := (207, [some (.ref 16), some (.int (nI nv)), some (.int (nI p)), some (.int (nI e)), some (.int (nI st)), none, none, none, none], [.int (nI nv)], wd C Y og)) rfl ?_
      refine am_iret_r ok_R_readName rfl rfl rfl ?_
      first | (exfalso; omega) | (refine hpo _ _ ?_; rw [nmR_end (by omega)]; exact lfP_ok hL ha)
    · skip
      have h_1 : ¬ 1600 ≤ st := fun z => h_1 ((nI_leI (show 1600 < 2 ^ 31 by omega) (show st < 2 ^ 31 by omega)).mpr z)
      refine am_steps_r ok_R_readName 4 (q' := (bif decide ((nI e) ≤ (C.1 4)) then 206 else 55, [some (.ref 16), some (.int (nI nv)), some (.int (nI p)), some (.int (nI e)), some (.int (nI st)), none, none, none, none], [], wd C Y og)) rfl ?_
      rw [show (C.1 4 : Int32) = nI k from ha]
      refine am_br_r (fun h_2 => ?_) (fun h_2 => ?_)
      · skip
        have h_2 : e ≤ k := (nI_leI (show e < 2 ^ 31 by omega) (show k < 2 ^ 31 by omega)).mp h_2
        refine am_steps_r ok_R_readName 1 (q' := (207, [some (.ref 16), some (.int (nI nv)), some (.int (nI p)), some (.int (nI e)), some (.int (nI st)), none, none, none, none], [.int (nI nv)], wd C Y og)) rfl ?_
        refine am_iret_r ok_R_readName rfl rfl rfl ?_
        first | (exfalso; omega) | (refine hpo _ _ ?_; rw [nmR_end (by omega)]; exact lfP_ok hL ha)
      · skip
        have h_2 : ¬ e ≤ k := fun z => h_2 ((nI_leI (show e < 2 ^ 31 by omega) (show k < 2 ^ 31 by omega)).mpr z)
        refine am_steps_r ok_R_readName 4 (q' := (63, [some (.ref 16), some (.int (nI nv)), some (.int (nI p)), some (.int (nI e)), some (.int (nI st)), none, none, none, none], [.int (C.1 4), .ref 1], wd C Y og)) rfl ?_
        rw [show (C.1 4 : Int32) = nI k from ha]
        refine am_callV_r (As := [.int (nI k)]) (rest := []) ok_R_readName rfl rfl ok_T_at oi_T_at lk_1_125 (Or.inl ⟨_, _, _, rfl, rfl, rfl⟩) rfl rfl (Nat.le_of_ble_eq_true rfl) (c_T_at _ C Y og n b hT k (by omega)) ?_
        rintro v_ w_ ⟨rfl, rfl⟩ -
        refine am_eq_r (q' := (66, [some (.ref 16), some (.int (nI nv)), some (.int (nI p)), some (.int (nI e)), some (.int (nI st)), none, none, none, none], [.int (b k)], wd C Y og)) rfl ?_
        refine am_steps_r ok_R_readName 7 (q' := (78, [some (.ref 16), some (.int (nI nv)), some (.int (nI p)), some (.int (nI e)), some (.int (nI st)), some (.int (b k)), none, none, none], [.int ((C.1 4) + 1), .ref 1], wd C Y og)) rfl ?_
        rw [show (C.1 4 : Int32) = nI k from ha]
        rw [show ((nI k) + 1 : Int32) = nI (k + 1) from nI_add k 1]
        refine am_callV_r (As := [.int (nI (k + 1))]) (rest := []) ok_R_readName rfl rfl ok_T_at oi_T_at lk_1_125 (Or.inl ⟨_, _, _, rfl, rfl, rfl⟩) rfl rfl (Nat.le_of_ble_eq_true rfl) (c_T_at _ C Y og n b hT (k + 1) (by omega)) ?_
        rintro v_ w_ ⟨rfl, rfl⟩ -
        refine am_eq_r (q' := (81, [some (.ref 16), some (.int (nI nv)), some (.int (nI p)), some (.int (nI e)), some (.int (nI st)), some (.int (b k)), none, none, none], [.int (b (k + 1))], wd C Y og)) rfl ?_
        refine am_callN_r (As := [.int (b (k + 1))]) (rest := []) ok_R_readName rfl rfl ok_S_figure16 os_S_figure16 ln_1_193 rfl rfl (Nat.le_of_ble_eq_true rfl) (c_S_figure16 _ C Y og (b (k + 1))) ?_
        rintro v_ w_ ⟨rfl, rfl⟩ -
        refine am_eq_r (q' := (84, [some (.ref 16), some (.int (nI nv)), some (.int (nI p)), some (.int (nI e)), some (.int (nI st)), some (.int (b k)), none, none, none], [.int (hexV (b (k + 1)))], wd C Y og)) rfl ?_
        refine am_steps_r ok_R_readName 7 (q' := (96, [some (.ref 16), some (.int (nI nv)), some (.int (nI p)), some (.int (nI e)), some (.int (nI st)), some (.int (b k)), some (.int (hexV (b (k + 1)))), none, none], [.int ((C.1 4) + 2), .ref 1], wd C Y og)) rfl ?_
        rw [show (C.1 4 : Int32) = nI k from ha]
        rw [show ((nI k) + 2 : Int32) = nI (k + 2) from nI_add k 2]
        refine am_callV_r (As := [.int (nI (k + 2))]) (rest := []) ok_R_readName rfl rfl ok_T_at oi_T_at lk_1_125 (Or.inl ⟨_, _, _, rfl, rfl, rfl⟩) rfl rfl (Nat.le_of_ble_eq_true rfl) (c_T_at _ C Y og n b hT (k + 2) (by omega)) ?_
        rintro v_ w_ ⟨rfl, rfl⟩ -
        refine am_eq_r (q' := (99, [some (.ref 16), some (.int (nI nv)), some (.int (nI p)), some (.int (nI e)), some (.int (nI st)), some (.int (b k)), some (.int (hexV (b (k + 1)))), none, none], [.int (b (k + 2))], wd C Y og)) rfl ?_
        refine am_callN_r (As := [.int (b (k + 2))]) (rest := []) ok_R_readName rfl rfl ok_S_figure16 os_S_figure16 ln_1_193 rfl rfl (Nat.le_of_ble_eq_true rfl) (c_S_figure16 _ C Y og (b (k + 2))) ?_
        rintro v_ w_ ⟨rfl, rfl⟩ -
        refine am_eq_r (q' := (102, [some (.ref 16), some (.int (nI nv)), some (.int (nI p)), some (.int (nI e)), some (.int (nI st)), some (.int (b k)), some (.int (hexV (b (k + 1)))), none, none], [.int (hexV (b (k + 2)))], wd C Y og)) rfl ?_
        refine am_steps_r ok_R_readName 4 (q' := (bif decide ((b k) = 35) then 111 else 127, [some (.ref 16), some (.int (nI nv)), some (.int (nI p)), some (.int (nI e)), some (.int (nI st)), some (.int (b k)), some (.int (hexV (b (k + 1)))), some (.int (hexV (b (k + 2)))), none], [], wd C Y og)) rfl ?_
        refine am_br_r (fun h_8 => ?_) (fun h_8 => ?_)
        · skip
          refine am_steps_r ok_R_readName 3 (q' := (bif decide ((hexV (b (k + 1))) = (-1)) then 127 else 117, [some (.ref 16), some (.int (nI nv)), some (.int (nI p)), some (.int (nI e)), some (.int (nI st)), some (.int (b k)), some (.int (hexV (b (k + 1)))), some (.int (hexV (b (k + 2)))), none], [], wd C Y og)) rfl ?_
          refine am_br_r (fun h_9 => ?_) (fun h_9 => ?_)
          · skip
            have hc : nmC b k = false := by simp [nmC, *]
            refine am_steps_r ok_R_readName 11 (q' := (173, [some (.ref 16), some (.int (nI nv)), some (.int (nI p)), some (.int (nI e)), some (.int (nI st)), some (.int (b k)), some (.int (hexV (b (k + 1)))), some (.int (hexV (b (k + 2)))), some (.int 0)], [.int (nI p), .int 40, .int (b k), .int (nI nv), .ref 16], wd C Y og)) rfl ?_
            refine am_callV_r (As := [.int (nI nv), .int (b k), .int 40, .int (nI p)]) (rest := []) ok_R_readName rfl rfl ok_R_putByte oi_R_putByte lk_1_196 (Or.inl ⟨_, _, _, rfl, rfl, rfl⟩) rfl rfl (Nat.le_of_ble_eq_true rfl) (c_R_putByte _ C Y og C0 nv u V _ _ acc hL (by omega) (b k) (tpC_B hT (by omega)) 40 (by omega) p k (by first | rfl | exact ha)) ?_
            rintro v_ w_ (⟨q_13, rfl, C_10, rfl, ha_11, hL_12⟩ | ⟨q_13, rfl, rfl⟩) -
            · skip
              have hT := tpC_f hT0 hL_12.2.2.1
              refine am_eq_r (q' := (176, [some (.ref 16), some (.int (nI nv)), some (.int (nI p)), some (.int (nI e)), some (.int (nI st)), some (.int (b k)), some (.int (hexV (b (k + 1)))), some (.int (hexV (b (k + 2)))), some (.int 0)], [.int 1], wd C_10 Y og)) rfl ?_
              refine am_steps_r ok_R_readName 11 (q' := (39, [some (.ref 16), some (.int (nI nv)), some (.int (nI p)), some (.int (nI e)), some (.int ((nI st) + 1)), some (.int (b k)), some (.int (hexV (b (k + 1)))), some (.int (hexV (b (k + 2)))), some (.int 0)], [], wd (upd C_10.1 4 ((C_10.1 4) + 1), C_10.2) Y og)) rfl ?_
              rw [show (C_10.1 4 : Int32) = nI k from ha_11]
              rw [show ((nI k) + 1 : Int32) = nI (k + 1) from nI_add k 1]
              rw [show ((nI st) + 1 : Int32) = nI (st + 1) from nI_add st 1]
              refine am_drop_r [5, 6, 7, 8] (L' := [some (.ref 16), some (.int (nI nv)), some (.int (nI p)), some (.int (nI e)), some (.int (nI (st + 1))), none, none, none, none]) rfl ?_
              refine ih post (upd C_10.1 4 (nI (k + 1)), C_10.2) (k + 1) (st + 1) (acc ++ [(b k)]) hL_12 rfl (by omega) (by omega) (by simp; omega) (fun vr w' hw => hpo vr w' ?_) (by omega)
              rw [nmR_pla (by omega) (by omega) hc]
              exact hw
            · skip
              refine am_eq_r (q' := (176, [some (.ref 16), some (.int (nI nv)), some (.int (nI p)), some (.int (nI e)), some (.int (nI st)), some (.int (b k)), some (.int (hexV (b (k + 1)))), some (.int (hexV (b (k + 2)))), some (.int 0)], [.int 0], wd (upd (upd C.1 5 3) 6 (nI p), C.2) Y og)) rfl ?_
              refine am_steps_r ok_R_readName 2 (q' := (180, [some (.ref 16), some (.int (nI nv)), some (.int (nI p)), some (.int (nI e)), some (.int (nI st)), some (.int (b k)), some (.int (hexV (b (k + 1)))), some (.int (hexV (b (k + 2)))), some (.int 0)], [.int (-1)], wd (upd (upd C.1 5 3) 6 (nI p), C.2) Y og)) rfl ?_
              refine am_iret_r ok_R_readName rfl rfl rfl ?_
              refine hpo _ _ ?_
              rw [nmR_ful (by omega) (by omega)]
              exact lfP_bad hL 3 p
          · skip
            refine am_steps_r ok_R_readName 3 (q' := (bif decide ((hexV (b (k + 2))) = (-1)) then 127 else 123, [some (.ref 16), some (.int (nI nv)), some (.int (nI p)), some (.int (nI e)), some (.int (nI st)), some (.int (b k)), some (.int (hexV (b (k + 1)))), some (.int (hexV (b (k + 2)))), none], [], wd C Y og)) rfl ?_
            refine am_br_r (fun h_14 => ?_) (fun h_14 => ?_)
            · skip
              have hc : nmC b k = false := by simp [nmC, *]
              refine am_steps_r ok_R_readName 11 (q' := (173, [some (.ref 16), some (.int (nI nv)), some (.int (nI p)), some (.int (nI e)), some (.int (nI st)), some (.int (b k)), some (.int (hexV (b (k + 1)))), some (.int (hexV (b (k + 2)))), some (.int 0)], [.int (nI p), .int 40, .int (b k), .int (nI nv), .ref 16], wd C Y og)) rfl ?_
              refine am_callV_r (As := [.int (nI nv), .int (b k), .int 40, .int (nI p)]) (rest := []) ok_R_readName rfl rfl ok_R_putByte oi_R_putByte lk_1_196 (Or.inl ⟨_, _, _, rfl, rfl, rfl⟩) rfl rfl (Nat.le_of_ble_eq_true rfl) (c_R_putByte _ C Y og C0 nv u V _ _ acc hL (by omega) (b k) (tpC_B hT (by omega)) 40 (by omega) p k (by first | rfl | exact ha)) ?_
              rintro v_ w_ (⟨q_18, rfl, C_15, rfl, ha_16, hL_17⟩ | ⟨q_18, rfl, rfl⟩) -
              · skip
                have hT := tpC_f hT0 hL_17.2.2.1
                refine am_eq_r (q' := (176, [some (.ref 16), some (.int (nI nv)), some (.int (nI p)), some (.int (nI e)), some (.int (nI st)), some (.int (b k)), some (.int (hexV (b (k + 1)))), some (.int (hexV (b (k + 2)))), some (.int 0)], [.int 1], wd C_15 Y og)) rfl ?_
                refine am_steps_r ok_R_readName 11 (q' := (39, [some (.ref 16), some (.int (nI nv)), some (.int (nI p)), some (.int (nI e)), some (.int ((nI st) + 1)), some (.int (b k)), some (.int (hexV (b (k + 1)))), some (.int (hexV (b (k + 2)))), some (.int 0)], [], wd (upd C_15.1 4 ((C_15.1 4) + 1), C_15.2) Y og)) rfl ?_
                rw [show (C_15.1 4 : Int32) = nI k from ha_16]
                rw [show ((nI k) + 1 : Int32) = nI (k + 1) from nI_add k 1]
                rw [show ((nI st) + 1 : Int32) = nI (st + 1) from nI_add st 1]
                refine am_drop_r [5, 6, 7, 8] (L' := [some (.ref 16), some (.int (nI nv)), some (.int (nI p)), some (.int (nI e)), some (.int (nI (st + 1))), none, none, none, none]) rfl ?_
                refine ih post (upd C_15.1 4 (nI (k + 1)), C_15.2) (k + 1) (st + 1) (acc ++ [(b k)]) hL_17 rfl (by omega) (by omega) (by simp; omega) (fun vr w' hw => hpo vr w' ?_) (by omega)
                rw [nmR_pla (by omega) (by omega) hc]
                exact hw
              · skip
                refine am_eq_r (q' := (176, [some (.ref 16), some (.int (nI nv)), some (.int (nI p)), some (.int (nI e)), some (.int (nI st)), some (.int (b k)), some (.int (hexV (b (k + 1)))), some (.int (hexV (b (k + 2)))), some (.int 0)], [.int 0], wd (upd (upd C.1 5 3) 6 (nI p), C.2) Y og)) rfl ?_
                refine am_steps_r ok_R_readName 2 (q' := (180, [some (.ref 16), some (.int (nI nv)), some (.int (nI p)), some (.int (nI e)), some (.int (nI st)), some (.int (b k)), some (.int (hexV (b (k + 1)))), some (.int (hexV (b (k + 2)))), some (.int 0)], [.int (-1)], wd (upd (upd C.1 5 3) 6 (nI p), C.2) Y og)) rfl ?_
                refine am_iret_r ok_R_readName rfl rfl rfl ?_
                refine hpo _ _ ?_
                rw [nmR_ful (by omega) (by omega)]
                exact lfP_bad hL 3 p
            · skip
              have hc : nmC b k = true := by simp [nmC, *]
              have hin := nmC_in hT.2.2.2 (p := p + 1) (by omega) (by omega) (by omega) hc
              refine am_steps_r ok_R_readName 9 (q' := (bif decide (((hexV (b (k + 1))) + (hexV (b (k + 2)))) = 0) then 143 else 150, [some (.ref 16), some (.int (nI nv)), some (.int (nI p)), some (.int (nI e)), some (.int (nI st)), some (.int (b k)), some (.int (hexV (b (k + 1)))), some (.int (hexV (b (k + 2)))), some (.int 1)], [], wd C Y og)) rfl ?_
              refine am_br_r (fun h_19 => ?_) (fun h_19 => ?_)
              · skip
                refine am_steps_r ok_R_readName 3 (q' := (146, [some (.ref 16), some (.int (nI nv)), some (.int (nI p)), some (.int (nI e)), some (.int (nI st)), some (.int (b k)), some (.int (hexV (b (k + 1)))), some (.int (hexV (b (k + 2)))), some (.int 1)], [.int (nI p), .int 3, .ref 16], wd C Y og)) rfl ?_
                refine am_callV_r (As := [.int 3, .int (nI p)]) (rest := []) ok_R_readName rfl rfl ok_R_fail oi_R_fail lk_1_122 (Or.inl ⟨_, _, _, rfl, rfl, rfl⟩) rfl rfl (Nat.le_of_ble_eq_true rfl) (c_R_fail _ C Y og 3 (nI p)) ?_
                rintro v_ w_ ⟨rfl, rfl⟩ -
                refine am_eq_r (q' := (149, [some (.ref 16), some (.int (nI nv)), some (.int (nI p)), some (.int (nI e)), some (.int (nI st)), some (.int (b k)), some (.int (hexV (b (k + 1)))), some (.int (hexV (b (k + 2)))), some (.int 1)], [.int (-1)], wd (upd (upd C.1 5 3) 6 (nI p), C.2) Y og)) rfl ?_
                refine am_iret_r ok_R_readName rfl rfl rfl ?_
                refine hpo _ _ ?_
                rw [nmR_nul (by omega) hc ((hex2 (by assumption) (by assumption)).2.mp (by assumption))]
                exact lfP_bad hL 3 p
              · skip
                refine am_steps_r ok_R_readName 12 (q' := (173, [some (.ref 16), some (.int (nI nv)), some (.int (nI p)), some (.int (nI e)), some (.int (nI st)), some (.int (b k)), some (.int (hexV (b (k + 1)))), some (.int (hexV (b (k + 2)))), some (.int 1)], [.int (nI p), .int 40, .int (((hexV (b (k + 1))) * 16) + (hexV (b (k + 2)))), .int (nI nv), .ref 16], wd C Y og)) rfl ?_
                refine am_callV_r (As := [.int (nI nv), .int (((hexV (b (k + 1))) * 16) + (hexV (b (k + 2)))), .int 40, .int (nI p)]) (rest := []) ok_R_readName rfl rfl ok_R_putByte oi_R_putByte lk_1_196 (Or.inl ⟨_, _, _, rfl, rfl, rfl⟩) rfl rfl (Nat.le_of_ble_eq_true rfl) (c_R_putByte _ C Y og C0 nv u V _ _ acc hL (by omega) (((hexV (b (k + 1))) * 16) + (hexV (b (k + 2)))) (hex2 (by assumption) (by assumption)).1 40 (by omega) p k (by first | rfl | exact ha)) ?_
                rintro v_ w_ (⟨q_24, rfl, C_21, rfl, ha_22, hL_23⟩ | ⟨q_24, rfl, rfl⟩) -
                · skip
                  have hT := tpC_f hT0 hL_23.2.2.1
                  refine am_eq_r (q' := (176, [some (.ref 16), some (.int (nI nv)), some (.int (nI p)), some (.int (nI e)), some (.int (nI st)), some (.int (b k)), some (.int (hexV (b (k + 1)))), some (.int (hexV (b (k + 2)))), some (.int 1)], [.int 1], wd C_21 Y og)) rfl ?_
                  refine am_steps_r ok_R_readName 12 (q' := (39, [some (.ref 16), some (.int (nI nv)), some (.int (nI p)), some (.int (nI e)), some (.int ((nI st) + 1)), some (.int (b k)), some (.int (hexV (b (k + 1)))), some (.int (hexV (b (k + 2)))), some (.int 1)], [], wd (upd C_21.1 4 ((C_21.1 4) + 3), C_21.2) Y og)) rfl ?_
                  rw [show (C_21.1 4 : Int32) = nI k from ha_22]
                  rw [show ((nI k) + 3 : Int32) = nI (k + 3) from nI_add k 3]
                  rw [show ((nI st) + 1 : Int32) = nI (st + 1) from nI_add st 1]
                  refine am_drop_r [5, 6, 7, 8] (L' := [some (.ref 16), some (.int (nI nv)), some (.int (nI p)), some (.int (nI e)), some (.int (nI (st + 1))), none, none, none, none]) rfl ?_
                  refine ih post (upd C_21.1 4 (nI (k + 3)), C_21.2) (k + 3) (st + 1) (acc ++ [(((hexV (b (k + 1))) * 16) + (hexV (b (k + 2))))]) hL_23 rfl (by omega) (by omega) (by simp; omega) (fun vr w' hw => hpo vr w' ?_) (by omega)
                  rw [nmR_cod (by omega) (by omega) hc (fun z => by have := (hex2 (c := b (k + 1)) (e := b (k + 2)) (by assumption) (by assumption)).2.mpr z; contradiction)]
                  exact hw
                · skip
                  refine am_eq_r (q' := (176, [some (.ref 16), some (.int (nI nv)), some (.int (nI p)), some (.int (nI e)), some (.int (nI st)), some (.int (b k)), some (.int (hexV (b (k + 1)))), some (.int (hexV (b (k + 2)))), some (.int 1)], [.int 0], wd (upd (upd C.1 5 3) 6 (nI p), C.2) Y og)) rfl ?_
                  refine am_steps_r ok_R_readName 2 (q' := (180, [some (.ref 16), some (.int (nI nv)), some (.int (nI p)), some (.int (nI e)), some (.int (nI st)), some (.int (b k)), some (.int (hexV (b (k + 1)))), some (.int (hexV (b (k + 2)))), some (.int 1)], [.int (-1)], wd (upd (upd C.1 5 3) 6 (nI p), C.2) Y og)) rfl ?_
                  refine am_iret_r ok_R_readName rfl rfl rfl ?_
                  refine hpo _ _ ?_
                  rw [nmR_ful (by omega) (by omega)]
                  exact lfP_bad hL 3 p
        · skip
          have hc : nmC b k = false := by simp [nmC, *]
          refine am_steps_r ok_R_readName 11 (q' := (173, [some (.ref 16), some (.int (nI nv)), some (.int (nI p)), some (.int (nI e)), some (.int (nI st)), some (.int (b k)), some (.int (hexV (b (k + 1)))), some (.int (hexV (b (k + 2)))), some (.int 0)], [.int (nI p), .int 40, .int (b k), .int (nI nv), .ref 16], wd C Y og)) rfl ?_
          refine am_callV_r (As := [.int (nI nv), .int (b k), .int 40, .int (nI p)]) (rest := []) ok_R_readName rfl rfl ok_R_putByte oi_R_putByte lk_1_196 (Or.inl ⟨_, _, _, rfl, rfl, rfl⟩) rfl rfl (Nat.le_of_ble_eq_true rfl) (c_R_putByte _ C Y og C0 nv u V _ _ acc hL (by omega) (b k) (tpC_B hT (by omega)) 40 (by omega) p k (by first | rfl | exact ha)) ?_
          rintro v_ w_ (⟨q_28, rfl, C_25, rfl, ha_26, hL_27⟩ | ⟨q_28, rfl, rfl⟩) -
          · skip
            have hT := tpC_f hT0 hL_27.2.2.1
            refine am_eq_r (q' := (176, [some (.ref 16), some (.int (nI nv)), some (.int (nI p)), some (.int (nI e)), some (.int (nI st)), some (.int (b k)), some (.int (hexV (b (k + 1)))), some (.int (hexV (b (k + 2)))), some (.int 0)], [.int 1], wd C_25 Y og)) rfl ?_
            refine am_steps_r ok_R_readName 11 (q' := (39, [some (.ref 16), some (.int (nI nv)), some (.int (nI p)), some (.int (nI e)), some (.int ((nI st) + 1)), some (.int (b k)), some (.int (hexV (b (k + 1)))), some (.int (hexV (b (k + 2)))), some (.int 0)], [], wd (upd C_25.1 4 ((C_25.1 4) + 1), C_25.2) Y og)) rfl ?_
            rw [show (C_25.1 4 : Int32) = nI k from ha_26]
            rw [show ((nI k) + 1 : Int32) = nI (k + 1) from nI_add k 1]
            rw [show ((nI st) + 1 : Int32) = nI (st + 1) from nI_add st 1]
            refine am_drop_r [5, 6, 7, 8] (L' := [some (.ref 16), some (.int (nI nv)), some (.int (nI p)), some (.int (nI e)), some (.int (nI (st + 1))), none, none, none, none]) rfl ?_
            refine ih post (upd C_25.1 4 (nI (k + 1)), C_25.2) (k + 1) (st + 1) (acc ++ [(b k)]) hL_27 rfl (by omega) (by omega) (by simp; omega) (fun vr w' hw => hpo vr w' ?_) (by omega)
            rw [nmR_pla (by omega) (by omega) hc]
            exact hw
          · skip
            refine am_eq_r (q' := (176, [some (.ref 16), some (.int (nI nv)), some (.int (nI p)), some (.int (nI e)), some (.int (nI st)), some (.int (b k)), some (.int (hexV (b (k + 1)))), some (.int (hexV (b (k + 2)))), some (.int 0)], [.int 0], wd (upd (upd C.1 5 3) 6 (nI p), C.2) Y og)) rfl ?_
            refine am_steps_r ok_R_readName 2 (q' := (180, [some (.ref 16), some (.int (nI nv)), some (.int (nI p)), some (.int (nI e)), some (.int (nI st)), some (.int (b k)), some (.int (hexV (b (k + 1)))), some (.int (hexV (b (k + 2)))), some (.int 0)], [.int (-1)], wd (upd (upd C.1 5 3) 6 (nI p), C.2) Y og)) rfl ?_
            refine am_iret_r ok_R_readName rfl rfl rfl ?_
            refine hpo _ _ ?_
            rw [nmR_ful (by omega) (by omega)]
            exact lfP_bad hL 3 p
set_option maxHeartbeats 400000 in
set_option maxRecDepth 100000 in
theorem c_R_readName (d : Nat) (C : wd_C) (Y : wd_Y) (og : Nat → Int64) (n : Nat) (b : Nat → Int32) (hT : tpC C n b) (nv u : Nat) (V : VT) (hS : lfC C C nv u V 0 0 []) (k : Nat) (ha : C.1 4 = nI k) (hk : k < n) (huk : u ≤ k)  : am_Mt l D cA ad fm (d + 6) m_R_readName [.ref 16, .int (nI nv)] (wd C Y og) (lfP C Y og nv u V (nmL k (nmR b (wEnd n b (k + 1)) 2000 (k + 1) []))) := by
  have hn := hT.2.1
  have hal : nv + 1 ≤ 300 := hS.1.1.2.1
  have hw := wEnd_le n b (k := k + 1) (by omega)
  refine am_mt ok_R_readName (by simp [am_arg, Value.category, m_R_readName, am_ml]) ?_
  refine am_eq_r (q' := (0, [some (.ref 16), some (.int (nI nv)), none, none, none, none, none, none, none], [], wd C Y og)) rfl ?_
  refine am_steps_r ok_R_readName 8 (q' := (12, [some (.ref 16), some (.int (nI nv)), some (.int (C.1 4)), none, none, none, none, none, none], [.int ((C.1 4) + 1), .ref 1], wd C Y og)) rfl ?_
  rw [show (C.1 4 : Int32) = nI k from ha]
  rw [show ((nI k) + 1 : Int32) = nI (k + 1) from nI_add k 1]
  refine am_callV_r (As := [.int (nI (k + 1))]) (rest := []) ok_R_readName rfl rfl ok_T_behindWord oi_T_behindWord lk_1_190 (Or.inl ⟨_, _, _, rfl, rfl, rfl⟩) rfl rfl (Nat.le_of_ble_eq_true rfl) (c_T_behindWord _ C Y og n b hT (k + 1) (by omega)) ?_
  rintro v_ w_ ⟨rfl, rfl⟩ -
  refine am_eq_r (q' := (15, [some (.ref 16), some (.int (nI nv)), some (.int (nI k)), none, none, none, none, none, none], [.int (nI (wEnd n b (k + 1)))], wd C Y og)) rfl ?_
  refine am_steps_r ok_R_readName 6 (q' := (23, [some (.ref 16), some (.int (nI nv)), some (.int (nI k)), some (.int (nI (wEnd n b (k + 1)))), none, none, none, none, none], [.long 0, .int 4, .int (nI nv), .ref 3], wd C Y og)) rfl ?_
  refine am_callV_r (As := [.int (nI nv), .int 4, .long 0]) (rest := []) ok_R_readName rfl rfl ok_V_setKind oi_V_setKind lk_1_155 (Or.inl ⟨_, _, _, rfl, rfl, rfl⟩) rfl rfl (Nat.le_of_ble_eq_true rfl) (c_V_setKind _ C Y og (nv + 1) u hS.1.1 nv (by omega) 4 0) ?_
  rintro v_ w_ ⟨rfl, rfl⟩ -
  refine am_eq_r (q' := (26, [some (.ref 16), some (.int (nI nv)), some (.int (nI k)), some (.int (nI (wEnd n b (k + 1)))), none, none, none, none, none], [], wd (vKind C nv 4 0) Y og)) rfl ?_
  refine am_steps_r ok_R_readName 8 (q' := (39, [some (.ref 16), some (.int (nI nv)), some (.int (nI k)), some (.int (nI (wEnd n b (k + 1)))), some (.int 0), none, none, none, none], [], wd (upd ((vKind C nv 4 0).1) 4 (((vKind C nv 4 0).1 4) + 1), (vKind C nv 4 0).2) Y og)) rfl ?_
  rw [show ((vKind C nv 4 0).1 4 : Int32) = nI k from ha]
  rw [show ((nI k) + 1 : Int32) = nI (k + 1) from nI_add k 1]
  exact lp_R_readName_39 d Y og n b C hT nv u V k _ hk rfl huk 2000 _ (upd ((vKind C nv 4 0).1) 4 (nI (k + 1)), (vKind C nv 4 0).2) (k + 1) 0 [] (lfC_kind hS 4 0) rfl (by omega) (by omega) (by simp; omega) (fun _ _ hw => hw) (by omega)
end C43
