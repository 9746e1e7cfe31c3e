/-! the component reads a string of figures; printed by wip/gen/g46.py -/
theorem lfP_odd {C0 C : wd_C} {Y : wd_Y} {og : Nat → Int64} {nv u : Nat} {V : VT} {kd : Int32} {nu : Int64} {acc : List Int32} (h : lfC C0 C nv u V kd nu acc) {k : Nat} (hk : C.1 4 = nI k) (bit : Int32) : lfP C0 Y og nv u V (.inr (kd, nu, acc, k, bit)) (some (.int (nI nv))) (wd (upd C.1 7 (C.1 7 ||| bit), C.2) Y og) := by
  obtain ⟨h1, h2, h3, h4, h5, h6⟩ := h
  exact ⟨rfl, _, rfl, hk, h5, by show C.1 7 ||| bit = _; rw [h6], h3, h4, h1⟩
def isH (x : Int32) : Prop := x = -1 ∨ ∃ h, h < 16 ∧ x = nI h
theorem isH_16 {x : Int32} (h : isH x) (h1 : ¬ x = -1) : isB (x * 16) := by
  obtain ⟨y, y1, rfl⟩ := h.resolve_left h1
  exact ⟨y * 16, by omega, by rw [show (16 : Int32) = nI 16 from rfl, pk_mul]⟩
theorem isH_2 {x y : Int32} (h : isH x) (h1 : ¬ x = -1) (g : isH y) (g1 : ¬ y = -1) : isB (x * 16 + y) := by
  obtain ⟨a, a1, rfl⟩ := h.resolve_left h1
  obtain ⟨c, c1, rfl⟩ := g.resolve_left g1
  exact ⟨a * 16 + c, by omega, by rw [show (16 : Int32) = nI 16 from rfl, pk_mul, nI_add]⟩
section C46
theorem lfP_int {C0 : wd_C} {Y : wd_Y} {og : Nat → Int64} {nv u : Nat} {V : VT} {r : LF} {vr : Option Value} {w' : am_W} (h : lfP C0 Y og nv u V r vr w') : ∃ x, vr = some (.int x) := by
  rcases r with ⟨c, p⟩ | ⟨kd, nu, acc, k, bit⟩
  · exact ⟨_, h.1⟩
  · exact ⟨_, h.1⟩
theorem lfP_len {C0 : wd_C} {Y : wd_Y} {og : Nat → Int64} {nv u : Nat} {V : VT} {r : LF} {vr : Option Value} {w' : am_W} (h : lfP C0 Y og nv u V r vr w') : w'.length = 38 := by
  rcases r with ⟨c, p⟩ | ⟨kd, nu, acc, k, bit⟩
  · obtain ⟨-, C', rfl, -⟩ := h
    rfl
  · obtain ⟨-, C', rfl, -⟩ := h
    rfl
variable {l : Launch} {D : va_G} {cA : Nat → ClassId} {ad : Nat → Nat} {fm : Value}
set_option maxHeartbeats 400000 in
set_option maxRecDepth 100000 in
theorem c_R_endFigureString (d : Nat) (Y : wd_Y) (og : Nat → Int64) (n : Nat) (b : Nat → Int32) (C0 : wd_C) (hT0 : tpC C0 n b) (nv u : Nat) (V : VT) (C : wd_C) (acc : List Int32) (hL : lfC C0 C nv u V 5 0 acc) (hu : u + acc.length < 2000) (p k : Nat) (ha : C.1 4 = nI k) (hk : k < n) (hf : Int32) (hh : isH hf) : am_Mt l D cA ad fm (d + 2) m_R_endFigureString [.ref 16, .int (nI nv), .int hf, .int (nI p)] (wd C Y og) (lfP C0 Y og nv u V (if hf = -1 then .inr (5, 0, acc, k + 1, 0) else if 200 ≤ acc.length then .inl (3, p) else .inr (5, 0, acc ++ [hf * 16], k + 1, 1))) := by
  have hT := tpC_f hT0 hL.2.2.1
  have hn := hT.2.1
  have hal := hL.1.1.2.1
  refine am_mt ok_R_endFigureString (by simp [am_arg, Value.category, m_R_endFigureString, am_ml]) ?_
  refine am_eq_r (q' := (0, [some (.ref 16), some (.int (nI nv)), some (.int hf), some (.int (nI p))], [], wd C Y og)) rfl ?_
  refine am_steps_r ok_R_endFigureString 9 (q' := (bif decide (hf = (-1)) then 15 else 17, [some (.ref 16), some (.int (nI nv)), some (.int hf), some (.int (nI p))], [], wd (upd C.1 4 ((C.1 4) + 1), C.2) Y og)) rfl ?_
  rw [show (C.1 4 : Int32) = nI k from ha]
  rw [show ((nI k) + 1 : Int32) = nI (k + 1) from nI_add k 1]
  refine am_br_r (fun h_1 => ?_) (fun h_1 => ?_)
  · skip
    refine am_steps_r ok_R_endFigureString 1 (q' := (16, [some (.ref 16), some (.int (nI nv)), some (.int hf), some (.int (nI p))], [.int (nI nv)], wd (upd C.1 4 (nI (k + 1)), C.2) Y og)) rfl ?_
    refine am_iret_r ok_R_endFigureString rfl rfl rfl ?_
    rw [if_pos (by assumption)]
    exact lfP_ok (C := (upd C.1 4 (nI (k + 1)), C.2)) hL rfl
  · skip
    refine am_steps_r ok_R_endFigureString 7 (q' := (27, [some (.ref 16), some (.int (nI nv)), some (.int hf), some (.int (nI p))], [.int (nI p), .int 200, .int (hf * 16), .int (nI nv), .ref 16], wd (upd C.1 4 (nI (k + 1)), C.2) Y og)) rfl ?_
    refine am_callV_r (As := [.int (nI nv), .int (hf * 16), .int 200, .int (nI p)]) (rest := []) ok_R_endFigureString rfl rfl ok_R_putByte oi_R_putByte lk_1_196 (Or.inl ⟨_, _, _, rfl, rfl, rfl⟩) rfl rfl (Nat.le_of_ble_eq_true rfl) (c_R_putByte _ (upd C.1 4 (nI (k + 1)), C.2) Y og C0 nv u V _ _ acc hL (by omega) (hf * 16) (isH_16 hh (by assumption)) 200 (by omega) p (k + 1) (by first | rfl | exact ha)) ?_
    rintro v_ w_ (⟨q_5, rfl, C_2, rfl, ha_3, hL_4⟩ | ⟨q_5, rfl, rfl⟩) -
    · skip
      have hT := tpC_f hT0 hL_4.2.2.1
      refine am_eq_r (q' := (30, [some (.ref 16), some (.int (nI nv)), some (.int hf), some (.int (nI p))], [.int 1], wd C_2 Y og)) rfl ?_
      refine am_steps_r ok_R_endFigureString 8 (q' := (46, [some (.ref 16), some (.int (nI nv)), some (.int hf), some (.int (nI p))], [.int (nI nv)], wd (upd C_2.1 7 ((C_2.1 7) ||| 1), C_2.2) Y og)) rfl ?_
      refine am_iret_r ok_R_endFigureString rfl rfl rfl ?_
      rw [if_neg (by assumption), if_neg (by omega)]
      exact lfP_odd hL_4 ha_3 1
    · skip
      refine am_eq_r (q' := (30, [some (.ref 16), some (.int (nI nv)), some (.int hf), some (.int (nI p))], [.int 0], wd (upd (upd (upd C.1 4 (nI (k + 1))) 5 3) 6 (nI p), C.2) Y og)) rfl ?_
      refine am_steps_r ok_R_endFigureString 2 (q' := (34, [some (.ref 16), some (.int (nI nv)), some (.int hf), some (.int (nI p))], [.int (-1)], wd (upd (upd (upd C.1 4 (nI (k + 1))) 5 3) 6 (nI p), C.2) Y og)) rfl ?_
      refine am_iret_r ok_R_endFigureString rfl rfl rfl ?_
      rw [if_neg (by assumption), if_pos (by omega)]
      exact lfP_bad (C := (upd C.1 4 (nI (k + 1)), C.2)) hL 3 p
set_option maxHeartbeats 400000 in
set_option maxRecDepth 100000 in
theorem lp_R_readFigureString_30 (d : Nat) (Y : wd_Y) (og : Nat → Int64) (n : Nat) (b : Nat → Int32) (C0 : wd_C) (hT0 : tpC C0 n b) (nv u : Nat) (V : VT) (p : Nat) (hp : p < n) (hup : u ≤ p)  : ∀ (fu : Nat) (post : Option Value → am_W → Prop) (C : wd_C) (k : Nat) (st : Nat) (hf : Int32) (acc : List Int32), (lfC C0 C nv u V 5 0 acc) → (C.1 4 = nI k) → (isH hf) → (p + 1 + st ≤ k) → (k ≤ n) → (u + acc.length < k) → (∀ vr w', lfP C0 Y og nv u V (anR n b p fu k hf acc) vr w' → post vr w') → n - k < fu → am_Rn l D cA ad fm (d + 3) m_R_readFigureString (wd C Y og).length post (30, [some (.ref 16), some (.int (nI nv)), some (.int (nI p)), some (.int hf), some (.int (nI st)), none, none], [], wd C Y og) := by
  intro fu
  induction fu with
  | zero => intro post C k st hf acc hL ha hh hk hkn hacc hpo hfu; exact absurd hfu (Nat.not_lt_zero _)
  | succ fu ih =>
    intro post C k st hf acc hL ha hh hk hkn hacc hpo hfu
    have hT := tpC_f hT0 hL.2.2.1
    have hn := hT.2.1
    have hal := hL.1.1.2.1
    refine am_steps_r ok_R_readFigureString 3 (q' := (bif decide (1600 ≤ (nI st)) then 173 else 38, [some (.ref 16), some (.int (nI nv)), some (.int (nI p)), some (.int hf), some (.int (nI st)), none, none], [], wd C Y og)) rfl ?_
    refine am_br_r (fun h_1 => ?_) (fun h_1 => ?_)
    · skip
      have h_1 : 1600 ≤ st := (nI_leI (show 1600 < 2 ^ 31 by omega) (show st < 2 ^ 31 by omega)).mp h_1
      refine am_steps_r ok_R_readFigureString 4 (q' := (179, [some (.ref 16), some (.int (nI nv)), some (.int (nI p)), some (.int hf), some (.int (nI st)), none, none], [.ref 1, .int 1, .ref 16], wd C Y og)) rfl ?_
      refine am_callV_r (As := []) (rest := [.int 1, .ref 16]) ok_R_readFigureString rfl rfl ok_T_size oi_T_size lk_1_62 (Or.inl ⟨_, _, _, rfl, rfl, rfl⟩) rfl rfl (Nat.le_of_ble_eq_true rfl) (c_T_size _ C Y og n b hT) ?_
      rintro v_ w_ ⟨rfl, rfl⟩ -
      refine am_eq_r (q' := (182, [some (.ref 16), some (.int (nI nv)), some (.int (nI p)), some (.int hf), some (.int (nI st)), none, none], [.int (nI n), .int 1, .ref 16], wd C Y og)) rfl ?_
      refine am_callV_r (As := [.int 1, .int (nI n)]) (rest := []) ok_R_readFigureString rfl rfl ok_R_fail oi_R_fail lk_1_122 (Or.inl ⟨_, _, _, rfl, rfl, rfl⟩) rfl rfl (Nat.le_of_ble_eq_true rfl) (c_R_fail _ C Y og 1 (nI n)) ?_
      rintro v_ w_ ⟨rfl, rfl⟩ -
      refine am_eq_r (q' := (185, [some (.ref 16), some (.int (nI nv)), some (.int (nI p)), some (.int hf), some (.int (nI st)), none, none], [.int (-1)], wd (upd (upd C.1 5 1) 6 (nI n), C.2) Y og)) rfl ?_
      refine am_iret_r ok_R_readFigureString rfl rfl rfl ?_
      first | (exfalso; omega) | (refine hpo _ _ ?_; rw [anR_out (by omega)]; exact lfP_bad hL 1 n)
    · skip
      have h_1 : ¬ 1600 ≤ st := fun z => h_1 ((nI_leI (show 1600 < 2 ^ 31 by omega) (show st < 2 ^ 31 by omega)).mpr z)
      refine am_steps_r ok_R_readFigureString 4 (q' := (46, [some (.ref 16), some (.int (nI nv)), some (.int (nI p)), some (.int hf), some (.int (nI st)), none, none], [.ref 1, .int (C.1 4)], wd C Y og)) rfl ?_
      rw [show (C.1 4 : Int32) = nI k from ha]
      refine am_callV_r (As := []) (rest := [.int (nI k)]) ok_R_readFigureString rfl rfl ok_T_size oi_T_size lk_1_62 (Or.inl ⟨_, _, _, rfl, rfl, rfl⟩) rfl rfl (Nat.le_of_ble_eq_true rfl) (c_T_size _ C Y og n b hT) ?_
      rintro v_ w_ ⟨rfl, rfl⟩ -
      refine am_eq_r (q' := (49, [some (.ref 16), some (.int (nI nv)), some (.int (nI p)), some (.int hf), some (.int (nI st)), none, none], [.int (nI n), .int (nI k)], wd C Y og)) rfl ?_
      refine am_steps_r ok_R_readFigureString 1 (q' := (bif decide ((nI n) ≤ (nI k)) then 173 else 52, [some (.ref 16), some (.int (nI nv)), some (.int (nI p)), some (.int hf), some (.int (nI st)), none, none], [], wd C Y og)) rfl ?_
      refine am_br_r (fun h_5 => ?_) (fun h_5 => ?_)
      · skip
        have h_5 : n ≤ k := (nI_leI (show n < 2 ^ 31 by omega) (show k < 2 ^ 31 by omega)).mp h_5
        refine am_steps_r ok_R_readFigureString 4 (q' := (179, [some (.ref 16), some (.int (nI nv)), some (.int (nI p)), some (.int hf), some (.int (nI st)), none, none], [.ref 1, .int 1, .ref 16], wd C Y og)) rfl ?_
        refine am_callV_r (As := []) (rest := [.int 1, .ref 16]) ok_R_readFigureString rfl rfl ok_T_size oi_T_size lk_1_62 (Or.inl ⟨_, _, _, rfl, rfl, rfl⟩) rfl rfl (Nat.le_of_ble_eq_true rfl) (c_T_size _ C Y og n b hT) ?_
        rintro v_ w_ ⟨rfl, rfl⟩ -
        refine am_eq_r (q' := (182, [some (.ref 16), some (.int (nI nv)), some (.int (nI p)), some (.int hf), some (.int (nI st)), none, none], [.int (nI n), .int 1, .ref 16], wd C Y og)) rfl ?_
        refine am_callV_r (As := [.int 1, .int (nI n)]) (rest := []) ok_R_readFigureString rfl rfl ok_R_fail oi_R_fail lk_1_122 (Or.inl ⟨_, _, _, rfl, rfl, rfl⟩) rfl rfl (Nat.le_of_ble_eq_true rfl) (c_R_fail _ C Y og 1 (nI n)) ?_
        rintro v_ w_ ⟨rfl, rfl⟩ -
        refine am_eq_r (q' := (185, [some (.ref 16), some (.int (nI nv)), some (.int (nI p)), some (.int hf), some (.int (nI st)), none, none], [.int (-1)], wd (upd (upd C.1 5 1) 6 (nI n), C.2) Y og)) rfl ?_
        refine am_iret_r ok_R_readFigureString rfl rfl rfl ?_
        first | (exfalso; omega) | (refine hpo _ _ ?_; rw [anR_out (by omega)]; exact lfP_bad hL 1 n)
      · skip
        have h_5 : ¬ n ≤ k := fun z => h_5 ((nI_leI (show n < 2 ^ 31 by omega) (show k < 2 ^ 31 by omega)).mpr z)
        refine am_steps_r ok_R_readFigureString 4 (q' := (60, [some (.ref 16), some (.int (nI nv)), some (.int (nI p)), some (.int hf), some (.int (nI st)), none, none], [.int (C.1 4), .ref 1], wd C Y og)) rfl ?_
        rw [show (C.1 4 : Int32) = nI k from ha]
        refine am_callV_r (As := [.int (nI k)]) (rest := []) ok_R_readFigureString rfl rfl ok_T_at oi_T_at lk_1_125 (Or.inl ⟨_, _, _, rfl, rfl, rfl⟩) rfl rfl (Nat.le_of_ble_eq_true rfl) (c_T_at _ C Y og n b hT k (by omega)) ?_
        rintro v_ w_ ⟨rfl, rfl⟩ -
        refine am_eq_r (q' := (63, [some (.ref 16), some (.int (nI nv)), some (.int (nI p)), some (.int hf), some (.int (nI st)), none, none], [.int (b k)], wd C Y og)) rfl ?_
        refine am_steps_r ok_R_readFigureString 4 (q' := (bif decide ((b k) = 62) then 72 else 80, [some (.ref 16), some (.int (nI nv)), some (.int (nI p)), some (.int hf), some (.int (nI st)), some (.int (b k)), none], [], wd C Y og)) rfl ?_
        refine am_br_r (fun h_9 => ?_) (fun h_9 => ?_)
        · skip
          refine am_steps_r ok_R_readFigureString 4 (q' := (76, [some (.ref 16), some (.int (nI nv)), some (.int (nI p)), some (.int hf), some (.int (nI st)), some (.int (b k)), none], [.int (nI p), .int hf, .int (nI nv), .ref 16], wd C Y og)) rfl ?_
          refine am_callV_r (As := [.int (nI nv), .int hf, .int (nI p)]) (rest := []) ok_R_readFigureString rfl rfl ok_R_endFigureString oi_R_endFigureString lk_1_219 (Or.inl ⟨_, _, _, rfl, rfl, rfl⟩) rfl rfl (Nat.le_of_ble_eq_true rfl) (c_R_endFigureString _ Y og n b C0 hT0 nv u V C acc hL (by omega) p k ha (by omega) hf hh) ?_
          rintro v_ w_ hres -
          rw [← anR_62 (n := n) (b := b) (p := p) (f := fu) (k := k) (hf := hf) (acc := acc) (by omega) (by assumption)] at hres
          obtain ⟨x_, rfl⟩ := lfP_int hres
          exact am_iret_r ok_R_readFigureString rfl rfl (lfP_len hres) (hpo _ _ hres)
        · skip
          refine am_steps_r ok_R_readFigureString 1 (q' := (82, [some (.ref 16), some (.int (nI nv)), some (.int (nI p)), some (.int hf), some (.int (nI st)), some (.int (b k)), none], [.int (b k)], wd C Y og)) rfl ?_
          refine am_callN_r (As := [.int (b k)]) (rest := []) ok_R_readFigureString rfl rfl ok_S_figure16 os_S_figure16 ln_1_193 rfl rfl (Nat.le_of_ble_eq_true rfl) (c_S_figure16 _ C Y og (b k)) ?_
          rintro v_ w_ ⟨rfl, rfl⟩ -
          refine am_eq_r (q' := (85, [some (.ref 16), some (.int (nI nv)), some (.int (nI p)), some (.int hf), some (.int (nI st)), some (.int (b k)), none], [.int (hexV (b k))], wd C Y og)) rfl ?_
          refine am_steps_r ok_R_readFigureString 4 (q' := (bif decide ((hexV (b k)) = (-1)) then 93 else 111, [some (.ref 16), some (.int (nI nv)), some (.int (nI p)), some (.int hf), some (.int (nI st)), some (.int (b k)), some (.int (hexV (b k)))], [], wd C Y og)) rfl ?_
          refine am_br_r (fun h_11 => ?_) (fun h_11 => ?_)
          · skip
            refine am_steps_r ok_R_readFigureString 1 (q' := (95, [some (.ref 16), some (.int (nI nv)), some (.int (nI p)), some (.int hf), some (.int (nI st)), some (.int (b k)), some (.int (hexV (b k)))], [.int (b k)], wd C Y og)) rfl ?_
            refine am_callN_r (As := [.int (b k)]) (rest := []) ok_R_readFigureString rfl rfl ok_S_isPlainWhite os_S_isPlainWhite ln_1_222 rfl rfl (Nat.le_of_ble_eq_true rfl) (c_S_isPlainWhite _ C Y og (b k)) ?_
            rintro v_ w_ ⟨rfl, rfl⟩ -
            refine am_eq_r (q' := (98, [some (.ref 16), some (.int (nI nv)), some (.int (nI p)), some (.int hf), some (.int (nI st)), some (.int (b k)), some (.int (hexV (b k)))], [.int (bz (isWh (b k)))], wd C Y og)) rfl ?_
            refine am_steps_r ok_R_readFigureString 1 (q' := (bif decide ((bz (isWh (b k))) = 0) then 101 else 111, [some (.ref 16), some (.int (nI nv)), some (.int (nI p)), some (.int hf), some (.int (nI st)), some (.int (b k)), some (.int (hexV (b k)))], [], wd C Y og)) rfl ?_
            refine am_bz_r (fun h_13 => ?_) (fun h_13 => ?_)
            · skip
              refine am_steps_r ok_R_readFigureString 3 (q' := (bif decide ((hexV (b k)) = (-1)) then 128 else 117, [some (.ref 16), some (.int (nI nv)), some (.int (nI p)), some (.int hf), some (.int (nI st)), some (.int (b k)), some (.int (hexV (b k)))], [], wd C Y og)) rfl ?_
              refine am_br_r (fun h_14 => ?_) (fun h_14 => ?_)
              · skip
                refine am_steps_r ok_R_readFigureString 3 (q' := (bif decide ((hexV (b k)) = (-1)) then 157 else 134, [some (.ref 16), some (.int (nI nv)), some (.int (nI p)), some (.int hf), some (.int (nI st)), some (.int (b k)), some (.int (hexV (b k)))], [], wd C Y og)) rfl ?_
                refine am_br_r (fun h_15 => ?_) (fun h_15 => ?_)
                · skip
                  refine am_steps_r ok_R_readFigureString 8 (q' := (30, [some (.ref 16), some (.int (nI nv)), some (.int (nI p)), some (.int hf), some (.int ((nI st) + 1)), some (.int (b k)), some (.int (hexV (b k)))], [], wd (upd C.1 4 ((C.1 4) + 1), C.2) Y og)) rfl ?_
                  rw [show (C.1 4 : Int32) = nI k from ha]
                  rw [show ((nI k) + 1 : Int32) = nI (k + 1) from nI_add k 1]
                  rw [show ((nI st) + 1 : Int32) = nI (st + 1) from nI_add st 1]
                  refine am_drop_r [5, 6] (L' := [some (.ref 16), some (.int (nI nv)), some (.int (nI p)), some (.int hf), some (.int (nI (st + 1))), none, none]) rfl ?_
                  refine ih post (upd C.1 4 (nI (k + 1)), C.2) (k + 1) (st + 1) hf acc hL rfl hh (by omega) (by omega) (by omega) (fun vr w' hw => hpo vr w' ?_) (by omega)
                  first | rw [anR_wh (by omega) (by assumption) (by assumption) (by assumption)] | rw [anR_hi (by omega) (by assumption) (by assumption) (by assumption)] | rw [anR_lo (by omega) (by assumption) (by assumption) (by assumption) (by omega)]
                  exact hw
                · skip
                  first | contradiction | (exfalso; simp_all; done)
              · skip
                first | contradiction | (exfalso; simp_all; done)
            · skip
              refine am_steps_r ok_R_readFigureString 4 (q' := (107, [some (.ref 16), some (.int (nI nv)), some (.int (nI p)), some (.int hf), some (.int (nI st)), some (.int (b k)), some (.int (hexV (b k)))], [.int (C.1 4), .int 2, .ref 16], wd C Y og)) rfl ?_
              rw [show (C.1 4 : Int32) = nI k from ha]
              refine am_callV_r (As := [.int 2, .int (nI k)]) (rest := []) ok_R_readFigureString rfl rfl ok_R_fail oi_R_fail lk_1_122 (Or.inl ⟨_, _, _, rfl, rfl, rfl⟩) rfl rfl (Nat.le_of_ble_eq_true rfl) (c_R_fail _ C Y og 2 (nI k)) ?_
              rintro v_ w_ ⟨rfl, rfl⟩ -
              refine am_eq_r (q' := (110, [some (.ref 16), some (.int (nI nv)), some (.int (nI p)), some (.int hf), some (.int (nI st)), some (.int (b k)), some (.int (hexV (b k)))], [.int (-1)], wd (upd (upd C.1 5 2) 6 (nI k), C.2) Y og)) rfl ?_
              refine am_iret_r ok_R_readFigureString rfl rfl rfl ?_
              refine hpo _ _ ?_
              rw [anR_bad (by omega) (by assumption) (by assumption) (by assumption)]
              exact lfP_bad hL 2 k
          · skip
            refine am_steps_r ok_R_readFigureString 3 (q' := (bif decide ((hexV (b k)) = (-1)) then 128 else 117, [some (.ref 16), some (.int (nI nv)), some (.int (nI p)), some (.int hf), some (.int (nI st)), some (.int (b k)), some (.int (hexV (b k)))], [], wd C Y og)) rfl ?_
            refine am_br_r (fun h_17 => ?_) (fun h_17 => ?_)
            · skip
              first | contradiction | (exfalso; simp_all; done)
            · skip
              refine am_steps_r ok_R_readFigureString 3 (q' := (bif decide (hf = (-1)) then 122 else 128, [some (.ref 16), some (.int (nI nv)), some (.int (nI p)), some (.int hf), some (.int (nI st)), some (.int (b k)), some (.int (hexV (b k)))], [], wd C Y og)) rfl ?_
              refine am_br_r (fun h_18 => ?_) (fun h_18 => ?_)
              · skip
                refine am_steps_r ok_R_readFigureString 11 (q' := (30, [some (.ref 16), some (.int (nI nv)), some (.int (nI p)), some (.int (hexV (b k))), some (.int ((nI st) + 1)), some (.int (b k)), some (.int (hexV (b k)))], [], wd (upd C.1 4 ((C.1 4) + 1), C.2) Y og)) rfl ?_
                rw [show (C.1 4 : Int32) = nI k from ha]
                rw [show ((nI k) + 1 : Int32) = nI (k + 1) from nI_add k 1]
                rw [show ((nI st) + 1 : Int32) = nI (st + 1) from nI_add st 1]
                refine am_drop_r [5, 6] (L' := [some (.ref 16), some (.int (nI nv)), some (.int (nI p)), some (.int (hexV (b k))), some (.int (nI (st + 1))), none, none]) rfl ?_
                refine ih post (upd C.1 4 (nI (k + 1)), C.2) (k + 1) (st + 1) (hexV (b k)) acc hL rfl (hexV_rng _) (by omega) (by omega) (by omega) (fun vr w' hw => hpo vr w' ?_) (by omega)
                first | rw [anR_wh (by omega) (by assumption) (by assumption) (by assumption)] | rw [anR_hi (by omega) (by assumption) (by assumption) (by assumption)] | rw [anR_lo (by omega) (by assumption) (by assumption) (by assumption) (by omega)]
                exact hw
              · skip
                refine am_steps_r ok_R_readFigureString 3 (q' := (bif decide ((hexV (b k)) = (-1)) then 157 else 134, [some (.ref 16), some (.int (nI nv)), some (.int (nI p)), some (.int hf), some (.int (nI st)), some (.int (b k)), some (.int (hexV (b k)))], [], wd C Y og)) rfl ?_
                refine am_br_r (fun h_19 => ?_) (fun h_19 => ?_)
                · skip
                  first | contradiction | (exfalso; simp_all; done)
                · skip
                  refine am_steps_r ok_R_readFigureString 9 (q' := (147, [some (.ref 16), some (.int (nI nv)), some (.int (nI p)), some (.int hf), some (.int (nI st)), some (.int (b k)), some (.int (hexV (b k)))], [.int (nI p), .int 200, .int ((hf * 16) + (hexV (b k))), .int (nI nv), .ref 16], wd C Y og)) rfl ?_
                  refine am_callV_r (As := [.int (nI nv), .int ((hf * 16) + (hexV (b k))), .int 200, .int (nI p)]) (rest := []) ok_R_readFigureString rfl rfl ok_R_putByte oi_R_putByte lk_1_196 (Or.inl ⟨_, _, _, rfl, rfl, rfl⟩) rfl rfl (Nat.le_of_ble_eq_true rfl) (c_R_putByte _ C Y og C0 nv u V _ _ acc hL (by omega) ((hf * 16) + (hexV (b k))) (isH_2 hh (by assumption) (hexV_rng _) (by assumption)) 200 (by omega) p k (by first | rfl | exact ha)) ?_
                  rintro v_ w_ (⟨q_23, rfl, C_20, rfl, ha_21, hL_22⟩ | ⟨q_23, rfl, rfl⟩) -
                  · skip
                    have hT := tpC_f hT0 hL_22.2.2.1
                    refine am_eq_r (q' := (150, [some (.ref 16), some (.int (nI nv)), some (.int (nI p)), some (.int hf), some (.int (nI st)), some (.int (b k)), some (.int (hexV (b k)))], [.int 1], wd C_20 Y og)) rfl ?_
                    refine am_steps_r ok_R_readFigureString 11 (q' := (30, [some (.ref 16), some (.int (nI nv)), some (.int (nI p)), some (.int (-1)), some (.int ((nI st) + 1)), some (.int (b k)), some (.int (hexV (b k)))], [], wd (upd C_20.1 4 ((C_20.1 4) + 1), C_20.2) Y og)) rfl ?_
                    rw [show (C_20.1 4 : Int32) = nI k from ha_21]
                    rw [show ((nI k) + 1 : Int32) = nI (k + 1) from nI_add k 1]
                    rw [show ((nI st) + 1 : Int32) = nI (st + 1) from nI_add st 1]
                    refine am_drop_r [5, 6] (L' := [some (.ref 16), some (.int (nI nv)), some (.int (nI p)), some (.int (-1)), some (.int (nI (st + 1))), none, none]) rfl ?_
                    refine ih post (upd C_20.1 4 (nI (k + 1)), C_20.2) (k + 1) (st + 1) (-1) (acc ++ [((hf * 16) + (hexV (b k)))]) hL_22 rfl (Or.inl rfl) (by omega) (by omega) (by simp; omega) (fun vr w' hw => hpo vr w' ?_) (by omega)
                    first | rw [anR_wh (by omega) (by assumption) (by assumption) (by assumption)] | rw [anR_hi (by omega) (by assumption) (by assumption) (by assumption)] | rw [anR_lo (by omega) (by assumption) (by assumption) (by assumption) (by omega)]
                    exact hw
                  · skip
                    refine am_eq_r (q' := (150, [some (.ref 16), some (.int (nI nv)), some (.int (nI p)), some (.int hf), some (.int (nI st)), some (.int (b k)), some (.int (hexV (b k)))], [.int 0], wd (upd (upd C.1 5 3) 6 (nI p), C.2) Y og)) rfl ?_
                    refine am_steps_r ok_R_readFigureString 2 (q' := (154, [some (.ref 16), some (.int (nI nv)), some (.int (nI p)), some (.int hf), some (.int (nI st)), some (.int (b k)), some (.int (hexV (b k)))], [.int (-1)], wd (upd (upd C.1 5 3) 6 (nI p), C.2) Y og)) rfl ?_
                    refine am_iret_r ok_R_readFigureString rfl rfl rfl ?_
                    refine hpo _ _ ?_
                    rw [anR_ful (by omega) (by assumption) (by assumption) (by assumption) (by omega)]
                    exact lfP_bad hL 3 p
set_option maxHeartbeats 400000 in
set_option maxRecDepth 100000 in
theorem c_R_readFigureString (d : Nat) (C : wd_C) (Y : wd_Y) (og : Nat → Int64) (n : Nat) (b : Nat → Int32) (hT : tpC C n b) (nv u : Nat) (V : VT) (hS : lfC C C nv u V 0 0 []) (k : Nat) (ha : C.1 4 = nI k) (hk : k < n) (huk : u ≤ k)  : am_Mt l D cA ad fm (d + 3) m_R_readFigureString [.ref 16, .int (nI nv)] (wd C Y og) (lfP C Y og nv u V (anR n b k 2000 (k + 1) (-1) [])) := by
  have hn := hT.2.1
  have hal : nv + 1 ≤ 300 := hS.1.1.2.1
  refine am_mt ok_R_readFigureString (by simp [am_arg, Value.category, m_R_readFigureString, am_ml]) ?_
  refine am_eq_r (q' := (0, [some (.ref 16), some (.int (nI nv)), none, none, none, none, none], [], wd C Y og)) rfl ?_
  refine am_steps_r ok_R_readFigureString 10 (q' := (14, [some (.ref 16), some (.int (nI nv)), some (.int (C.1 4)), some (.int (-1)), none, none, none], [.long 0, .int 5, .int (nI nv), .ref 3], wd C Y og)) rfl ?_
  rw [show (C.1 4 : Int32) = nI k from ha]
  refine am_callV_r (As := [.int (nI nv), .int 5, .long 0]) (rest := []) ok_R_readFigureString rfl rfl ok_V_setKind oi_V_setKind lk_1_155 (Or.inl ⟨_, _, _, rfl, rfl, rfl⟩) rfl rfl (Nat.le_of_ble_eq_true rfl) (c_V_setKind _ C Y og (nv + 1) u hS.1.1 nv (by omega) 5 0) ?_
  rintro v_ w_ ⟨rfl, rfl⟩ -
  refine am_eq_r (q' := (17, [some (.ref 16), some (.int (nI nv)), some (.int (nI k)), some (.int (-1)), none, none, none], [], wd (vKind C nv 5 0) Y og)) rfl ?_
  refine am_steps_r ok_R_readFigureString 8 (q' := (30, [some (.ref 16), some (.int (nI nv)), some (.int (nI k)), some (.int (-1)), some (.int 0), none, none], [], wd (upd ((vKind C nv 5 0).1) 4 (((vKind C nv 5 0).1 4) + 1), (vKind C nv 5 0).2) Y og)) rfl ?_
  rw [show ((vKind C nv 5 0).1 4 : Int32) = nI k from ha]
  rw [show ((nI k) + 1 : Int32) = nI (k + 1) from nI_add k 1]
  exact lp_R_readFigureString_30 d Y og n b C hT nv u V k hk huk 2000 _ (upd ((vKind C nv 5 0).1) 4 (nI (k + 1)), (vKind C nv 5 0).2) (k + 1) 0 (-1) [] (lfC_kind hS 5 0) rfl (Or.inl rfl) (by omega) (by omega) (by simp; omega) (fun _ _ hw => hw) (by omega)
end C46
