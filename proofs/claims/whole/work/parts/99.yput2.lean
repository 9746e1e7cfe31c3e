/-! the reference puts names, strings, values without parts; printed by wip/gen/g99.py -/
theorem ya {Y Y1 : wd_Y} {A : Nat → Int32} {s : WS} (h : Y1 = yE Y A s) {j : Nat} (hj : j ≠ 14) : Y1.2.1 j = Y.2.1 j := by
  rw [h]
  show wd_u Y.2.1 14 _ j = _
  rw [wd_u, if_neg hj]
theorem ys1 {Y Y1 : wd_Y} {A : Nat → Int32} {s : WS} {nv u : Nat} {V : VT} (hY : vsY Y nv u V) (h1 : Y1 = yE Y A s) : vsY Y1 nv u V :=
  vsY_ar hY (by rw [h1]; rfl) (by rw [h1]; rfl) (fun j j1 j2 => ya h1 (by omega)) (by rw [h1]; rfl)
theorem yq_2 {Y Y1 : wd_Y} {A : Nat → Int32} {s : WS} {nv u : Nat} {V : VT} (hY : vsY Y nv u V) (h1 : Y1 = yE Y A s) {v : Nat} (hv : v < nv) : Y1.2.1 2 v = V.1 v := ((ys1 hY h1).2 v hv).1
theorem yq_n {Y Y1 : wd_Y} {A : Nat → Int32} {s : WS} {nv u : Nat} {V : VT} (hY : vsY Y nv u V) (h1 : Y1 = yE Y A s) {v : Nat} (hv : v < nv) : Y1.2.2.1 v = V.2.1 v := ((ys1 hY h1).2 v hv).2.1
theorem yq_8 {Y Y1 : wd_Y} {A : Nat → Int32} {s : WS} {nv u : Nat} {V : VT} (hY : vsY Y nv u V) (h1 : Y1 = yE Y A s) {v : Nat} (hv : v < nv) : Y1.2.1 8 v = nI (V.2.2.2 v).length := by
  obtain ⟨q, -, q2, -⟩ := ((ys1 hY h1).2 v hv).2.2.2.1
  exact q2
theorem yq_len {Y : wd_Y} {nv u : Nat} {V : VT} (hY : vsY Y nv u V) {v : Nat} (hv : v < nv) : (V.2.2.2 v).length ≤ 2000 := by
  obtain ⟨q, -, -, q3, -⟩ := (hY.2 v hv).2.2.2.1
  have := hY.1.2.2.2
  omega
section C99
variable {l : Launch} {D : va_G} {cA : Nat → ClassId} {ad : Nat → Nat} {fm : Value}
set_option maxHeartbeats 4000000 in
set_option maxRecDepth 100000 in
theorem lp_M_putName_8 (d : Nat) (C : wd_C) (Y : wd_Y) (og : Nat → Int64) (rd : Nat) (A : Nat → Int32) (hr : Y.1 16 = nI rd) (hrd : rd ≤ 1) (bf : Nat) (hbf : bf ≤ 5) (nv u : Nat) (V : VT) (hY : vsY Y nv u V) (hby : ∀ w, w < nv → ∀ k, k < (V.2.2.2 w).length → ∃ j, j < 256 ∧ (V.2.2.2 w).getD k 0 = nI j) (v : Nat) (hv : v < nv)  : ∀ (fu : Nat) (post : Option Value → am_W → Prop) (k : Nat) (L : List Int32) (Y1 : wd_Y), (Y1 = yE Y A (bf, L)) → (k ≤ (V.2.2.2 v).length) → ((L ++ (nwL ((V.2.2.2 v).drop k))).length < 2147483648) → (∀ Y2, Y2 = yE Y A (bf, L ++ (nwL ((V.2.2.2 v).drop k))) → post none (wd C Y2 og)) → (V.2.2.2 v).length - k < fu → am_Rn l D cA ad fm (d + 2) m_M_putName (wd C Y og).length post (8, [some (.ref 19), some (.int (nI v)), some (.int (nI k)), none], [], wd C Y1 og) := by
  intro fu
  induction fu with
  | zero => intro post k L Y1 h1 hkl hb hpo hfu; exact absurd hfu (Nat.not_lt_zero _)
  | succ fu ih =>
    intro post k L Y1 h1 hkl hb hpo hfu
    have hnv := hY.1.2.1
    have hu2 := hY.1.2.2.2
    have hvl := yq_len hY hv
    obtain ⟨s0, s1, s2, s3, s4⟩ := (hY.2 v hv).2.2.2.1
    refine am_steps_r ok_M_putName 4 (q' := (14, [some (.ref 19), some (.int (nI v)), some (.int (nI k)), none], [.int (nI v), .ref 29, .int (nI k)], wd C Y1 og)) rfl ?_
    refine am_iald_r ok_M_putName rfl (w := wd C Y1 og) (f := Y1.2.1 8) rfl rfl (pk_in v 300 (by omega)) ?_
    rw [nI_clamp (show v < 2 ^ 31 by omega)]
    rw [show (Y1.2.1 8 v) = nI (V.2.2.2 v).length from yq_8 hY h1 (v := v) (by omega)]
    refine am_steps_r ok_M_putName 1 (q' := (bif decide ((nI ((V.2.2.2 v).length)) ≤ (nI k)) then 70 else 18, [some (.ref 19), some (.int (nI v)), some (.int (nI k)), none], [], wd C Y1 og)) rfl ?_
    refine am_br_r (fun h_1 => ?_) (fun h_1 => ?_)
    · skip
      have h_1 : ((V.2.2.2 v).length) ≤ k := (nI_leI (show ((V.2.2.2 v).length) < 2 ^ 31 by omega) (show k < 2 ^ 31 by omega)).mp h_1
      refine am_vret_r ok_M_putName rfl rfl rfl ?_
      exact hpo _ (by rw [List.drop_eq_nil_of_le (by omega)]; simp only [nwL, List.append_nil]; exact h1)
    · skip
      have h_1 : ¬ ((V.2.2.2 v).length) ≤ k := fun z => h_1 ((nI_leI (show ((V.2.2.2 v).length) < 2 ^ 31 by omega) (show k < 2 ^ 31 by omega)).mpr z)
      refine am_steps_r ok_M_putName 5 (q' := (27, [some (.ref 19), some (.int (nI v)), some (.int (nI k)), none], [.int (nI v), .ref 28, .ref 30], wd C Y1 og)) rfl ?_
      refine am_iald_r ok_M_putName rfl (w := wd C Y1 og) (f := Y1.2.1 7) rfl rfl (pk_in v 300 (by omega)) ?_
      rw [nI_clamp (show v < 2 ^ 31 by omega)]
      rw [show (Y1.2.1 7 v) = nI s0 from (congrFun (ya h1 (by decide)) v).trans s1]
      refine am_steps_r ok_M_putName 2 (q' := (30, [some (.ref 19), some (.int (nI v)), some (.int (nI k)), none], [.int ((nI s0) + (nI k)), .ref 30], wd C Y1 og)) rfl ?_
      rw [show ((nI s0) + (nI k) : Int32) = nI (s0 + k) from nI_add s0 k]
      refine am_iald_r ok_M_putName rfl (w := wd C Y1 og) (f := Y1.2.1 9) rfl rfl (pk_in (s0 + k) 2000 (by omega)) ?_
      rw [nI_clamp (show (s0 + k) < 2 ^ 31 by omega)]
      rw [show (Y1.2.1 9 (s0 + k)) = (V.2.2.2 v).getD k 0 from (congrFun (ya h1 (by decide)) (s0 + k)).trans (s4 k (by omega))]
      refine am_steps_r ok_M_putName 2 (q' := (33, [some (.ref 19), some (.int (nI v)), some (.int (nI k)), some (.int ((V.2.2.2 v).getD k 0))], [.int ((V.2.2.2 v).getD k 0)], wd C Y1 og)) rfl ?_
      refine am_callS_r (As := [.int ((V.2.2.2 v).getD k 0)]) (rest := []) ok_M_putName rfl rfl ok_M_isRegular os_M_isRegular lk_6_85 rfl rfl (Nat.le_of_ble_eq_true rfl) (c_M_isRegular _ C Y1 og ((V.2.2.2 v).getD k 0)) ?_
      rintro v_ w_ ⟨rfl, rfl⟩ -
      refine am_eq_r (q' := (36, [some (.ref 19), some (.int (nI v)), some (.int (nI k)), some (.int ((V.2.2.2 v).getD k 0))], [.int (bz (isReg ((V.2.2.2 v).getD k 0)))], wd C Y1 og)) rfl ?_
      refine am_steps_r ok_M_putName 1 (q' := (bif decide ((bz (isReg ((V.2.2.2 v).getD k 0))) = 0) then 53 else 39, [some (.ref 19), some (.int (nI v)), some (.int (nI k)), some (.int ((V.2.2.2 v).getD k 0))], [], wd C Y1 og)) rfl ?_
      refine am_bz_r (fun h_3 => ?_) (fun h_3 => ?_)
      · skip
        refine am_steps_r ok_M_putName 3 (q' := (bif decide (((V.2.2.2 v).getD k 0) = 35) then 53 else 45, [some (.ref 19), some (.int (nI v)), some (.int (nI k)), some (.int ((V.2.2.2 v).getD k 0))], [], wd C Y1 og)) rfl ?_
        refine am_br_r (fun h_4 => ?_) (fun h_4 => ?_)
        · skip
          refine am_steps_r ok_M_putName 2 (q' := (56, [some (.ref 19), some (.int (nI v)), some (.int (nI k)), some (.int ((V.2.2.2 v).getD k 0))], [.int 35, .ref 19], wd C Y1 og)) rfl ?_
          refine am_callV_r (As := [.int 35]) (rest := []) ok_M_putName rfl rfl ok_M_put oi_M_put lk_6_270 (Or.inl ⟨_, _, _, rfl, rfl, rfl⟩) rfl rfl (Nat.le_of_ble_eq_true rfl) (c_M_put _ C Y og rd A hr hrd bf L (by omega) Y1 h1 35 (by rw [drop_get (bs := V.2.2.2 v) (k := k) (by omega), show nwL (((V.2.2.2 v).getD k 0) :: (V.2.2.2 v).drop (k + 1)) = nwC ((V.2.2.2 v).getD k 0) ++ nwL ((V.2.2.2 v).drop (k + 1)) from rfl] at hb; rw [show nwC ((V.2.2.2 v).getD k 0) = 35 :: hxL ((V.2.2.2 v).getD k 0) by first | exact nw_1 (by assumption) (by assumption) | exact nw_2 (by assumption) | exact nw_3 (by assumption)] at hb; simp only [hxL, List.length_append, List.length_cons, List.length_nil] at hb ⊢; omega)) ?_
          rintro v_ w_ ⟨rfl, Y_5, rfl, hY_6⟩ -
          refine am_eq_r (q' := (59, [some (.ref 19), some (.int (nI v)), some (.int (nI k)), some (.int ((V.2.2.2 v).getD k 0))], [], wd C Y_5 og)) rfl ?_
          refine am_steps_r ok_M_putName 2 (q' := (61, [some (.ref 19), some (.int (nI v)), some (.int (nI k)), some (.int ((V.2.2.2 v).getD k 0))], [.int ((V.2.2.2 v).getD k 0), .ref 19], wd C Y_5 og)) rfl ?_
          obtain ⟨j, hj, hej⟩ := hby v hv k (by omega)
          have hb9 : (L ++ [35]).length + 2 < 2147483648 := (by rw [drop_get (bs := V.2.2.2 v) (k := k) (by omega), show nwL (((V.2.2.2 v).getD k 0) :: (V.2.2.2 v).drop (k + 1)) = nwC ((V.2.2.2 v).getD k 0) ++ nwL ((V.2.2.2 v).drop (k + 1)) from rfl] at hb; rw [show nwC ((V.2.2.2 v).getD k 0) = 35 :: hxL ((V.2.2.2 v).getD k 0) by first | exact nw_1 (by assumption) (by assumption) | exact nw_2 (by assumption) | exact nw_3 (by assumption)] at hb; simp only [hxL, List.length_append, List.length_cons, List.length_nil] at hb ⊢; omega)
          have hc9 := c_M_putHex (l := l) (D := D) (cA := cA) (ad := ad) (fm := fm) d C Y og rd A hr hrd bf (L ++ [35]) (by omega) Y_5 hY_6 j hj hb9
          rw [← hej] at hc9
          refine am_callV_r (As := [.int ((V.2.2.2 v).getD k 0)]) (rest := []) ok_M_putName rfl rfl ok_M_putHex oi_M_putHex lk_6_289 (Or.inl ⟨_, _, _, rfl, rfl, rfl⟩) rfl rfl (Nat.le_of_ble_eq_true rfl) hc9 ?_
          rintro v_ w_ ⟨rfl, Y_7, rfl, hY_8⟩ -
          refine am_eq_r (q' := (64, [some (.ref 19), some (.int (nI v)), some (.int (nI k)), some (.int ((V.2.2.2 v).getD k 0))], [], wd C Y_7 og)) rfl ?_
          refine am_steps_r ok_M_putName 2 (q' := (8, [some (.ref 19), some (.int (nI v)), some (.int ((nI k) + 1)), some (.int ((V.2.2.2 v).getD k 0))], [], wd C Y_7 og)) rfl ?_
          rw [show ((nI k) + 1 : Int32) = nI (k + 1) from nI_add k 1]
          refine am_drop_r [3] (L' := [some (.ref 19), some (.int (nI v)), some (.int (nI (k + 1))), none]) rfl ?_
          have e9 : nwC ((V.2.2.2 v).getD k 0) = (35 :: hxL ((V.2.2.2 v).getD k 0)) := by first | exact nw_1 (by assumption) (by assumption) | exact nw_2 (by assumption) | exact nw_3 (by assumption)
          have hC9 : Y_7 = yE Y A (bf, (L ++ (35 :: hxL ((V.2.2.2 v).getD k 0)))) := by rw [hY_8]; simp only [List.append_assoc, List.cons_append, List.nil_append]
          exact ih post (k + 1) (L ++ (35 :: hxL ((V.2.2.2 v).getD k 0))) Y_7 hC9 (by omega) (by rw [drop_get (bs := V.2.2.2 v) (k := k) (by omega), show nwL (((V.2.2.2 v).getD k 0) :: (V.2.2.2 v).drop (k + 1)) = nwC ((V.2.2.2 v).getD k 0) ++ nwL ((V.2.2.2 v).drop (k + 1)) from rfl, e9, ← List.append_assoc] at hb; exact hb) (by rw [drop_get (bs := V.2.2.2 v) (k := k) (by omega), show nwL (((V.2.2.2 v).getD k 0) :: (V.2.2.2 v).drop (k + 1)) = nwC ((V.2.2.2 v).getD k 0) ++ nwL ((V.2.2.2 v).drop (k + 1)) from rfl, e9, ← List.append_assoc] at hpo; exact hpo) (by omega)
        · skip
          refine am_steps_r ok_M_putName 2 (q' := (47, [some (.ref 19), some (.int (nI v)), some (.int (nI k)), some (.int ((V.2.2.2 v).getD k 0))], [.int ((V.2.2.2 v).getD k 0), .ref 19], wd C Y1 og)) rfl ?_
          refine am_callV_r (As := [.int ((V.2.2.2 v).getD k 0)]) (rest := []) ok_M_putName rfl rfl ok_M_put oi_M_put lk_6_270 (Or.inl ⟨_, _, _, rfl, rfl, rfl⟩) rfl rfl (Nat.le_of_ble_eq_true rfl) (c_M_put _ C Y og rd A hr hrd bf L (by omega) Y1 h1 ((V.2.2.2 v).getD k 0) (by rw [drop_get (bs := V.2.2.2 v) (k := k) (by omega), show nwL (((V.2.2.2 v).getD k 0) :: (V.2.2.2 v).drop (k + 1)) = nwC ((V.2.2.2 v).getD k 0) ++ nwL ((V.2.2.2 v).drop (k + 1)) from rfl] at hb; rw [show nwC ((V.2.2.2 v).getD k 0) = [((V.2.2.2 v).getD k 0)] by first | exact nw_1 (by assumption) (by assumption) | exact nw_2 (by assumption) | exact nw_3 (by assumption)] at hb; simp only [hxL, List.length_append, List.length_cons, List.length_nil] at hb ⊢; omega)) ?_
          rintro v_ w_ ⟨rfl, Y_9, rfl, hY_10⟩ -
          refine am_eq_r (q' := (50, [some (.ref 19), some (.int (nI v)), some (.int (nI k)), some (.int ((V.2.2.2 v).getD k 0))], [], wd C Y_9 og)) rfl ?_
          refine am_steps_r ok_M_putName 3 (q' := (8, [some (.ref 19), some (.int (nI v)), some (.int ((nI k) + 1)), some (.int ((V.2.2.2 v).getD k 0))], [], wd C Y_9 og)) rfl ?_
          rw [show ((nI k) + 1 : Int32) = nI (k + 1) from nI_add k 1]
          refine am_drop_r [3] (L' := [some (.ref 19), some (.int (nI v)), some (.int (nI (k + 1))), none]) rfl ?_
          have e9 : nwC ((V.2.2.2 v).getD k 0) = [((V.2.2.2 v).getD k 0)] := by first | exact nw_1 (by assumption) (by assumption) | exact nw_2 (by assumption) | exact nw_3 (by assumption)
          exact ih post (k + 1) (L ++ [((V.2.2.2 v).getD k 0)]) Y_9 hY_10 (by omega) (by rw [drop_get (bs := V.2.2.2 v) (k := k) (by omega), show nwL (((V.2.2.2 v).getD k 0) :: (V.2.2.2 v).drop (k + 1)) = nwC ((V.2.2.2 v).getD k 0) ++ nwL ((V.2.2.2 v).drop (k + 1)) from rfl, e9, ← List.append_assoc] at hb; exact hb) (by rw [drop_get (bs := V.2.2.2 v) (k := k) (by omega), show nwL (((V.2.2.2 v).getD k 0) :: (V.2.2.2 v).drop (k + 1)) = nwC ((V.2.2.2 v).getD k 0) ++ nwL ((V.2.2.2 v).drop (k + 1)) from rfl, e9, ← List.append_assoc] at hpo; exact hpo) (by omega)
      · skip
        refine am_steps_r ok_M_putName 2 (q' := (56, [some (.ref 19), some (.int (nI v)), some (.int (nI k)), some (.int ((V.2.2.2 v).getD k 0))], [.int 35, .ref 19], wd C Y1 og)) rfl ?_
        refine am_callV_r (As := [.int 35]) (rest := []) ok_M_putName rfl rfl ok_M_put oi_M_put lk_6_270 (Or.inl ⟨_, _, _, rfl, rfl, rfl⟩) rfl rfl (Nat.le_of_ble_eq_true rfl) (c_M_put _ C Y og rd A hr hrd bf L (by omega) Y1 h1 35 (by rw [drop_get (bs := V.2.2.2 v) (k := k) (by omega), show nwL (((V.2.2.2 v).getD k 0) :: (V.2.2.2 v).drop (k + 1)) = nwC ((V.2.2.2 v).getD k 0) ++ nwL ((V.2.2.2 v).drop (k + 1)) from rfl] at hb; rw [show nwC ((V.2.2.2 v).getD k 0) = 35 :: hxL ((V.2.2.2 v).getD k 0) by first | exact nw_1 (by assumption) (by assumption) | exact nw_2 (by assumption) | exact nw_3 (by assumption)] at hb; simp only [hxL, List.length_append, List.length_cons, List.length_nil] at hb ⊢; omega)) ?_
        rintro v_ w_ ⟨rfl, Y_11, rfl, hY_12⟩ -
        refine am_eq_r (q' := (59, [some (.ref 19), some (.int (nI v)), some (.int (nI k)), some (.int ((V.2.2.2 v).getD k 0))], [], wd C Y_11 og)) rfl ?_
        refine am_steps_r ok_M_putName 2 (q' := (61, [some (.ref 19), some (.int (nI v)), some (.int (nI k)), some (.int ((V.2.2.2 v).getD k 0))], [.int ((V.2.2.2 v).getD k 0), .ref 19], wd C Y_11 og)) rfl ?_
        obtain ⟨j, hj, hej⟩ := hby v hv k (by omega)
        have hb9 : (L ++ [35]).length + 2 < 2147483648 := (by rw [drop_get (bs := V.2.2.2 v) (k := k) (by omega), show nwL (((V.2.2.2 v).getD k 0) :: (V.2.2.2 v).drop (k + 1)) = nwC ((V.2.2.2 v).getD k 0) ++ nwL ((V.2.2.2 v).drop (k + 1)) from rfl] at hb; rw [show nwC ((V.2.2.2 v).getD k 0) = 35 :: hxL ((V.2.2.2 v).getD k 0) by first | exact nw_1 (by assumption) (by assumption) | exact nw_2 (by assumption) | exact nw_3 (by assumption)] at hb; simp only [hxL, List.length_append, List.length_cons, List.length_nil] at hb ⊢; omega)
        have hc9 := c_M_putHex (l := l) (D := D) (cA := cA) (ad := ad) (fm := fm) d C Y og rd A hr hrd bf (L ++ [35]) (by omega) Y_11 hY_12 j hj hb9
        rw [← hej] at hc9
        refine am_callV_r (As := [.int ((V.2.2.2 v).getD k 0)]) (rest := []) ok_M_putName rfl rfl ok_M_putHex oi_M_putHex lk_6_289 (Or.inl ⟨_, _, _, rfl, rfl, rfl⟩) rfl rfl (Nat.le_of_ble_eq_true rfl) hc9 ?_
        rintro v_ w_ ⟨rfl, Y_13, rfl, hY_14⟩ -
        refine am_eq_r (q' := (64, [some (.ref 19), some (.int (nI v)), some (.int (nI k)), some (.int ((V.2.2.2 v).getD k 0))], [], wd C Y_13 og)) rfl ?_
        refine am_steps_r ok_M_putName 2 (q' := (8, [some (.ref 19), some (.int (nI v)), some (.int ((nI k) + 1)), some (.int ((V.2.2.2 v).getD k 0))], [], wd C Y_13 og)) rfl ?_
        rw [show ((nI k) + 1 : Int32) = nI (k + 1) from nI_add k 1]
        refine am_drop_r [3] (L' := [some (.ref 19), some (.int (nI v)), some (.int (nI (k + 1))), none]) rfl ?_
        have e9 : nwC ((V.2.2.2 v).getD k 0) = (35 :: hxL ((V.2.2.2 v).getD k 0)) := by first | exact nw_1 (by assumption) (by assumption) | exact nw_2 (by assumption) | exact nw_3 (by assumption)
        have hC9 : Y_13 = yE Y A (bf, (L ++ (35 :: hxL ((V.2.2.2 v).getD k 0)))) := by rw [hY_14]; simp only [List.append_assoc, List.cons_append, List.nil_append]
        exact ih post (k + 1) (L ++ (35 :: hxL ((V.2.2.2 v).getD k 0))) Y_13 hC9 (by omega) (by rw [drop_get (bs := V.2.2.2 v) (k := k) (by omega), show nwL (((V.2.2.2 v).getD k 0) :: (V.2.2.2 v).drop (k + 1)) = nwC ((V.2.2.2 v).getD k 0) ++ nwL ((V.2.2.2 v).drop (k + 1)) from rfl, e9, ← List.append_assoc] at hb; exact hb) (by rw [drop_get (bs := V.2.2.2 v) (k := k) (by omega), show nwL (((V.2.2.2 v).getD k 0) :: (V.2.2.2 v).drop (k + 1)) = nwC ((V.2.2.2 v).getD k 0) ++ nwL ((V.2.2.2 v).drop (k + 1)) from rfl, e9, ← List.append_assoc] at hpo; exact hpo) (by omega)
set_option maxHeartbeats 4000000 in
set_option maxRecDepth 100000 in
theorem c_M_putName (d : Nat) (C : wd_C) (Y : wd_Y) (og : Nat → Int64) (rd : Nat) (A : Nat → Int32) (hr : Y.1 16 = nI rd) (hrd : rd ≤ 1) (bf : Nat) (L : List Int32) (hbf : bf ≤ 5) (Y1 : wd_Y) (h1 : Y1 = yE Y A (bf, L)) (nv u : Nat) (V : VT) (hY : vsY Y nv u V) (hby : ∀ w, w < nv → ∀ k, k < (V.2.2.2 w).length → ∃ j, j < 256 ∧ (V.2.2.2 w).getD k 0 = nI j) (v : Nat) (hv : v < nv) (hb : L.length + (nwL (V.2.2.2 v)).length + 10 < 2147483648) : am_Mt l D cA ad fm (d + 2) m_M_putName [.ref 19, .int (nI v)] (wd C Y1 og) (fun vr w' => vr = none ∧ ∃ Y2, w' = wd C Y2 og ∧ Y2 = yE Y A (bf, L ++ (47 :: nwL (V.2.2.2 v)))) := by
  have hnv := hY.1.2.1
  refine am_mt ok_M_putName (by simp [am_arg, Value.category, m_M_putName, am_ml]) ?_
  refine am_eq_r (q' := (0, [some (.ref 19), some (.int (nI v)), none, none], [], wd C Y1 og)) rfl ?_
  refine am_steps_r ok_M_putName 2 (q' := (3, [some (.ref 19), some (.int (nI v)), none, none], [.int 47, .ref 19], wd C Y1 og)) rfl ?_
  refine am_callV_r (As := [.int 47]) (rest := []) ok_M_putName rfl rfl ok_M_put oi_M_put lk_6_270 (Or.inl ⟨_, _, _, rfl, rfl, rfl⟩) rfl rfl (Nat.le_of_ble_eq_true rfl) (c_M_put _ C Y og rd A hr hrd bf L (by omega) Y1 h1 47 (by first | omega | (simp only [List.length_append, List.length_cons, List.length_nil] at hb ⊢; omega) | (simp only [List.length_append, List.length_cons, List.length_nil]; omega))) ?_
  rintro v_ w_ ⟨rfl, Y_1, rfl, hY_2⟩ -
  refine am_eq_r (q' := (6, [some (.ref 19), some (.int (nI v)), none, none], [], wd C Y_1 og)) rfl ?_
  refine am_steps_r ok_M_putName 2 (q' := (8, [some (.ref 19), some (.int (nI v)), some (.int 0), none], [], wd C Y_1 og)) rfl ?_
  refine am_eq_r (q' := (8, [some (.ref 19), some (.int (nI v)), some (.int (nI 0)), none], [], wd C Y_1 og)) rfl ?_
  exact lp_M_putName_8 d C Y og rd A hr hrd bf (by omega) nv u V hY hby v hv ((V.2.2.2 v).length + 1) _ 0 (L ++ [47]) Y_1 hY_2 (Nat.zero_le _) (by rw [List.drop_zero]; first | omega | (simp only [List.length_append, List.length_cons, List.length_nil] at hb ⊢; omega) | (simp only [List.length_append, List.length_cons, List.length_nil]; omega)) (fun Y2 h2 => ⟨rfl, Y2, rfl, by rw [h2, app_app1]; rfl⟩) (by omega)
set_option maxHeartbeats 4000000 in
set_option maxRecDepth 100000 in
theorem lp_M_putString_109 (d : Nat) (C : wd_C) (Y : wd_Y) (og : Nat → Int64) (rd : Nat) (A : Nat → Int32) (hr : Y.1 16 = nI rd) (hrd : rd ≤ 1) (bf : Nat) (hbf : bf ≤ 5) (nv u : Nat) (V : VT) (hY : vsY Y nv u V) (hby : ∀ w, w < nv → ∀ k, k < (V.2.2.2 w).length → ∃ j, j < 256 ∧ (V.2.2.2 w).getD k 0 = nI j) (v : Nat) (hv : v < nv) (pl : Nat)  : ∀ (fu : Nat) (post : Option Value → am_W → Prop) (k : Nat) (L : List Int32) (Y1 : wd_Y), (Y1 = yE Y A (bf, L)) → (k ≤ (V.2.2.2 v).length) → ((L ++ (swL ((V.2.2.2 v).drop k))).length + 1 < 2147483648) → (∀ Y2, Y2 = yE Y A (bf, L ++ (swL ((V.2.2.2 v).drop k)) ++ [41]) → post none (wd C Y2 og)) → (V.2.2.2 v).length - k < fu → am_Rn l D cA ad fm (d + 2) m_M_putString (wd C Y og).length post (109, [some (.ref 19), some (.int (nI v)), some (.int (nI pl)), some (.int 0), some (.int (nI k)), none], [], wd C Y1 og) := by
  intro fu
  induction fu with
  | zero => intro post k L Y1 h1 hkl hb hpo hfu; exact absurd hfu (Nat.not_lt_zero _)
  | succ fu ih =>
    intro post k L Y1 h1 hkl hb hpo hfu
    have hnv := hY.1.2.1
    have hu2 := hY.1.2.2.2
    have hvl := yq_len hY hv
    obtain ⟨s0, s1, s2, s3, s4⟩ := (hY.2 v hv).2.2.2.1
    refine am_steps_r ok_M_putString 4 (q' := (116, [some (.ref 19), some (.int (nI v)), some (.int (nI pl)), some (.int 0), some (.int (nI k)), none], [.int (nI v), .ref 29, .int (nI k)], wd C Y1 og)) rfl ?_
    refine am_iald_r ok_M_putString rfl (w := wd C Y1 og) (f := Y1.2.1 8) rfl rfl (pk_in v 300 (by omega)) ?_
    rw [nI_clamp (show v < 2 ^ 31 by omega)]
    rw [show (Y1.2.1 8 v) = nI (V.2.2.2 v).length from yq_8 hY h1 (v := v) (by omega)]
    refine am_steps_r ok_M_putString 1 (q' := (bif decide ((nI ((V.2.2.2 v).length)) ≤ (nI k)) then 207 else 120, [some (.ref 19), some (.int (nI v)), some (.int (nI pl)), some (.int 0), some (.int (nI k)), none], [], wd C Y1 og)) rfl ?_
    refine am_br_r (fun h_1 => ?_) (fun h_1 => ?_)
    · skip
      have h_1 : ((V.2.2.2 v).length) ≤ k := (nI_leI (show ((V.2.2.2 v).length) < 2 ^ 31 by omega) (show k < 2 ^ 31 by omega)).mp h_1
      refine am_steps_r ok_M_putString 4 (q' := (219, [some (.ref 19), some (.int (nI v)), some (.int (nI pl)), some (.int 0), some (.int (nI k)), none], [.int 41, .ref 19], wd C Y1 og)) rfl ?_
      refine am_callV_r (As := [.int 41]) (rest := []) ok_M_putString rfl rfl ok_M_put oi_M_put lk_6_270 (Or.inl ⟨_, _, _, rfl, rfl, rfl⟩) rfl rfl (Nat.le_of_ble_eq_true rfl) (c_M_put _ C Y og rd A hr hrd bf L (by omega) Y1 h1 41 (by first | omega | (simp only [List.length_append, List.length_cons, List.length_nil] at hb ⊢; omega) | (simp only [List.length_append, List.length_cons, List.length_nil]; omega))) ?_
      rintro v_ w_ ⟨rfl, Y_2, rfl, hY_3⟩ -
      refine am_eq_r (q' := (222, [some (.ref 19), some (.int (nI v)), some (.int (nI pl)), some (.int 0), some (.int (nI k)), none], [], wd C Y_2 og)) rfl ?_
      refine am_vret_r ok_M_putString rfl rfl rfl ?_
      exact hpo _ (by rw [List.drop_eq_nil_of_le (by omega)]; simp only [swL, List.append_nil]; exact hY_3)
    · skip
      have h_1 : ¬ ((V.2.2.2 v).length) ≤ k := fun z => h_1 ((nI_leI (show ((V.2.2.2 v).length) < 2 ^ 31 by omega) (show k < 2 ^ 31 by omega)).mpr z)
      refine am_steps_r ok_M_putString 5 (q' := (129, [some (.ref 19), some (.int (nI v)), some (.int (nI pl)), some (.int 0), some (.int (nI k)), none], [.int (nI v), .ref 28, .ref 30], wd C Y1 og)) rfl ?_
      refine am_iald_r ok_M_putString rfl (w := wd C Y1 og) (f := Y1.2.1 7) rfl rfl (pk_in v 300 (by omega)) ?_
      rw [nI_clamp (show v < 2 ^ 31 by omega)]
      rw [show (Y1.2.1 7 v) = nI s0 from (congrFun (ya h1 (by decide)) v).trans s1]
      refine am_steps_r ok_M_putString 2 (q' := (133, [some (.ref 19), some (.int (nI v)), some (.int (nI pl)), some (.int 0), some (.int (nI k)), none], [.int ((nI s0) + (nI k)), .ref 30], wd C Y1 og)) rfl ?_
      rw [show ((nI s0) + (nI k) : Int32) = nI (s0 + k) from nI_add s0 k]
      refine am_iald_r ok_M_putString rfl (w := wd C Y1 og) (f := Y1.2.1 9) rfl rfl (pk_in (s0 + k) 2000 (by omega)) ?_
      rw [nI_clamp (show (s0 + k) < 2 ^ 31 by omega)]
      rw [show (Y1.2.1 9 (s0 + k)) = (V.2.2.2 v).getD k 0 from (congrFun (ya h1 (by decide)) (s0 + k)).trans (s4 k (by omega))]
      refine am_steps_r ok_M_putString 6 (q' := (bif decide (((V.2.2.2 v).getD k 0) = 92) then 177 else 156, [some (.ref 19), some (.int (nI v)), some (.int (nI pl)), some (.int 0), some (.int (nI k)), some (.int ((V.2.2.2 v).getD k 0))], [], wd C Y1 og)) rfl ?_
      refine am_br_r (fun h_4 => ?_) (fun h_4 => ?_)
      · skip
        refine am_steps_r ok_M_putString 2 (q' := (180, [some (.ref 19), some (.int (nI v)), some (.int (nI pl)), some (.int 0), some (.int (nI k)), some (.int ((V.2.2.2 v).getD k 0))], [.int 92, .ref 19], wd C Y1 og)) rfl ?_
        refine am_callV_r (As := [.int 92]) (rest := []) ok_M_putString rfl rfl ok_M_put oi_M_put lk_6_270 (Or.inl ⟨_, _, _, rfl, rfl, rfl⟩) rfl rfl (Nat.le_of_ble_eq_true rfl) (c_M_put _ C Y og rd A hr hrd bf L (by omega) Y1 h1 92 (by rw [drop_get (bs := V.2.2.2 v) (k := k) (by omega), show swL (((V.2.2.2 v).getD k 0) :: (V.2.2.2 v).drop (k + 1)) = swC ((V.2.2.2 v).getD k 0) ++ swL ((V.2.2.2 v).drop (k + 1)) from rfl, sw_2 (c := ((V.2.2.2 v).getD k 0)) (by first | exact Or.inl h_4 | exact Or.inr (Or.inl h_4) | exact Or.inr (Or.inr (Or.inl h_4)) | exact Or.inr (Or.inr (Or.inr h_4)))] at hb; simp only [List.length_append, List.length_cons, List.length_nil] at hb ⊢; omega)) ?_
        rintro v_ w_ ⟨rfl, Y_5, rfl, hY_6⟩ -
        refine am_eq_r (q' := (183, [some (.ref 19), some (.int (nI v)), some (.int (nI pl)), some (.int 0), some (.int (nI k)), some (.int ((V.2.2.2 v).getD k 0))], [], wd C Y_5 og)) rfl ?_
        refine am_steps_r ok_M_putString 4 (q' := (bif decide (((V.2.2.2 v).getD k 0) = 13) then 191 else 196, [some (.ref 19), some (.int (nI v)), some (.int (nI pl)), some (.int 0), some (.int (nI k)), some (.int ((V.2.2.2 v).getD k 0))], [.ref 19], wd C Y_5 og)) rfl ?_
        refine am_br_r (fun h_7 => ?_) (fun h_7 => ?_)
        · skip
          exact absurd (h_4.symm.trans h_7) (by decide)
        · skip
          refine am_steps_r ok_M_putString 1 (q' := (198, [some (.ref 19), some (.int (nI v)), some (.int (nI pl)), some (.int 0), some (.int (nI k)), some (.int ((V.2.2.2 v).getD k 0))], [.int ((V.2.2.2 v).getD k 0), .ref 19], wd C Y_5 og)) rfl ?_
          refine am_callV_r (As := [.int ((V.2.2.2 v).getD k 0)]) (rest := []) ok_M_putString rfl rfl ok_M_put oi_M_put lk_6_270 (Or.inl ⟨_, _, _, rfl, rfl, rfl⟩) rfl rfl (Nat.le_of_ble_eq_true rfl) (c_M_put _ C Y og rd A hr hrd bf (L ++ [92]) (by omega) Y_5 hY_6 ((V.2.2.2 v).getD k 0) (by rw [drop_get (bs := V.2.2.2 v) (k := k) (by omega), show swL (((V.2.2.2 v).getD k 0) :: (V.2.2.2 v).drop (k + 1)) = swC ((V.2.2.2 v).getD k 0) ++ swL ((V.2.2.2 v).drop (k + 1)) from rfl] at hb; rw [show swC ((V.2.2.2 v).getD k 0) = [92, ((V.2.2.2 v).getD k 0)] by first | exact sw_0 (by assumption) (by assumption) (by assumption) (by assumption) | exact sw_r (by assumption) | exact sw_y (Or.inl (by assumption)) (by assumption) | exact sw_y (Or.inr (Or.inl (by assumption))) (by assumption) | exact sw_y (Or.inr (Or.inr (by assumption))) (by assumption)] at hb; first | omega | (simp only [List.length_append, List.length_cons, List.length_nil] at hb ⊢; omega) | (simp only [List.length_append, List.length_cons, List.length_nil]; omega))) ?_
          rintro v_ w_ ⟨rfl, Y_8, rfl, hY_9⟩ -
          refine am_eq_r (q' := (201, [some (.ref 19), some (.int (nI v)), some (.int (nI pl)), some (.int 0), some (.int (nI k)), some (.int ((V.2.2.2 v).getD k 0))], [], wd C Y_8 og)) rfl ?_
          refine am_steps_r ok_M_putString 2 (q' := (109, [some (.ref 19), some (.int (nI v)), some (.int (nI pl)), some (.int 0), some (.int ((nI k) + 1)), some (.int ((V.2.2.2 v).getD k 0))], [], wd C Y_8 og)) rfl ?_
          rw [show ((nI k) + 1 : Int32) = nI (k + 1) from nI_add k 1]
          refine am_drop_r [5] (L' := [some (.ref 19), some (.int (nI v)), some (.int (nI pl)), some (.int 0), some (.int (nI (k + 1))), none]) rfl ?_
          have e9 : swC ((V.2.2.2 v).getD k 0) = [92, ((V.2.2.2 v).getD k 0)] := by first | exact sw_0 (by assumption) (by assumption) (by assumption) (by assumption) | exact sw_r (by assumption) | exact sw_y (Or.inl (by assumption)) (by assumption) | exact sw_y (Or.inr (Or.inl (by assumption))) (by assumption) | exact sw_y (Or.inr (Or.inr (by assumption))) (by assumption)
          have hC9 : Y_8 = yE Y A (bf, (L ++ [92, ((V.2.2.2 v).getD k 0)])) := by rw [hY_9]; simp only [List.append_assoc, List.cons_append, List.nil_append]
          exact ih post (k + 1) (L ++ [92, ((V.2.2.2 v).getD k 0)]) Y_8 hC9 (by omega) (by rw [drop_get (bs := V.2.2.2 v) (k := k) (by omega), show swL (((V.2.2.2 v).getD k 0) :: (V.2.2.2 v).drop (k + 1)) = swC ((V.2.2.2 v).getD k 0) ++ swL ((V.2.2.2 v).drop (k + 1)) from rfl, e9, ← List.append_assoc] at hb; exact hb) (by rw [drop_get (bs := V.2.2.2 v) (k := k) (by omega), show swL (((V.2.2.2 v).getD k 0) :: (V.2.2.2 v).drop (k + 1)) = swC ((V.2.2.2 v).getD k 0) ++ swL ((V.2.2.2 v).drop (k + 1)) from rfl, e9, ← List.append_assoc] at hpo; exact hpo) (by omega)
      · skip
        refine am_steps_r ok_M_putString 3 (q' := (bif decide (((V.2.2.2 v).getD k 0) = 40) then 177 else 163, [some (.ref 19), some (.int (nI v)), some (.int (nI pl)), some (.int 0), some (.int (nI k)), some (.int ((V.2.2.2 v).getD k 0))], [], wd C Y1 og)) rfl ?_
        refine am_br_r (fun h_10 => ?_) (fun h_10 => ?_)
        · skip
          refine am_steps_r ok_M_putString 2 (q' := (180, [some (.ref 19), some (.int (nI v)), some (.int (nI pl)), some (.int 0), some (.int (nI k)), some (.int ((V.2.2.2 v).getD k 0))], [.int 92, .ref 19], wd C Y1 og)) rfl ?_
          refine am_callV_r (As := [.int 92]) (rest := []) ok_M_putString rfl rfl ok_M_put oi_M_put lk_6_270 (Or.inl ⟨_, _, _, rfl, rfl, rfl⟩) rfl rfl (Nat.le_of_ble_eq_true rfl) (c_M_put _ C Y og rd A hr hrd bf L (by omega) Y1 h1 92 (by rw [drop_get (bs := V.2.2.2 v) (k := k) (by omega), show swL (((V.2.2.2 v).getD k 0) :: (V.2.2.2 v).drop (k + 1)) = swC ((V.2.2.2 v).getD k 0) ++ swL ((V.2.2.2 v).drop (k + 1)) from rfl, sw_2 (c := ((V.2.2.2 v).getD k 0)) (by first | exact Or.inl h_10 | exact Or.inr (Or.inl h_10) | exact Or.inr (Or.inr (Or.inl h_10)) | exact Or.inr (Or.inr (Or.inr h_10)))] at hb; simp only [List.length_append, List.length_cons, List.length_nil] at hb ⊢; omega)) ?_
          rintro v_ w_ ⟨rfl, Y_11, rfl, hY_12⟩ -
          refine am_eq_r (q' := (183, [some (.ref 19), some (.int (nI v)), some (.int (nI pl)), some (.int 0), some (.int (nI k)), some (.int ((V.2.2.2 v).getD k 0))], [], wd C Y_11 og)) rfl ?_
          refine am_steps_r ok_M_putString 4 (q' := (bif decide (((V.2.2.2 v).getD k 0) = 13) then 191 else 196, [some (.ref 19), some (.int (nI v)), some (.int (nI pl)), some (.int 0), some (.int (nI k)), some (.int ((V.2.2.2 v).getD k 0))], [.ref 19], wd C Y_11 og)) rfl ?_
          refine am_br_r (fun h_13 => ?_) (fun h_13 => ?_)
          · skip
            exact absurd (h_10.symm.trans h_13) (by decide)
          · skip
            refine am_steps_r ok_M_putString 1 (q' := (198, [some (.ref 19), some (.int (nI v)), some (.int (nI pl)), some (.int 0), some (.int (nI k)), some (.int ((V.2.2.2 v).getD k 0))], [.int ((V.2.2.2 v).getD k 0), .ref 19], wd C Y_11 og)) rfl ?_
            refine am_callV_r (As := [.int ((V.2.2.2 v).getD k 0)]) (rest := []) ok_M_putString rfl rfl ok_M_put oi_M_put lk_6_270 (Or.inl ⟨_, _, _, rfl, rfl, rfl⟩) rfl rfl (Nat.le_of_ble_eq_true rfl) (c_M_put _ C Y og rd A hr hrd bf (L ++ [92]) (by omega) Y_11 hY_12 ((V.2.2.2 v).getD k 0) (by rw [drop_get (bs := V.2.2.2 v) (k := k) (by omega), show swL (((V.2.2.2 v).getD k 0) :: (V.2.2.2 v).drop (k + 1)) = swC ((V.2.2.2 v).getD k 0) ++ swL ((V.2.2.2 v).drop (k + 1)) from rfl] at hb; rw [show swC ((V.2.2.2 v).getD k 0) = [92, ((V.2.2.2 v).getD k 0)] by first | exact sw_0 (by assumption) (by assumption) (by assumption) (by assumption) | exact sw_r (by assumption) | exact sw_y (Or.inl (by assumption)) (by assumption) | exact sw_y (Or.inr (Or.inl (by assumption))) (by assumption) | exact sw_y (Or.inr (Or.inr (by assumption))) (by assumption)] at hb; first | omega | (simp only [List.length_append, List.length_cons, List.length_nil] at hb ⊢; omega) | (simp only [List.length_append, List.length_cons, List.length_nil]; omega))) ?_
            rintro v_ w_ ⟨rfl, Y_14, rfl, hY_15⟩ -
            refine am_eq_r (q' := (201, [some (.ref 19), some (.int (nI v)), some (.int (nI pl)), some (.int 0), some (.int (nI k)), some (.int ((V.2.2.2 v).getD k 0))], [], wd C Y_14 og)) rfl ?_
            refine am_steps_r ok_M_putString 2 (q' := (109, [some (.ref 19), some (.int (nI v)), some (.int (nI pl)), some (.int 0), some (.int ((nI k) + 1)), some (.int ((V.2.2.2 v).getD k 0))], [], wd C Y_14 og)) rfl ?_
            rw [show ((nI k) + 1 : Int32) = nI (k + 1) from nI_add k 1]
            refine am_drop_r [5] (L' := [some (.ref 19), some (.int (nI v)), some (.int (nI pl)), some (.int 0), some (.int (nI (k + 1))), none]) rfl ?_
            have e9 : swC ((V.2.2.2 v).getD k 0) = [92, ((V.2.2.2 v).getD k 0)] := by first | exact sw_0 (by assumption) (by assumption) (by assumption) (by assumption) | exact sw_r (by assumption) | exact sw_y (Or.inl (by assumption)) (by assumption) | exact sw_y (Or.inr (Or.inl (by assumption))) (by assumption) | exact sw_y (Or.inr (Or.inr (by assumption))) (by assumption)
            have hC9 : Y_14 = yE Y A (bf, (L ++ [92, ((V.2.2.2 v).getD k 0)])) := by rw [hY_15]; simp only [List.append_assoc, List.cons_append, List.nil_append]
            exact ih post (k + 1) (L ++ [92, ((V.2.2.2 v).getD k 0)]) Y_14 hC9 (by omega) (by rw [drop_get (bs := V.2.2.2 v) (k := k) (by omega), show swL (((V.2.2.2 v).getD k 0) :: (V.2.2.2 v).drop (k + 1)) = swC ((V.2.2.2 v).getD k 0) ++ swL ((V.2.2.2 v).drop (k + 1)) from rfl, e9, ← List.append_assoc] at hb; exact hb) (by rw [drop_get (bs := V.2.2.2 v) (k := k) (by omega), show swL (((V.2.2.2 v).getD k 0) :: (V.2.2.2 v).drop (k + 1)) = swC ((V.2.2.2 v).getD k 0) ++ swL ((V.2.2.2 v).drop (k + 1)) from rfl, e9, ← List.append_assoc] at hpo; exact hpo) (by omega)
        · skip
          refine am_steps_r ok_M_putString 3 (q' := (bif decide (((V.2.2.2 v).getD k 0) = 41) then 177 else 170, [some (.ref 19), some (.int (nI v)), some (.int (nI pl)), some (.int 0), some (.int (nI k)), some (.int ((V.2.2.2 v).getD k 0))], [], wd C Y1 og)) rfl ?_
          refine am_br_r (fun h_16 => ?_) (fun h_16 => ?_)
          · skip
            refine am_steps_r ok_M_putString 2 (q' := (180, [some (.ref 19), some (.int (nI v)), some (.int (nI pl)), some (.int 0), some (.int (nI k)), some (.int ((V.2.2.2 v).getD k 0))], [.int 92, .ref 19], wd C Y1 og)) rfl ?_
            refine am_callV_r (As := [.int 92]) (rest := []) ok_M_putString rfl rfl ok_M_put oi_M_put lk_6_270 (Or.inl ⟨_, _, _, rfl, rfl, rfl⟩) rfl rfl (Nat.le_of_ble_eq_true rfl) (c_M_put _ C Y og rd A hr hrd bf L (by omega) Y1 h1 92 (by rw [drop_get (bs := V.2.2.2 v) (k := k) (by omega), show swL (((V.2.2.2 v).getD k 0) :: (V.2.2.2 v).drop (k + 1)) = swC ((V.2.2.2 v).getD k 0) ++ swL ((V.2.2.2 v).drop (k + 1)) from rfl, sw_2 (c := ((V.2.2.2 v).getD k 0)) (by first | exact Or.inl h_16 | exact Or.inr (Or.inl h_16) | exact Or.inr (Or.inr (Or.inl h_16)) | exact Or.inr (Or.inr (Or.inr h_16)))] at hb; simp only [List.length_append, List.length_cons, List.length_nil] at hb ⊢; omega)) ?_
            rintro v_ w_ ⟨rfl, Y_17, rfl, hY_18⟩ -
            refine am_eq_r (q' := (183, [some (.ref 19), some (.int (nI v)), some (.int (nI pl)), some (.int 0), some (.int (nI k)), some (.int ((V.2.2.2 v).getD k 0))], [], wd C Y_17 og)) rfl ?_
            refine am_steps_r ok_M_putString 4 (q' := (bif decide (((V.2.2.2 v).getD k 0) = 13) then 191 else 196, [some (.ref 19), some (.int (nI v)), some (.int (nI pl)), some (.int 0), some (.int (nI k)), some (.int ((V.2.2.2 v).getD k 0))], [.ref 19], wd C Y_17 og)) rfl ?_
            refine am_br_r (fun h_19 => ?_) (fun h_19 => ?_)
            · skip
              exact absurd (h_16.symm.trans h_19) (by decide)
            · skip
              refine am_steps_r ok_M_putString 1 (q' := (198, [some (.ref 19), some (.int (nI v)), some (.int (nI pl)), some (.int 0), some (.int (nI k)), some (.int ((V.2.2.2 v).getD k 0))], [.int ((V.2.2.2 v).getD k 0), .ref 19], wd C Y_17 og)) rfl ?_
              refine am_callV_r (As := [.int ((V.2.2.2 v).getD k 0)]) (rest := []) ok_M_putString rfl rfl ok_M_put oi_M_put lk_6_270 (Or.inl ⟨_, _, _, rfl, rfl, rfl⟩) rfl rfl (Nat.le_of_ble_eq_true rfl) (c_M_put _ C Y og rd A hr hrd bf (L ++ [92]) (by omega) Y_17 hY_18 ((V.2.2.2 v).getD k 0) (by rw [drop_get (bs := V.2.2.2 v) (k := k) (by omega), show swL (((V.2.2.2 v).getD k 0) :: (V.2.2.2 v).drop (k + 1)) = swC ((V.2.2.2 v).getD k 0) ++ swL ((V.2.2.2 v).drop (k + 1)) from rfl] at hb; rw [show swC ((V.2.2.2 v).getD k 0) = [92, ((V.2.2.2 v).getD k 0)] by first | exact sw_0 (by assumption) (by assumption) (by assumption) (by assumption) | exact sw_r (by assumption) | exact sw_y (Or.inl (by assumption)) (by assumption) | exact sw_y (Or.inr (Or.inl (by assumption))) (by assumption) | exact sw_y (Or.inr (Or.inr (by assumption))) (by assumption)] at hb; first | omega | (simp only [List.length_append, List.length_cons, List.length_nil] at hb ⊢; omega) | (simp only [List.length_append, List.length_cons, List.length_nil]; omega))) ?_
              rintro v_ w_ ⟨rfl, Y_20, rfl, hY_21⟩ -
              refine am_eq_r (q' := (201, [some (.ref 19), some (.int (nI v)), some (.int (nI pl)), some (.int 0), some (.int (nI k)), some (.int ((V.2.2.2 v).getD k 0))], [], wd C Y_20 og)) rfl ?_
              refine am_steps_r ok_M_putString 2 (q' := (109, [some (.ref 19), some (.int (nI v)), some (.int (nI pl)), some (.int 0), some (.int ((nI k) + 1)), some (.int ((V.2.2.2 v).getD k 0))], [], wd C Y_20 og)) rfl ?_
              rw [show ((nI k) + 1 : Int32) = nI (k + 1) from nI_add k 1]
              refine am_drop_r [5] (L' := [some (.ref 19), some (.int (nI v)), some (.int (nI pl)), some (.int 0), some (.int (nI (k + 1))), none]) rfl ?_
              have e9 : swC ((V.2.2.2 v).getD k 0) = [92, ((V.2.2.2 v).getD k 0)] := by first | exact sw_0 (by assumption) (by assumption) (by assumption) (by assumption) | exact sw_r (by assumption) | exact sw_y (Or.inl (by assumption)) (by assumption) | exact sw_y (Or.inr (Or.inl (by assumption))) (by assumption) | exact sw_y (Or.inr (Or.inr (by assumption))) (by assumption)
              have hC9 : Y_20 = yE Y A (bf, (L ++ [92, ((V.2.2.2 v).getD k 0)])) := by rw [hY_21]; simp only [List.append_assoc, List.cons_append, List.nil_append]
              exact ih post (k + 1) (L ++ [92, ((V.2.2.2 v).getD k 0)]) Y_20 hC9 (by omega) (by rw [drop_get (bs := V.2.2.2 v) (k := k) (by omega), show swL (((V.2.2.2 v).getD k 0) :: (V.2.2.2 v).drop (k + 1)) = swC ((V.2.2.2 v).getD k 0) ++ swL ((V.2.2.2 v).drop (k + 1)) from rfl, e9, ← List.append_assoc] at hb; exact hb) (by rw [drop_get (bs := V.2.2.2 v) (k := k) (by omega), show swL (((V.2.2.2 v).getD k 0) :: (V.2.2.2 v).drop (k + 1)) = swC ((V.2.2.2 v).getD k 0) ++ swL ((V.2.2.2 v).drop (k + 1)) from rfl, e9, ← List.append_assoc] at hpo; exact hpo) (by omega)
          · skip
            refine am_steps_r ok_M_putString 3 (q' := (bif decide (((V.2.2.2 v).getD k 0) = 13) then 177 else 183, [some (.ref 19), some (.int (nI v)), some (.int (nI pl)), some (.int 0), some (.int (nI k)), some (.int ((V.2.2.2 v).getD k 0))], [], wd C Y1 og)) rfl ?_
            refine am_br_r (fun h_22 => ?_) (fun h_22 => ?_)
            · skip
              refine am_steps_r ok_M_putString 2 (q' := (180, [some (.ref 19), some (.int (nI v)), some (.int (nI pl)), some (.int 0), some (.int (nI k)), some (.int ((V.2.2.2 v).getD k 0))], [.int 92, .ref 19], wd C Y1 og)) rfl ?_
              refine am_callV_r (As := [.int 92]) (rest := []) ok_M_putString rfl rfl ok_M_put oi_M_put lk_6_270 (Or.inl ⟨_, _, _, rfl, rfl, rfl⟩) rfl rfl (Nat.le_of_ble_eq_true rfl) (c_M_put _ C Y og rd A hr hrd bf L (by omega) Y1 h1 92 (by rw [drop_get (bs := V.2.2.2 v) (k := k) (by omega), show swL (((V.2.2.2 v).getD k 0) :: (V.2.2.2 v).drop (k + 1)) = swC ((V.2.2.2 v).getD k 0) ++ swL ((V.2.2.2 v).drop (k + 1)) from rfl, sw_2 (c := ((V.2.2.2 v).getD k 0)) (by first | exact Or.inl h_22 | exact Or.inr (Or.inl h_22) | exact Or.inr (Or.inr (Or.inl h_22)) | exact Or.inr (Or.inr (Or.inr h_22)))] at hb; simp only [List.length_append, List.length_cons, List.length_nil] at hb ⊢; omega)) ?_
              rintro v_ w_ ⟨rfl, Y_23, rfl, hY_24⟩ -
              refine am_eq_r (q' := (183, [some (.ref 19), some (.int (nI v)), some (.int (nI pl)), some (.int 0), some (.int (nI k)), some (.int ((V.2.2.2 v).getD k 0))], [], wd C Y_23 og)) rfl ?_
              refine am_steps_r ok_M_putString 4 (q' := (bif decide (((V.2.2.2 v).getD k 0) = 13) then 191 else 196, [some (.ref 19), some (.int (nI v)), some (.int (nI pl)), some (.int 0), some (.int (nI k)), some (.int ((V.2.2.2 v).getD k 0))], [.ref 19], wd C Y_23 og)) rfl ?_
              refine am_br_r (fun h_25 => ?_) (fun h_25 => ?_)
              · skip
                refine am_steps_r ok_M_putString 2 (q' := (198, [some (.ref 19), some (.int (nI v)), some (.int (nI pl)), some (.int 0), some (.int (nI k)), some (.int ((V.2.2.2 v).getD k 0))], [.int 114, .ref 19], wd C Y_23 og)) rfl ?_
                refine am_callV_r (As := [.int 114]) (rest := []) ok_M_putString rfl rfl ok_M_put oi_M_put lk_6_270 (Or.inl ⟨_, _, _, rfl, rfl, rfl⟩) rfl rfl (Nat.le_of_ble_eq_true rfl) (c_M_put _ C Y og rd A hr hrd bf (L ++ [92]) (by omega) Y_23 hY_24 114 (by rw [drop_get (bs := V.2.2.2 v) (k := k) (by omega), show swL (((V.2.2.2 v).getD k 0) :: (V.2.2.2 v).drop (k + 1)) = swC ((V.2.2.2 v).getD k 0) ++ swL ((V.2.2.2 v).drop (k + 1)) from rfl] at hb; rw [show swC ((V.2.2.2 v).getD k 0) = [92, 114] by first | exact sw_0 (by assumption) (by assumption) (by assumption) (by assumption) | exact sw_r (by assumption) | exact sw_y (Or.inl (by assumption)) (by assumption) | exact sw_y (Or.inr (Or.inl (by assumption))) (by assumption) | exact sw_y (Or.inr (Or.inr (by assumption))) (by assumption)] at hb; first | omega | (simp only [List.length_append, List.length_cons, List.length_nil] at hb ⊢; omega) | (simp only [List.length_append, List.length_cons, List.length_nil]; omega))) ?_
                rintro v_ w_ ⟨rfl, Y_26, rfl, hY_27⟩ -
                refine am_eq_r (q' := (201, [some (.ref 19), some (.int (nI v)), some (.int (nI pl)), some (.int 0), some (.int (nI k)), some (.int ((V.2.2.2 v).getD k 0))], [], wd C Y_26 og)) rfl ?_
                refine am_steps_r ok_M_putString 2 (q' := (109, [some (.ref 19), some (.int (nI v)), some (.int (nI pl)), some (.int 0), some (.int ((nI k) + 1)), some (.int ((V.2.2.2 v).getD k 0))], [], wd C Y_26 og)) rfl ?_
                rw [show ((nI k) + 1 : Int32) = nI (k + 1) from nI_add k 1]
                refine am_drop_r [5] (L' := [some (.ref 19), some (.int (nI v)), some (.int (nI pl)), some (.int 0), some (.int (nI (k + 1))), none]) rfl ?_
                have e9 : swC ((V.2.2.2 v).getD k 0) = [92, 114] := by first | exact sw_0 (by assumption) (by assumption) (by assumption) (by assumption) | exact sw_r (by assumption) | exact sw_y (Or.inl (by assumption)) (by assumption) | exact sw_y (Or.inr (Or.inl (by assumption))) (by assumption) | exact sw_y (Or.inr (Or.inr (by assumption))) (by assumption)
                have hC9 : Y_26 = yE Y A (bf, (L ++ [92, 114])) := by rw [hY_27]; simp only [List.append_assoc, List.cons_append, List.nil_append]
                exact ih post (k + 1) (L ++ [92, 114]) Y_26 hC9 (by omega) (by rw [drop_get (bs := V.2.2.2 v) (k := k) (by omega), show swL (((V.2.2.2 v).getD k 0) :: (V.2.2.2 v).drop (k + 1)) = swC ((V.2.2.2 v).getD k 0) ++ swL ((V.2.2.2 v).drop (k + 1)) from rfl, e9, ← List.append_assoc] at hb; exact hb) (by rw [drop_get (bs := V.2.2.2 v) (k := k) (by omega), show swL (((V.2.2.2 v).getD k 0) :: (V.2.2.2 v).drop (k + 1)) = swC ((V.2.2.2 v).getD k 0) ++ swL ((V.2.2.2 v).drop (k + 1)) from rfl, e9, ← List.append_assoc] at hpo; exact hpo) (by omega)
              · skip
                exact absurd h_22 h_25
            · skip
              refine am_steps_r ok_M_putString 4 (q' := (bif decide (((V.2.2.2 v).getD k 0) = 13) then 191 else 196, [some (.ref 19), some (.int (nI v)), some (.int (nI pl)), some (.int 0), some (.int (nI k)), some (.int ((V.2.2.2 v).getD k 0))], [.ref 19], wd C Y1 og)) rfl ?_
              refine am_br_r (fun h_28 => ?_) (fun h_28 => ?_)
              · skip
                exact absurd h_28 h_22
              · skip
                refine am_steps_r ok_M_putString 1 (q' := (198, [some (.ref 19), some (.int (nI v)), some (.int (nI pl)), some (.int 0), some (.int (nI k)), some (.int ((V.2.2.2 v).getD k 0))], [.int ((V.2.2.2 v).getD k 0), .ref 19], wd C Y1 og)) rfl ?_
                refine am_callV_r (As := [.int ((V.2.2.2 v).getD k 0)]) (rest := []) ok_M_putString rfl rfl ok_M_put oi_M_put lk_6_270 (Or.inl ⟨_, _, _, rfl, rfl, rfl⟩) rfl rfl (Nat.le_of_ble_eq_true rfl) (c_M_put _ C Y og rd A hr hrd bf L (by omega) Y1 h1 ((V.2.2.2 v).getD k 0) (by rw [drop_get (bs := V.2.2.2 v) (k := k) (by omega), show swL (((V.2.2.2 v).getD k 0) :: (V.2.2.2 v).drop (k + 1)) = swC ((V.2.2.2 v).getD k 0) ++ swL ((V.2.2.2 v).drop (k + 1)) from rfl] at hb; rw [show swC ((V.2.2.2 v).getD k 0) = [((V.2.2.2 v).getD k 0)] by first | exact sw_0 (by assumption) (by assumption) (by assumption) (by assumption) | exact sw_r (by assumption) | exact sw_y (Or.inl (by assumption)) (by assumption) | exact sw_y (Or.inr (Or.inl (by assumption))) (by assumption) | exact sw_y (Or.inr (Or.inr (by assumption))) (by assumption)] at hb; first | omega | (simp only [List.length_append, List.length_cons, List.length_nil] at hb ⊢; omega) | (simp only [List.length_append, List.length_cons, List.length_nil]; omega))) ?_
                rintro v_ w_ ⟨rfl, Y_29, rfl, hY_30⟩ -
                refine am_eq_r (q' := (201, [some (.ref 19), some (.int (nI v)), some (.int (nI pl)), some (.int 0), some (.int (nI k)), some (.int ((V.2.2.2 v).getD k 0))], [], wd C Y_29 og)) rfl ?_
                refine am_steps_r ok_M_putString 2 (q' := (109, [some (.ref 19), some (.int (nI v)), some (.int (nI pl)), some (.int 0), some (.int ((nI k) + 1)), some (.int ((V.2.2.2 v).getD k 0))], [], wd C Y_29 og)) rfl ?_
                rw [show ((nI k) + 1 : Int32) = nI (k + 1) from nI_add k 1]
                refine am_drop_r [5] (L' := [some (.ref 19), some (.int (nI v)), some (.int (nI pl)), some (.int 0), some (.int (nI (k + 1))), none]) rfl ?_
                have e9 : swC ((V.2.2.2 v).getD k 0) = [((V.2.2.2 v).getD k 0)] := by first | exact sw_0 (by assumption) (by assumption) (by assumption) (by assumption) | exact sw_r (by assumption) | exact sw_y (Or.inl (by assumption)) (by assumption) | exact sw_y (Or.inr (Or.inl (by assumption))) (by assumption) | exact sw_y (Or.inr (Or.inr (by assumption))) (by assumption)
                exact ih post (k + 1) (L ++ [((V.2.2.2 v).getD k 0)]) Y_29 hY_30 (by omega) (by rw [drop_get (bs := V.2.2.2 v) (k := k) (by omega), show swL (((V.2.2.2 v).getD k 0) :: (V.2.2.2 v).drop (k + 1)) = swC ((V.2.2.2 v).getD k 0) ++ swL ((V.2.2.2 v).drop (k + 1)) from rfl, e9, ← List.append_assoc] at hb; exact hb) (by rw [drop_get (bs := V.2.2.2 v) (k := k) (by omega), show swL (((V.2.2.2 v).getD k 0) :: (V.2.2.2 v).drop (k + 1)) = swC ((V.2.2.2 v).getD k 0) ++ swL ((V.2.2.2 v).drop (k + 1)) from rfl, e9, ← List.append_assoc] at hpo; exact hpo) (by omega)
set_option maxHeartbeats 4000000 in
set_option maxRecDepth 100000 in
theorem lp_M_putString_4 (d : Nat) (C : wd_C) (Y : wd_Y) (og : Nat → Int64) (rd : Nat) (A : Nat → Int32) (hr : Y.1 16 = nI rd) (hrd : rd ≤ 1) (bf : Nat) (L : List Int32) (hbf : bf ≤ 5) (Y1 : wd_Y) (h1 : Y1 = yE Y A (bf, L)) (nv u : Nat) (V : VT) (hY : vsY Y nv u V) (hby : ∀ w, w < nv → ∀ k, k < (V.2.2.2 w).length → ∃ j, j < 256 ∧ (V.2.2.2 w).getD k 0 = nI j) (v : Nat) (hv : v < nv) (hb : L.length + (swL (V.2.2.2 v)).length + 100 < 2147483648)  : ∀ (fu : Nat) (post : Option Value → am_W → Prop) (pl : Nat) (k : Nat), (k ≤ (V.2.2.2 v).length) → (pl ≤ 2 * k) → (∀ Y2, Y2 = yE Y A (bf, L ++ (40 :: (swL (V.2.2.2 v) ++ [41]))) → post none (wd C Y2 og)) → (V.2.2.2 v).length - k < fu → am_Rn l D cA ad fm (d + 2) m_M_putString (wd C Y og).length post (4, [some (.ref 19), some (.int (nI v)), some (.int (nI pl)), some (.int (nI k)), none, none], [], wd C Y1 og) := by
  intro fu
  induction fu with
  | zero => intro post pl k hkl hpl hpo hfu; exact absurd hfu (Nat.not_lt_zero _)
  | succ fu ih =>
    intro post pl k hkl hpl hpo hfu
    have hnv := hY.1.2.1
    have hu2 := hY.1.2.2.2
    have hvl := yq_len hY hv
    obtain ⟨s0, s1, s2, s3, s4⟩ := (hY.2 v hv).2.2.2.1
    refine am_steps_r ok_M_putString 4 (q' := (10, [some (.ref 19), some (.int (nI v)), some (.int (nI pl)), some (.int (nI k)), none, none], [.int (nI v), .ref 29, .int (nI k)], wd C Y1 og)) rfl ?_
    refine am_iald_r ok_M_putString rfl (w := wd C Y1 og) (f := Y1.2.1 8) rfl rfl (pk_in v 300 (by omega)) ?_
    rw [nI_clamp (show v < 2 ^ 31 by omega)]
    rw [show (Y1.2.1 8 v) = nI (V.2.2.2 v).length from yq_8 hY h1 (v := v) (by omega)]
    refine am_steps_r ok_M_putString 1 (q' := (bif decide ((nI ((V.2.2.2 v).length)) ≤ (nI k)) then 73 else 14, [some (.ref 19), some (.int (nI v)), some (.int (nI pl)), some (.int (nI k)), none, none], [], wd C Y1 og)) rfl ?_
    refine am_br_r (fun h_1 => ?_) (fun h_1 => ?_)
    · skip
      have h_1 : ((V.2.2.2 v).length) ≤ k := (nI_leI (show ((V.2.2.2 v).length) < 2 ^ 31 by omega) (show k < 2 ^ 31 by omega)).mp h_1
      refine am_steps_r ok_M_putString 4 (q' := (79, [some (.ref 19), some (.int (nI v)), some (.int (nI pl)), some (.int (nI k)), none, none], [.int (nI v), .ref 29, .int 2], wd C Y1 og)) rfl ?_
      refine am_iald_r ok_M_putString rfl (w := wd C Y1 og) (f := Y1.2.1 8) rfl rfl (pk_in v 300 (by omega)) ?_
      rw [nI_clamp (show v < 2 ^ 31 by omega)]
      rw [show (Y1.2.1 8 v) = nI (V.2.2.2 v).length from yq_8 hY h1 (v := v) (by omega)]
      refine am_steps_r ok_M_putString 3 (q' := (bif decide ((nI pl) ≤ (2 * (nI ((V.2.2.2 v).length)))) then 89 else 85, [some (.ref 19), some (.int (nI v)), some (.int (nI pl)), some (.int (nI k)), none, none], [], wd C Y1 og)) rfl ?_
      rw [show (2 * (nI ((V.2.2.2 v).length)) : Int32) = nI (2 * ((V.2.2.2 v).length)) from pk_mul 2 ((V.2.2.2 v).length)]
      refine am_br_r (fun h_2 => ?_) (fun h_2 => ?_)
      · skip
        have h_2 : pl ≤ (2 * ((V.2.2.2 v).length)) := (nI_leI (show pl < 2 ^ 31 by omega) (show (2 * ((V.2.2.2 v).length)) < 2 ^ 31 by omega)).mp h_2
        refine am_steps_r ok_M_putString 6 (q' := (103, [some (.ref 19), some (.int (nI v)), some (.int (nI pl)), some (.int 0), none, none], [.int 40, .ref 19], wd C Y1 og)) rfl ?_
        refine am_callV_r (As := [.int 40]) (rest := []) ok_M_putString rfl rfl ok_M_put oi_M_put lk_6_270 (Or.inl ⟨_, _, _, rfl, rfl, rfl⟩) rfl rfl (Nat.le_of_ble_eq_true rfl) (c_M_put _ C Y og rd A hr hrd bf L (by omega) Y1 h1 40 (by first | omega | (simp only [List.length_append, List.length_cons, List.length_nil] at hb ⊢; omega) | (simp only [List.length_append, List.length_cons, List.length_nil]; omega))) ?_
        rintro v_ w_ ⟨rfl, Y_3, rfl, hY_4⟩ -
        refine am_eq_r (q' := (106, [some (.ref 19), some (.int (nI v)), some (.int (nI pl)), some (.int 0), none, none], [], wd C Y_3 og)) rfl ?_
        refine am_steps_r ok_M_putString 2 (q' := (109, [some (.ref 19), some (.int (nI v)), some (.int (nI pl)), some (.int 0), some (.int 0), none], [], wd C Y_3 og)) rfl ?_
        refine am_eq_r (q' := (109, [some (.ref 19), some (.int (nI v)), some (.int (nI pl)), some (.int 0), some (.int (nI 0)), none], [], wd C Y_3 og)) rfl ?_
        exact lp_M_putString_109 d C Y og rd A hr hrd bf (by omega) nv u V hY hby v hv pl ((V.2.2.2 v).length + 1) _ 0 (L ++ [40]) Y_3 hY_4 (Nat.zero_le _) (by rw [List.drop_zero]; first | omega | (simp only [List.length_append, List.length_cons, List.length_nil] at hb ⊢; omega) | (simp only [List.length_append, List.length_cons, List.length_nil]; omega)) (fun Y2 h2 => hpo Y2 (by rw [h2]; simp only [List.append_assoc, List.drop_zero]; rfl)) (by omega)
      · skip
        have h_2 : ¬ pl ≤ (2 * ((V.2.2.2 v).length)) := fun z => h_2 ((nI_leI (show pl < 2 ^ 31 by omega) (show (2 * ((V.2.2.2 v).length)) < 2 ^ 31 by omega)).mpr z)
        exfalso; omega
    · skip
      have h_1 : ¬ ((V.2.2.2 v).length) ≤ k := fun z => h_1 ((nI_leI (show ((V.2.2.2 v).length) < 2 ^ 31 by omega) (show k < 2 ^ 31 by omega)).mpr z)
      refine am_steps_r ok_M_putString 5 (q' := (23, [some (.ref 19), some (.int (nI v)), some (.int (nI pl)), some (.int (nI k)), none, none], [.int (nI v), .ref 28, .ref 30], wd C Y1 og)) rfl ?_
      refine am_iald_r ok_M_putString rfl (w := wd C Y1 og) (f := Y1.2.1 7) rfl rfl (pk_in v 300 (by omega)) ?_
      rw [nI_clamp (show v < 2 ^ 31 by omega)]
      rw [show (Y1.2.1 7 v) = nI s0 from (congrFun (ya h1 (by decide)) v).trans s1]
      refine am_steps_r ok_M_putString 2 (q' := (26, [some (.ref 19), some (.int (nI v)), some (.int (nI pl)), some (.int (nI k)), none, none], [.int ((nI s0) + (nI k)), .ref 30], wd C Y1 og)) rfl ?_
      rw [show ((nI s0) + (nI k) : Int32) = nI (s0 + k) from nI_add s0 k]
      refine am_iald_r ok_M_putString rfl (w := wd C Y1 og) (f := Y1.2.1 9) rfl rfl (pk_in (s0 + k) 2000 (by omega)) ?_
      rw [nI_clamp (show (s0 + k) < 2 ^ 31 by omega)]
      rw [show (Y1.2.1 9 (s0 + k)) = (V.2.2.2 v).getD k 0 from (congrFun (ya h1 (by decide)) (s0 + k)).trans (s4 k (by omega))]
      refine am_steps_r ok_M_putString 4 (q' := (bif decide (((V.2.2.2 v).getD k 0) = 92) then 57 else 36, [some (.ref 19), some (.int (nI v)), some (.int (nI pl)), some (.int (nI k)), some (.int ((V.2.2.2 v).getD k 0)), none], [], wd C Y1 og)) rfl ?_
      refine am_br_r (fun h_5 => ?_) (fun h_5 => ?_)
      · skip
        refine am_steps_r ok_M_putString 7 (q' := (4, [some (.ref 19), some (.int (nI v)), some (.int ((nI pl) + 2)), some (.int ((nI k) + 1)), some (.int ((V.2.2.2 v).getD k 0)), none], [], wd C Y1 og)) rfl ?_
        rw [show ((nI pl) + 2 : Int32) = nI (pl + 2) from nI_add pl 2]
        rw [show ((nI k) + 1 : Int32) = nI (k + 1) from nI_add k 1]
        refine am_drop_r [4] (L' := [some (.ref 19), some (.int (nI v)), some (.int (nI (pl + 2))), some (.int (nI (k + 1))), none, none]) rfl ?_
        exact ih post (pl + 2) (k + 1) (by omega) (by omega) hpo (by omega)
      · skip
        refine am_steps_r ok_M_putString 3 (q' := (bif decide (((V.2.2.2 v).getD k 0) = 40) then 57 else 43, [some (.ref 19), some (.int (nI v)), some (.int (nI pl)), some (.int (nI k)), some (.int ((V.2.2.2 v).getD k 0)), none], [], wd C Y1 og)) rfl ?_
        refine am_br_r (fun h_6 => ?_) (fun h_6 => ?_)
        · skip
          refine am_steps_r ok_M_putString 7 (q' := (4, [some (.ref 19), some (.int (nI v)), some (.int ((nI pl) + 2)), some (.int ((nI k) + 1)), some (.int ((V.2.2.2 v).getD k 0)), none], [], wd C Y1 og)) rfl ?_
          rw [show ((nI pl) + 2 : Int32) = nI (pl + 2) from nI_add pl 2]
          rw [show ((nI k) + 1 : Int32) = nI (k + 1) from nI_add k 1]
          refine am_drop_r [4] (L' := [some (.ref 19), some (.int (nI v)), some (.int (nI (pl + 2))), some (.int (nI (k + 1))), none, none]) rfl ?_
          exact ih post (pl + 2) (k + 1) (by omega) (by omega) hpo (by omega)
        · skip
          refine am_steps_r ok_M_putString 3 (q' := (bif decide (((V.2.2.2 v).getD k 0) = 41) then 57 else 50, [some (.ref 19), some (.int (nI v)), some (.int (nI pl)), some (.int (nI k)), some (.int ((V.2.2.2 v).getD k 0)), none], [], wd C Y1 og)) rfl ?_
          refine am_br_r (fun h_7 => ?_) (fun h_7 => ?_)
          · skip
            refine am_steps_r ok_M_putString 7 (q' := (4, [some (.ref 19), some (.int (nI v)), some (.int ((nI pl) + 2)), some (.int ((nI k) + 1)), some (.int ((V.2.2.2 v).getD k 0)), none], [], wd C Y1 og)) rfl ?_
            rw [show ((nI pl) + 2 : Int32) = nI (pl + 2) from nI_add pl 2]
            rw [show ((nI k) + 1 : Int32) = nI (k + 1) from nI_add k 1]
            refine am_drop_r [4] (L' := [some (.ref 19), some (.int (nI v)), some (.int (nI (pl + 2))), some (.int (nI (k + 1))), none, none]) rfl ?_
            exact ih post (pl + 2) (k + 1) (by omega) (by omega) hpo (by omega)
          · skip
            refine am_steps_r ok_M_putString 3 (q' := (bif decide (((V.2.2.2 v).getD k 0) = 13) then 57 else 63, [some (.ref 19), some (.int (nI v)), some (.int (nI pl)), some (.int (nI k)), some (.int ((V.2.2.2 v).getD k 0)), none], [], wd C Y1 og)) rfl ?_
            refine am_br_r (fun h_8 => ?_) (fun h_8 => ?_)
            · skip
              refine am_steps_r ok_M_putString 7 (q' := (4, [some (.ref 19), some (.int (nI v)), some (.int ((nI pl) + 2)), some (.int ((nI k) + 1)), some (.int ((V.2.2.2 v).getD k 0)), none], [], wd C Y1 og)) rfl ?_
              rw [show ((nI pl) + 2 : Int32) = nI (pl + 2) from nI_add pl 2]
              rw [show ((nI k) + 1 : Int32) = nI (k + 1) from nI_add k 1]
              refine am_drop_r [4] (L' := [some (.ref 19), some (.int (nI v)), some (.int (nI (pl + 2))), some (.int (nI (k + 1))), none, none]) rfl ?_
              exact ih post (pl + 2) (k + 1) (by omega) (by omega) hpo (by omega)
            · skip
              refine am_steps_r ok_M_putString 6 (q' := (4, [some (.ref 19), some (.int (nI v)), some (.int ((nI pl) + 1)), some (.int ((nI k) + 1)), some (.int ((V.2.2.2 v).getD k 0)), none], [], wd C Y1 og)) rfl ?_
              rw [show ((nI pl) + 1 : Int32) = nI (pl + 1) from nI_add pl 1]
              rw [show ((nI k) + 1 : Int32) = nI (k + 1) from nI_add k 1]
              refine am_drop_r [4] (L' := [some (.ref 19), some (.int (nI v)), some (.int (nI (pl + 1))), some (.int (nI (k + 1))), none, none]) rfl ?_
              exact ih post (pl + 1) (k + 1) (by omega) (by omega) hpo (by omega)
set_option maxHeartbeats 4000000 in
set_option maxRecDepth 100000 in
theorem c_M_putString (d : Nat) (C : wd_C) (Y : wd_Y) (og : Nat → Int64) (rd : Nat) (A : Nat → Int32) (hr : Y.1 16 = nI rd) (hrd : rd ≤ 1) (bf : Nat) (L : List Int32) (hbf : bf ≤ 5) (Y1 : wd_Y) (h1 : Y1 = yE Y A (bf, L)) (nv u : Nat) (V : VT) (hY : vsY Y nv u V) (hby : ∀ w, w < nv → ∀ k, k < (V.2.2.2 w).length → ∃ j, j < 256 ∧ (V.2.2.2 w).getD k 0 = nI j) (v : Nat) (hv : v < nv) (hb : L.length + (swL (V.2.2.2 v)).length + 100 < 2147483648) : am_Mt l D cA ad fm (d + 2) m_M_putString [.ref 19, .int (nI v)] (wd C Y1 og) (fun vr w' => vr = none ∧ ∃ Y2, w' = wd C Y2 og ∧ Y2 = yE Y A (bf, L ++ (40 :: (swL (V.2.2.2 v) ++ [41])))) := by
  have hnv := hY.1.2.1
  refine am_mt ok_M_putString (by simp [am_arg, Value.category, m_M_putString, am_ml]) ?_
  refine am_eq_r (q' := (0, [some (.ref 19), some (.int (nI v)), none, none, none, none], [], wd C Y1 og)) rfl ?_
  refine am_steps_r ok_M_putString 4 (q' := (4, [some (.ref 19), some (.int (nI v)), some (.int 0), some (.int 0), none, none], [], wd C Y1 og)) rfl ?_
  refine am_eq_r (q' := (4, [some (.ref 19), some (.int (nI v)), some (.int (nI 0)), some (.int (nI 0)), none, none], [], wd C Y1 og)) rfl ?_
  exact lp_M_putString_4 d C Y og rd A hr hrd bf L hbf Y1 h1 nv u V hY hby v hv hb ((V.2.2.2 v).length + 1) _ 0 0 (Nat.zero_le _) (Nat.zero_le _) (fun Y2 h2 => ⟨rfl, Y2, rfl, h2⟩) (by omega)
set_option maxHeartbeats 4000000 in
set_option maxRecDepth 100000 in
theorem c_M_putLength (d : Nat) (C : wd_C) (Y : wd_Y) (og : Nat → Int64) (rd : Nat) (A : Nat → Int32) (hr : Y.1 16 = nI rd) (hrd : rd ≤ 1) (bf : Nat) (L : List Int32) (hbf : bf ≤ 5) (Y1 : wd_Y) (h1 : Y1 = yE Y A (bf, L)) (m : Nat) (hm : m < 1000000) (hb : L.length + 100 < 2147483648) : am_Mt l D cA ad fm (d + 2) m_M_putLength [.ref 19, .int (nI m)] (wd C Y1 og) (fun vr w' => vr = none ∧ ∃ Y2, w' = wd C Y2 og ∧ Y2 = yE Y A (wLn rd (bf, L) m)) := by
  refine am_mt ok_M_putLength (by simp [am_arg, Value.category, m_M_putLength, am_ml]) ?_
  refine am_eq_r (q' := (0, [some (.ref 19), some (.int (nI m))], [], wd C Y1 og)) rfl ?_
  refine am_steps_r ok_M_putLength 2 (q' := (2, [some (.ref 19), some (.int (nI m))], [.int 2, .ref 19], wd C Y1 og)) rfl ?_
  have hgp_1 := gpL_1 rd bf 2
  refine am_callV_r (As := [.int 2]) (rest := []) ok_M_putLength rfl rfl ok_M_part oi_M_part lk_6_292 (Or.inl ⟨_, _, _, rfl, rfl, rfl⟩) rfl rfl (Nat.le_of_ble_eq_true rfl) (c_M_part _ C Y og rd A hr hrd bf L (by omega) Y1 h1 2 (by omega) (by first | omega | (simp only [List.length_append, List.length_cons, List.length_nil] at hb ⊢; omega) | (simp only [List.length_append, List.length_cons, List.length_nil]; omega))) ?_
  rintro v_ w_ ⟨rfl, Y_2, rfl, hY_3⟩ -
  refine am_eq_r (q' := (5, [some (.ref 19), some (.int (nI m))], [], wd C Y_2 og)) rfl ?_
  refine am_steps_r ok_M_putLength 2 (q' := (8, [some (.ref 19), some (.int (nI m))], [.int 47, .ref 19], wd C Y_2 og)) rfl ?_
  refine am_callV_r (As := [.int 47]) (rest := []) ok_M_putLength rfl rfl ok_M_put oi_M_put lk_6_270 (Or.inl ⟨_, _, _, rfl, rfl, rfl⟩) rfl rfl (Nat.le_of_ble_eq_true rfl) (c_M_put _ C Y og rd A hr hrd 2 (L ++ gpL rd bf 2) (by omega) Y_2 hY_3 47 (by first | omega | (simp only [List.length_append, List.length_cons, List.length_nil] at hb ⊢; omega) | (simp only [List.length_append, List.length_cons, List.length_nil]; omega))) ?_
  rintro v_ w_ ⟨rfl, Y_4, rfl, hY_5⟩ -
  refine am_eq_r (q' := (11, [some (.ref 19), some (.int (nI m))], [], wd C Y_4 og)) rfl ?_
  refine am_steps_r ok_M_putLength 2 (q' := (14, [some (.ref 19), some (.int (nI m))], [.int 7, .ref 19], wd C Y_4 og)) rfl ?_
  have hwl_6 : st_8.length < 20 := by decide
  refine am_callV_r (As := [.int 7]) (rest := []) ok_M_putLength rfl rfl ok_M_putWord oi_M_putWord lk_6_295 (Or.inl ⟨_, _, _, rfl, rfl, rfl⟩) rfl rfl (Nat.le_of_ble_eq_true rfl) (c_M_putWord_7 _ C Y og rd A hr hrd 2 ((L ++ gpL rd bf 2) ++ [47]) (by omega) Y_4 hY_5  (by first | omega | (simp only [List.length_append, List.length_cons, List.length_nil] at hb ⊢; omega) | (simp only [List.length_append, List.length_cons, List.length_nil]; omega))) ?_
  rintro v_ w_ ⟨rfl, Y_7, rfl, hY_8⟩ -
  refine am_eq_r (q' := (17, [some (.ref 19), some (.int (nI m))], [], wd C Y_7 og)) rfl ?_
  refine am_steps_r ok_M_putLength 2 (q' := (19, [some (.ref 19), some (.int (nI m))], [.int 1, .ref 19], wd C Y_7 og)) rfl ?_
  have hgp_9 := gpL_1 rd 2 1
  refine am_callV_r (As := [.int 1]) (rest := []) ok_M_putLength rfl rfl ok_M_part oi_M_part lk_6_292 (Or.inl ⟨_, _, _, rfl, rfl, rfl⟩) rfl rfl (Nat.le_of_ble_eq_true rfl) (c_M_part _ C Y og rd A hr hrd 2 (((L ++ gpL rd bf 2) ++ [47]) ++ st_8) (by omega) Y_7 hY_8 1 (by omega) (by first | omega | (simp only [List.length_append, List.length_cons, List.length_nil] at hb ⊢; omega) | (simp only [List.length_append, List.length_cons, List.length_nil]; omega))) ?_
  rintro v_ w_ ⟨rfl, Y_10, rfl, hY_11⟩ -
  refine am_eq_r (q' := (22, [some (.ref 19), some (.int (nI m))], [], wd C Y_10 og)) rfl ?_
  refine am_steps_r ok_M_putLength 3 (q' := (25, [some (.ref 19), some (.int (nI m))], [.long ((nI m).toInt64), .ref 19], wd C Y_10 og)) rfl ?_
  rw [show ((nI m).toInt64 : Int64) = lN m from nIl m (by omega)]
  have hpn := fun dd => c_M_putNumber (l := l) (D := D) (cA := cA) (ad := ad) (fm := fm) dd C Y og rd A hr hrd 1 ((((L ++ gpL rd bf 2) ++ [47]) ++ st_8) ++ gpL rd 2 1) (by omega) Y_10 hY_11 (lN m) (by rw [(is_lN (by omega)).2]; omega) (by rw [(is_lN (by omega)).2]; have := fgL_len m; first | omega | (simp only [List.length_append, List.length_cons, List.length_nil] at hb ⊢; omega) | (simp only [List.length_append, List.length_cons, List.length_nil]; omega))
  have hfl := fgL_len m
  rw [wnL_m (by omega)] at hpn
  refine am_callV_r (As := [.long (lN m)]) (rest := []) ok_M_putLength rfl rfl ok_M_putNumber oi_M_putNumber lk_6_283 (Or.inl ⟨_, _, _, rfl, rfl, rfl⟩) rfl rfl (Nat.le_of_ble_eq_true rfl) (hpn _) ?_
  rintro v_ w_ ⟨rfl, Y_12, rfl, hY_13⟩ -
  refine am_eq_r (q' := (28, [some (.ref 19), some (.int (nI m))], [], wd C Y_12 og)) rfl ?_
  refine am_vret_r ok_M_putLength rfl rfl rfl ?_
  refine ⟨rfl, _, rfl, ?_⟩
  rw [hY_13]
  unfold wLn wPc
  simp only [List.append_assoc, List.cons_append, List.nil_append]
set_option maxHeartbeats 4000000 in
set_option maxRecDepth 100000 in
theorem c_M_putScalar (d : Nat) (C : wd_C) (Y : wd_Y) (og : Nat → Int64) (rd : Nat) (A : Nat → Int32) (hr : Y.1 16 = nI rd) (hrd : rd ≤ 1) (bf : Nat) (L : List Int32) (hbf : bf ≤ 5) (Y1 : wd_Y) (h1 : Y1 = yE Y A (bf, L)) (nv u : Nat) (V : VT) (hY : vsY Y nv u V) (hby : ∀ w, w < nv → ∀ k, k < (V.2.2.2 w).length → ∃ j, j < 256 ∧ (V.2.2.2 w).getD k 0 = nI j) (v : Nat) (hv : v < nv) (hnb : nbOK (V.1 v) (V.2.1 v)) (h6 : ¬ V.1 v = 6) (h7 : ¬ V.1 v = 7) (h9 : ¬ V.1 v = 9) (f : Nat) (hb : (wVl rd V (f + 1) (bf, L) v).2.length + 1000 < 2147483648) : am_Mt l D cA ad fm (d + 3) m_M_putScalar [.ref 19, .int (nI v)] (wd C Y1 og) (fun vr w' => vr = none ∧ ∃ Y2, w' = wd C Y2 og ∧ Y2 = yE Y A (wVl rd V (f + 1) (bf, L) v)) := by
  have hnv := hY.1.2.1
  have hbL : L.length + 1000 < 2147483648 := by have h8 := wVl_le (rd := rd) (V := V) (f + 1) (bf, L) v; have h9 : (bf, L).2.length = L.length := rfl; omega
  refine am_mt ok_M_putScalar (by simp [am_arg, Value.category, m_M_putScalar, am_ml]) ?_
  refine am_eq_r (q' := (0, [some (.ref 19), some (.int (nI v)), none], [], wd C Y1 og)) rfl ?_
  refine am_steps_r ok_M_putScalar 3 (q' := (5, [some (.ref 19), some (.int (nI v)), none], [.int (nI v), .ref 22], wd C Y1 og)) rfl ?_
  refine am_iald_r ok_M_putScalar rfl (w := wd C Y1 og) (f := Y1.2.1 2) rfl rfl (pk_in v 300 (by omega)) ?_
  rw [nI_clamp (show v < 2 ^ 31 by omega)]
  rw [show (Y1.2.1 2 v) = V.1 v from yq_2 hY h1 (v := v) (by omega)]
  refine am_steps_r ok_M_putScalar 5 (q' := (bif decide ((V.1 v) = 4) then 13 else 17, [some (.ref 19), some (.int (nI v)), some (.int (V.1 v))], [.ref 19], wd C Y1 og)) rfl ?_
  refine am_br_r (fun h_1 => ?_) (fun h_1 => ?_)
  · skip
    refine am_steps_r ok_M_putScalar 2 (q' := (27, [some (.ref 19), some (.int (nI v)), some (.int (V.1 v))], [.int 2, .ref 19], wd C Y1 og)) rfl ?_
    have hgp_2 := gpL_1 rd bf 2
    refine am_callV_r (As := [.int 2]) (rest := []) ok_M_putScalar rfl rfl ok_M_part oi_M_part lk_6_292 (Or.inl ⟨_, _, _, rfl, rfl, rfl⟩) rfl rfl (Nat.le_of_ble_eq_true rfl) (c_M_part _ C Y og rd A hr hrd bf L (by omega) Y1 h1 2 (by omega) (by first | omega | (simp only [List.length_append, List.length_cons, List.length_nil] at hb ⊢; omega) | (simp only [List.length_append, List.length_cons, List.length_nil]; omega))) ?_
    rintro v_ w_ ⟨rfl, Y_3, rfl, hY_4⟩ -
    refine am_eq_r (q' := (30, [some (.ref 19), some (.int (nI v)), some (.int (V.1 v))], [], wd C Y_3 og)) rfl ?_
    refine am_steps_r ok_M_putScalar 2 (q' := (bif decide ((V.1 v) = 0) then 34 else 43, [some (.ref 19), some (.int (nI v)), some (.int (V.1 v))], [], wd C Y_3 og)) rfl ?_
    refine am_br_r (fun h_5 => ?_) (fun h_5 => ?_)
    · skip
      exact absurd ((show (V.1 v) = 4 by assumption).symm.trans (show (V.1 v) = 0 by assumption)) (by decide)
    · skip
      refine am_steps_r ok_M_putScalar 3 (q' := (bif decide ((V.1 v) = 1) then 48 else 71, [some (.ref 19), some (.int (nI v)), some (.int (V.1 v))], [], wd C Y_3 og)) rfl ?_
      refine am_br_r (fun h_6 => ?_) (fun h_6 => ?_)
      · skip
        exact absurd ((show (V.1 v) = 4 by assumption).symm.trans (show (V.1 v) = 1 by assumption)) (by decide)
      · skip
        refine am_steps_r ok_M_putScalar 3 (q' := (bif decide ((V.1 v) = 2) then 76 else 89, [some (.ref 19), some (.int (nI v)), some (.int (V.1 v))], [], wd C Y_3 og)) rfl ?_
        refine am_br_r (fun h_7 => ?_) (fun h_7 => ?_)
        · skip
          exact absurd ((show (V.1 v) = 4 by assumption).symm.trans (show (V.1 v) = 2 by assumption)) (by decide)
        · skip
          refine am_steps_r ok_M_putScalar 3 (q' := (bif decide ((V.1 v) = 3) then 94 else 107, [some (.ref 19), some (.int (nI v)), some (.int (V.1 v))], [], wd C Y_3 og)) rfl ?_
          refine am_br_r (fun h_8 => ?_) (fun h_8 => ?_)
          · skip
            exact absurd ((show (V.1 v) = 4 by assumption).symm.trans (show (V.1 v) = 3 by assumption)) (by decide)
          · skip
            refine am_steps_r ok_M_putScalar 3 (q' := (bif decide ((V.1 v) = 4) then 112 else 120, [some (.ref 19), some (.int (nI v)), some (.int (V.1 v))], [], wd C Y_3 og)) rfl ?_
            refine am_br_r (fun h_9 => ?_) (fun h_9 => ?_)
            · skip
              refine am_steps_r ok_M_putScalar 2 (q' := (114, [some (.ref 19), some (.int (nI v)), some (.int (V.1 v))], [.int (nI v), .ref 19], wd C Y_3 og)) rfl ?_
              refine am_callV_r (As := [.int (nI v)]) (rest := []) ok_M_putScalar rfl rfl ok_M_putName oi_M_putName lk_6_301 (Or.inl ⟨_, _, _, rfl, rfl, rfl⟩) rfl rfl (Nat.le_of_ble_eq_true rfl) (c_M_putName _ C Y og rd A hr hrd 2 (L ++ gpL rd bf 2) (by omega) Y_3 hY_4 nv u V hY hby v hv (by rw [wVl_4 (by assumption)] at hb; simp only [List.length_append, List.length_cons] at hb ⊢; omega)) ?_
              rintro v_ w_ ⟨rfl, Y_10, rfl, hY_11⟩ -
              refine am_eq_r (q' := (117, [some (.ref 19), some (.int (nI v)), some (.int (V.1 v))], [], wd C Y_10 og)) rfl ?_
              refine am_steps_r ok_M_putScalar 1 (q' := (179, [some (.ref 19), some (.int (nI v)), some (.int (V.1 v))], [], wd C Y_10 og)) rfl ?_
              refine am_vret_r ok_M_putScalar rfl rfl rfl ?_
              exact ⟨rfl, _, rfl, by rw [wVl_4 h_9]; exact hY_11⟩
            · skip
              first | contradiction | (exfalso; simp_all; done)
  · skip
    refine am_steps_r ok_M_putScalar 3 (q' := (bif decide ((V.1 v) = 5) then 22 else 26, [some (.ref 19), some (.int (nI v)), some (.int (V.1 v))], [.ref 19], wd C Y1 og)) rfl ?_
    refine am_br_r (fun h_12 => ?_) (fun h_12 => ?_)
    · skip
      refine am_steps_r ok_M_putScalar 2 (q' := (27, [some (.ref 19), some (.int (nI v)), some (.int (V.1 v))], [.int 3, .ref 19], wd C Y1 og)) rfl ?_
      have hgp_13 := gpL_1 rd bf 3
      refine am_callV_r (As := [.int 3]) (rest := []) ok_M_putScalar rfl rfl ok_M_part oi_M_part lk_6_292 (Or.inl ⟨_, _, _, rfl, rfl, rfl⟩) rfl rfl (Nat.le_of_ble_eq_true rfl) (c_M_part _ C Y og rd A hr hrd bf L (by omega) Y1 h1 3 (by omega) (by first | omega | (simp only [List.length_append, List.length_cons, List.length_nil] at hb ⊢; omega) | (simp only [List.length_append, List.length_cons, List.length_nil]; omega))) ?_
      rintro v_ w_ ⟨rfl, Y_14, rfl, hY_15⟩ -
      refine am_eq_r (q' := (30, [some (.ref 19), some (.int (nI v)), some (.int (V.1 v))], [], wd C Y_14 og)) rfl ?_
      refine am_steps_r ok_M_putScalar 2 (q' := (bif decide ((V.1 v) = 0) then 34 else 43, [some (.ref 19), some (.int (nI v)), some (.int (V.1 v))], [], wd C Y_14 og)) rfl ?_
      refine am_br_r (fun h_16 => ?_) (fun h_16 => ?_)
      · skip
        exact absurd ((show (V.1 v) = 5 by assumption).symm.trans (show (V.1 v) = 0 by assumption)) (by decide)
      · skip
        refine am_steps_r ok_M_putScalar 3 (q' := (bif decide ((V.1 v) = 1) then 48 else 71, [some (.ref 19), some (.int (nI v)), some (.int (V.1 v))], [], wd C Y_14 og)) rfl ?_
        refine am_br_r (fun h_17 => ?_) (fun h_17 => ?_)
        · skip
          exact absurd ((show (V.1 v) = 5 by assumption).symm.trans (show (V.1 v) = 1 by assumption)) (by decide)
        · skip
          refine am_steps_r ok_M_putScalar 3 (q' := (bif decide ((V.1 v) = 2) then 76 else 89, [some (.ref 19), some (.int (nI v)), some (.int (V.1 v))], [], wd C Y_14 og)) rfl ?_
          refine am_br_r (fun h_18 => ?_) (fun h_18 => ?_)
          · skip
            exact absurd ((show (V.1 v) = 5 by assumption).symm.trans (show (V.1 v) = 2 by assumption)) (by decide)
          · skip
            refine am_steps_r ok_M_putScalar 3 (q' := (bif decide ((V.1 v) = 3) then 94 else 107, [some (.ref 19), some (.int (nI v)), some (.int (V.1 v))], [], wd C Y_14 og)) rfl ?_
            refine am_br_r (fun h_19 => ?_) (fun h_19 => ?_)
            · skip
              exact absurd ((show (V.1 v) = 5 by assumption).symm.trans (show (V.1 v) = 3 by assumption)) (by decide)
            · skip
              refine am_steps_r ok_M_putScalar 3 (q' := (bif decide ((V.1 v) = 4) then 112 else 120, [some (.ref 19), some (.int (nI v)), some (.int (V.1 v))], [], wd C Y_14 og)) rfl ?_
              refine am_br_r (fun h_20 => ?_) (fun h_20 => ?_)
              · skip
                first | contradiction | (exfalso; simp_all; done)
              · skip
                refine am_steps_r ok_M_putScalar 3 (q' := (bif decide ((V.1 v) = 5) then 125 else 133, [some (.ref 19), some (.int (nI v)), some (.int (V.1 v))], [], wd C Y_14 og)) rfl ?_
                refine am_br_r (fun h_21 => ?_) (fun h_21 => ?_)
                · skip
                  refine am_steps_r ok_M_putScalar 2 (q' := (127, [some (.ref 19), some (.int (nI v)), some (.int (V.1 v))], [.int (nI v), .ref 19], wd C Y_14 og)) rfl ?_
                  refine am_callV_r (As := [.int (nI v)]) (rest := []) ok_M_putScalar rfl rfl ok_M_putString oi_M_putString lk_6_304 (Or.inl ⟨_, _, _, rfl, rfl, rfl⟩) rfl rfl (Nat.le_of_ble_eq_true rfl) (c_M_putString _ C Y og rd A hr hrd 3 (L ++ gpL rd bf 3) (by omega) Y_14 hY_15 nv u V hY hby v hv (by rw [wVl_5 (by assumption)] at hb; simp only [List.length_append, List.length_cons] at hb ⊢; omega)) ?_
                  rintro v_ w_ ⟨rfl, Y_22, rfl, hY_23⟩ -
                  refine am_eq_r (q' := (130, [some (.ref 19), some (.int (nI v)), some (.int (V.1 v))], [], wd C Y_22 og)) rfl ?_
                  refine am_steps_r ok_M_putScalar 1 (q' := (179, [some (.ref 19), some (.int (nI v)), some (.int (V.1 v))], [], wd C Y_22 og)) rfl ?_
                  refine am_vret_r ok_M_putScalar rfl rfl rfl ?_
                  exact ⟨rfl, _, rfl, by rw [wVl_5 h_21]; exact hY_23⟩
                · skip
                  first | contradiction | (exfalso; simp_all; done)
    · skip
      refine am_steps_r ok_M_putScalar 1 (q' := (27, [some (.ref 19), some (.int (nI v)), some (.int (V.1 v))], [.int 1, .ref 19], wd C Y1 og)) rfl ?_
      have hgp_24 := gpL_1 rd bf 1
      refine am_callV_r (As := [.int 1]) (rest := []) ok_M_putScalar rfl rfl ok_M_part oi_M_part lk_6_292 (Or.inl ⟨_, _, _, rfl, rfl, rfl⟩) rfl rfl (Nat.le_of_ble_eq_true rfl) (c_M_part _ C Y og rd A hr hrd bf L (by omega) Y1 h1 1 (by omega) (by first | omega | (simp only [List.length_append, List.length_cons, List.length_nil] at hb ⊢; omega) | (simp only [List.length_append, List.length_cons, List.length_nil]; omega))) ?_
      rintro v_ w_ ⟨rfl, Y_25, rfl, hY_26⟩ -
      refine am_eq_r (q' := (30, [some (.ref 19), some (.int (nI v)), some (.int (V.1 v))], [], wd C Y_25 og)) rfl ?_
      refine am_steps_r ok_M_putScalar 2 (q' := (bif decide ((V.1 v) = 0) then 34 else 43, [some (.ref 19), some (.int (nI v)), some (.int (V.1 v))], [], wd C Y_25 og)) rfl ?_
      refine am_br_r (fun h_27 => ?_) (fun h_27 => ?_)
      · skip
        refine am_steps_r ok_M_putScalar 2 (q' := (37, [some (.ref 19), some (.int (nI v)), some (.int (V.1 v))], [.int 6, .ref 19], wd C Y_25 og)) rfl ?_
        have hwl_28 : st_4.length < 20 := by decide
        refine am_callV_r (As := [.int 6]) (rest := []) ok_M_putScalar rfl rfl ok_M_putWord oi_M_putWord lk_6_295 (Or.inl ⟨_, _, _, rfl, rfl, rfl⟩) rfl rfl (Nat.le_of_ble_eq_true rfl) (c_M_putWord_6 _ C Y og rd A hr hrd 1 (L ++ gpL rd bf 1) (by omega) Y_25 hY_26  (by first | omega | (simp only [List.length_append, List.length_cons, List.length_nil] at hb ⊢; omega) | (simp only [List.length_append, List.length_cons, List.length_nil]; omega))) ?_
        rintro v_ w_ ⟨rfl, Y_29, rfl, hY_30⟩ -
        refine am_eq_r (q' := (40, [some (.ref 19), some (.int (nI v)), some (.int (V.1 v))], [], wd C Y_29 og)) rfl ?_
        refine am_steps_r ok_M_putScalar 1 (q' := (179, [some (.ref 19), some (.int (nI v)), some (.int (V.1 v))], [], wd C Y_29 og)) rfl ?_
        refine am_vret_r ok_M_putScalar rfl rfl rfl ?_
        exact ⟨rfl, _, rfl, by rw [wVl_0 h_27]; exact hY_30⟩
      · skip
        refine am_steps_r ok_M_putScalar 3 (q' := (bif decide ((V.1 v) = 1) then 48 else 71, [some (.ref 19), some (.int (nI v)), some (.int (V.1 v))], [], wd C Y_25 og)) rfl ?_
        refine am_br_r (fun h_31 => ?_) (fun h_31 => ?_)
        · skip
          refine am_steps_r ok_M_putScalar 4 (q' := (54, [some (.ref 19), some (.int (nI v)), some (.int (V.1 v))], [.int (nI v), .ref 23, .ref 19], wd C Y_25 og)) rfl ?_
          refine am_lald_r ok_M_putScalar rfl (w := wd C Y_25 og) (f := Y_25.2.2.1) rfl rfl (pk_in v 300 (by omega)) ?_
          rw [nI_clamp (show v < 2 ^ 31 by omega)]
          rw [show (Y_25.2.2.1 v) = V.2.1 v from yq_n hY hY_26 (v := v) (by omega)]
          refine am_steps_r ok_M_putScalar 3 (q' := (bif decide ((lg_cmp (V.2.1 v) 1) = 0) then 60 else 64, [some (.ref 19), some (.int (nI v)), some (.int (V.1 v))], [.ref 19], wd C Y_25 og)) rfl ?_
          refine am_br_r (fun h_32 => ?_) (fun h_32 => ?_)
          · skip
            refine am_steps_r ok_M_putScalar 2 (q' := (65, [some (.ref 19), some (.int (nI v)), some (.int (V.1 v))], [.int 4, .ref 19], wd C Y_25 og)) rfl ?_
            have hwl_33 : st_5.length < 20 := by decide
            refine am_callV_r (As := [.int 4]) (rest := []) ok_M_putScalar rfl rfl ok_M_putWord oi_M_putWord lk_6_295 (Or.inl ⟨_, _, _, rfl, rfl, rfl⟩) rfl rfl (Nat.le_of_ble_eq_true rfl) (c_M_putWord_4 _ C Y og rd A hr hrd 1 (L ++ gpL rd bf 1) (by omega) Y_25 hY_26  (by first | omega | (simp only [List.length_append, List.length_cons, List.length_nil] at hb ⊢; omega) | (simp only [List.length_append, List.length_cons, List.length_nil]; omega))) ?_
            rintro v_ w_ ⟨rfl, Y_34, rfl, hY_35⟩ -
            refine am_eq_r (q' := (68, [some (.ref 19), some (.int (nI v)), some (.int (V.1 v))], [], wd C Y_34 og)) rfl ?_
            refine am_steps_r ok_M_putScalar 1 (q' := (179, [some (.ref 19), some (.int (nI v)), some (.int (V.1 v))], [], wd C Y_34 og)) rfl ?_
            refine am_vret_r ok_M_putScalar rfl rfl rfl ?_
            exact ⟨rfl, _, rfl, by rw [wVl_1 h_31, if_pos (cmp_0.mp h_32)]; exact hY_35⟩
          · skip
            refine am_steps_r ok_M_putScalar 1 (q' := (65, [some (.ref 19), some (.int (nI v)), some (.int (V.1 v))], [.int 5, .ref 19], wd C Y_25 og)) rfl ?_
            have hwl_36 : st_6.length < 20 := by decide
            refine am_callV_r (As := [.int 5]) (rest := []) ok_M_putScalar rfl rfl ok_M_putWord oi_M_putWord lk_6_295 (Or.inl ⟨_, _, _, rfl, rfl, rfl⟩) rfl rfl (Nat.le_of_ble_eq_true rfl) (c_M_putWord_5 _ C Y og rd A hr hrd 1 (L ++ gpL rd bf 1) (by omega) Y_25 hY_26  (by first | omega | (simp only [List.length_append, List.length_cons, List.length_nil] at hb ⊢; omega) | (simp only [List.length_append, List.length_cons, List.length_nil]; omega))) ?_
            rintro v_ w_ ⟨rfl, Y_37, rfl, hY_38⟩ -
            refine am_eq_r (q' := (68, [some (.ref 19), some (.int (nI v)), some (.int (V.1 v))], [], wd C Y_37 og)) rfl ?_
            refine am_steps_r ok_M_putScalar 1 (q' := (179, [some (.ref 19), some (.int (nI v)), some (.int (V.1 v))], [], wd C Y_37 og)) rfl ?_
            refine am_vret_r ok_M_putScalar rfl rfl rfl ?_
            exact ⟨rfl, _, rfl, by rw [wVl_1 h_31, if_neg (fun z => h_32 (cmp_0.mpr z))]; exact hY_38⟩
        · skip
          refine am_steps_r ok_M_putScalar 3 (q' := (bif decide ((V.1 v) = 2) then 76 else 89, [some (.ref 19), some (.int (nI v)), some (.int (V.1 v))], [], wd C Y_25 og)) rfl ?_
          refine am_br_r (fun h_39 => ?_) (fun h_39 => ?_)
          · skip
            refine am_steps_r ok_M_putScalar 4 (q' := (82, [some (.ref 19), some (.int (nI v)), some (.int (V.1 v))], [.int (nI v), .ref 23, .ref 19], wd C Y_25 og)) rfl ?_
            refine am_lald_r ok_M_putScalar rfl (w := wd C Y_25 og) (f := Y_25.2.2.1) rfl rfl (pk_in v 300 (by omega)) ?_
            rw [nI_clamp (show v < 2 ^ 31 by omega)]
            rw [show (Y_25.2.2.1 v) = V.2.1 v from yq_n hY hY_26 (v := v) (by omega)]
            refine am_callV_r (As := [.long (V.2.1 v)]) (rest := []) ok_M_putScalar rfl rfl ok_M_putNumber oi_M_putNumber lk_6_283 (Or.inl ⟨_, _, _, rfl, rfl, rfl⟩) rfl rfl (Nat.le_of_ble_eq_true rfl) (c_M_putNumber _ C Y og rd A hr hrd 1 (L ++ gpL rd bf 1) (by omega) Y_25 hY_26 (V.2.1 v) (nb_2 hnb (by assumption)) (by have := fgL_len (abN (V.2.1 v)); first | omega | (simp only [List.length_append, List.length_cons, List.length_nil] at hb ⊢; omega) | (simp only [List.length_append, List.length_cons, List.length_nil]; omega))) ?_
            rintro v_ w_ ⟨rfl, Y_40, rfl, hY_41⟩ -
            refine am_eq_r (q' := (86, [some (.ref 19), some (.int (nI v)), some (.int (V.1 v))], [], wd C Y_40 og)) rfl ?_
            refine am_steps_r ok_M_putScalar 1 (q' := (179, [some (.ref 19), some (.int (nI v)), some (.int (V.1 v))], [], wd C Y_40 og)) rfl ?_
            refine am_vret_r ok_M_putScalar rfl rfl rfl ?_
            exact ⟨rfl, _, rfl, by rw [wVl_2 h_39]; exact hY_41⟩
          · skip
            refine am_steps_r ok_M_putScalar 3 (q' := (bif decide ((V.1 v) = 3) then 94 else 107, [some (.ref 19), some (.int (nI v)), some (.int (V.1 v))], [], wd C Y_25 og)) rfl ?_
            refine am_br_r (fun h_42 => ?_) (fun h_42 => ?_)
            · skip
              refine am_steps_r ok_M_putScalar 4 (q' := (100, [some (.ref 19), some (.int (nI v)), some (.int (V.1 v))], [.int (nI v), .ref 23, .ref 19], wd C Y_25 og)) rfl ?_
              refine am_lald_r ok_M_putScalar rfl (w := wd C Y_25 og) (f := Y_25.2.2.1) rfl rfl (pk_in v 300 (by omega)) ?_
              rw [nI_clamp (show v < 2 ^ 31 by omega)]
              rw [show (Y_25.2.2.1 v) = V.2.1 v from yq_n hY hY_26 (v := v) (by omega)]
              refine am_callV_r (As := [.long (V.2.1 v)]) (rest := []) ok_M_putScalar rfl rfl ok_M_putReal oi_M_putReal lk_6_298 (Or.inl ⟨_, _, _, rfl, rfl, rfl⟩) rfl rfl (Nat.le_of_ble_eq_true rfl) (c_M_putReal _ C Y og rd A hr hrd 1 (L ++ gpL rd bf 1) (by omega) Y_25 hY_26 (V.2.1 v) (nb_3 hnb (by assumption)) (by have := fgL_len (abN (V.2.1 v) / 1000000); have := frL_len 6 (abN (V.2.1 v) % 1000000); first | omega | (simp only [List.length_append, List.length_cons, List.length_nil] at hb ⊢; omega) | (simp only [List.length_append, List.length_cons, List.length_nil]; omega))) ?_
              rintro v_ w_ ⟨rfl, Y_43, rfl, hY_44⟩ -
              refine am_eq_r (q' := (104, [some (.ref 19), some (.int (nI v)), some (.int (V.1 v))], [], wd C Y_43 og)) rfl ?_
              refine am_steps_r ok_M_putScalar 1 (q' := (179, [some (.ref 19), some (.int (nI v)), some (.int (V.1 v))], [], wd C Y_43 og)) rfl ?_
              refine am_vret_r ok_M_putScalar rfl rfl rfl ?_
              exact ⟨rfl, _, rfl, by rw [wVl_3 h_42]; exact hY_44⟩
            · skip
              refine am_steps_r ok_M_putScalar 3 (q' := (bif decide ((V.1 v) = 4) then 112 else 120, [some (.ref 19), some (.int (nI v)), some (.int (V.1 v))], [], wd C Y_25 og)) rfl ?_
              refine am_br_r (fun h_45 => ?_) (fun h_45 => ?_)
              · skip
                first | contradiction | (exfalso; simp_all; done)
              · skip
                refine am_steps_r ok_M_putScalar 3 (q' := (bif decide ((V.1 v) = 5) then 125 else 133, [some (.ref 19), some (.int (nI v)), some (.int (V.1 v))], [], wd C Y_25 og)) rfl ?_
                refine am_br_r (fun h_46 => ?_) (fun h_46 => ?_)
                · skip
                  first | contradiction | (exfalso; simp_all; done)
                · skip
                  have hk8 : V.1 v = 8 := by rcases hnb.2.2.2 with z | z | z | z | z | z | z | z | z | z <;> first | exact z | (exfalso; contradiction)
                  obtain ⟨n8, hn1, hn2, hn3, hn4⟩ := nb_8 hnb hk8
                  refine am_steps_r ok_M_putScalar 4 (q' := (139, [some (.ref 19), some (.int (nI v)), some (.int (V.1 v))], [.int (nI v), .ref 23, .ref 19], wd C Y_25 og)) rfl ?_
                  refine am_lald_r ok_M_putScalar rfl (w := wd C Y_25 og) (f := Y_25.2.2.1) rfl rfl (pk_in v 300 (by omega)) ?_
                  rw [nI_clamp (show v < 2 ^ 31 by omega)]
                  rw [show (Y_25.2.2.1 v) = V.2.1 v from yq_n hY hY_26 (v := v) (by omega)]
                  rw [hn2]
                  refine am_steps_r ok_M_putScalar 2 (q' := (144, [some (.ref 19), some (.int (nI v)), some (.int (V.1 v))], [.long ((lN n8) - (lN n8) / 1000000000 * 1000000000), .ref 19], wd C Y_25 og)) rfl ?_
                  rw [show (((lN n8) - (lN n8) / 1000000000 * 1000000000) : Int64) = lN (n8 % 1000000000) from lNrem (a_ := n8) (b_ := 1000000000) (by omega) (by omega)]
                  have hpn := fun dd => c_M_putNumber (l := l) (D := D) (cA := cA) (ad := ad) (fm := fm) dd C Y og rd A hr hrd 1 (L ++ gpL rd bf 1) (by omega) Y_25 hY_26 (lN (n8 % 1000000000)) (by rw [(is_lN (by omega)).2]; omega) (by rw [(is_lN (by omega)).2]; have := fgL_len (n8 % 1000000000); first | omega | (simp only [List.length_append, List.length_cons, List.length_nil] at hb ⊢; omega) | (simp only [List.length_append, List.length_cons, List.length_nil]; omega))
                  have hfl := fgL_len (n8 % 1000000000)
                  rw [wnL_m (by omega)] at hpn
                  refine am_callV_r (As := [.long (lN (n8 % 1000000000))]) (rest := []) ok_M_putScalar rfl rfl ok_M_putNumber oi_M_putNumber lk_6_283 (Or.inl ⟨_, _, _, rfl, rfl, rfl⟩) rfl rfl (Nat.le_of_ble_eq_true rfl) (hpn _) ?_
                  rintro v_ w_ ⟨rfl, Y_47, rfl, hY_48⟩ -
                  refine am_eq_r (q' := (147, [some (.ref 19), some (.int (nI v)), some (.int (V.1 v))], [], wd C Y_47 og)) rfl ?_
                  refine am_steps_r ok_M_putScalar 2 (q' := (150, [some (.ref 19), some (.int (nI v)), some (.int (V.1 v))], [.int 32, .ref 19], wd C Y_47 og)) rfl ?_
                  refine am_callV_r (As := [.int 32]) (rest := []) ok_M_putScalar rfl rfl ok_M_put oi_M_put lk_6_270 (Or.inl ⟨_, _, _, rfl, rfl, rfl⟩) rfl rfl (Nat.le_of_ble_eq_true rfl) (c_M_put _ C Y og rd A hr hrd 1 ((L ++ gpL rd bf 1) ++ fgL (n8 % 1000000000)) (by omega) Y_47 hY_48 32 (by first | omega | (simp only [List.length_append, List.length_cons, List.length_nil] at hb ⊢; omega) | (simp only [List.length_append, List.length_cons, List.length_nil]; omega))) ?_
                  rintro v_ w_ ⟨rfl, Y_49, rfl, hY_50⟩ -
                  refine am_eq_r (q' := (153, [some (.ref 19), some (.int (nI v)), some (.int (V.1 v))], [], wd C Y_49 og)) rfl ?_
                  refine am_steps_r ok_M_putScalar 4 (q' := (159, [some (.ref 19), some (.int (nI v)), some (.int (V.1 v))], [.int (nI v), .ref 23, .ref 19], wd C Y_49 og)) rfl ?_
                  refine am_lald_r ok_M_putScalar rfl (w := wd C Y_49 og) (f := Y_49.2.2.1) rfl rfl (pk_in v 300 (by omega)) ?_
                  rw [nI_clamp (show v < 2 ^ 31 by omega)]
                  rw [show (Y_49.2.2.1 v) = V.2.1 v from yq_n hY hY_50 (v := v) (by omega)]
                  rw [hn2]
                  refine am_steps_r ok_M_putScalar 2 (q' := (164, [some (.ref 19), some (.int (nI v)), some (.int (V.1 v))], [.long ((lN n8) / 1000000000), .ref 19], wd C Y_49 og)) rfl ?_
                  rw [show (((lN n8) / 1000000000) : Int64) = lN (n8 / 1000000000) from lNdiv (a_ := n8) (b_ := 1000000000) (by omega) (by omega)]
                  have hpn := fun dd => c_M_putNumber (l := l) (D := D) (cA := cA) (ad := ad) (fm := fm) dd C Y og rd A hr hrd 1 (((L ++ gpL rd bf 1) ++ fgL (n8 % 1000000000)) ++ [32]) (by omega) Y_49 hY_50 (lN (n8 / 1000000000)) (by rw [(is_lN (by omega)).2]; omega) (by rw [(is_lN (by omega)).2]; have := fgL_len (n8 / 1000000000); first | omega | (simp only [List.length_append, List.length_cons, List.length_nil] at hb ⊢; omega) | (simp only [List.length_append, List.length_cons, List.length_nil]; omega))
                  have hfl := fgL_len (n8 / 1000000000)
                  rw [wnL_m (by omega)] at hpn
                  refine am_callV_r (As := [.long (lN (n8 / 1000000000))]) (rest := []) ok_M_putScalar rfl rfl ok_M_putNumber oi_M_putNumber lk_6_283 (Or.inl ⟨_, _, _, rfl, rfl, rfl⟩) rfl rfl (Nat.le_of_ble_eq_true rfl) (hpn _) ?_
                  rintro v_ w_ ⟨rfl, Y_51, rfl, hY_52⟩ -
                  refine am_eq_r (q' := (167, [some (.ref 19), some (.int (nI v)), some (.int (V.1 v))], [], wd C Y_51 og)) rfl ?_
                  refine am_steps_r ok_M_putScalar 2 (q' := (170, [some (.ref 19), some (.int (nI v)), some (.int (V.1 v))], [.int 32, .ref 19], wd C Y_51 og)) rfl ?_
                  refine am_callV_r (As := [.int 32]) (rest := []) ok_M_putScalar rfl rfl ok_M_put oi_M_put lk_6_270 (Or.inl ⟨_, _, _, rfl, rfl, rfl⟩) rfl rfl (Nat.le_of_ble_eq_true rfl) (c_M_put _ C Y og rd A hr hrd 1 ((((L ++ gpL rd bf 1) ++ fgL (n8 % 1000000000)) ++ [32]) ++ fgL (n8 / 1000000000)) (by omega) Y_51 hY_52 32 (by first | omega | (simp only [List.length_append, List.length_cons, List.length_nil] at hb ⊢; omega) | (simp only [List.length_append, List.length_cons, List.length_nil]; omega))) ?_
                  rintro v_ w_ ⟨rfl, Y_53, rfl, hY_54⟩ -
                  refine am_eq_r (q' := (173, [some (.ref 19), some (.int (nI v)), some (.int (V.1 v))], [], wd C Y_53 og)) rfl ?_
                  refine am_steps_r ok_M_putScalar 2 (q' := (176, [some (.ref 19), some (.int (nI v)), some (.int (V.1 v))], [.int 82, .ref 19], wd C Y_53 og)) rfl ?_
                  refine am_callV_r (As := [.int 82]) (rest := []) ok_M_putScalar rfl rfl ok_M_put oi_M_put lk_6_270 (Or.inl ⟨_, _, _, rfl, rfl, rfl⟩) rfl rfl (Nat.le_of_ble_eq_true rfl) (c_M_put _ C Y og rd A hr hrd 1 (((((L ++ gpL rd bf 1) ++ fgL (n8 % 1000000000)) ++ [32]) ++ fgL (n8 / 1000000000)) ++ [32]) (by omega) Y_53 hY_54 82 (by first | omega | (simp only [List.length_append, List.length_cons, List.length_nil] at hb ⊢; omega) | (simp only [List.length_append, List.length_cons, List.length_nil]; omega))) ?_
                  rintro v_ w_ ⟨rfl, Y_55, rfl, hY_56⟩ -
                  refine am_eq_r (q' := (179, [some (.ref 19), some (.int (nI v)), some (.int (V.1 v))], [], wd C Y_55 og)) rfl ?_
                  refine am_vret_r ok_M_putScalar rfl rfl rfl ?_
                  refine ⟨rfl, _, rfl, ?_⟩
                  rw [wVl_8 hk8, hn3, hY_56]
                  simp only [rfL, List.append_assoc, List.cons_append, List.nil_append]
end C99
