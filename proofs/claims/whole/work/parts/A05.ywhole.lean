/-! the reference writes; printed by wip/gen/g105.py -/
theorem yE_start {Y : wd_Y} {A : Nat → Int32} (h14 : Y.1 14 = 0) (hA : A = Y.2.1 14) {bf : Nat} (hb : Y.1 15 = nI bf) : Y = yE Y A (bf, []) := by
  subst hA
  show Y = (upd (upd Y.1 14 (nI 0)) 15 (nI bf), wd_u Y.2.1 14 (qLn (Y.2.1 14) []), Y.2.2)
  rw [show wd_u Y.2.1 14 (qLn (Y.2.1 14) []) = Y.2.1 from funext (fun j => by
    unfold wd_u
    split
    · rename_i h
      rw [h]
      funext i
      simp [qLn]
    · rfl), show upd (upd Y.1 14 (nI 0)) 15 (nI bf) = Y.1 from funext (fun j => by
    by_cases e : j = 15
    · rw [e, ← hb]; simp [upd]
    · by_cases e2 : j = 14
      · rw [e2, h14]; simp [upd]; rfl
      · simp [upd, e, e2])]
theorem wOs_2 {rd : Nat} {V : VT} {E : Nat → Nat → Int32} : ∀ (c i : Nat) (st st' : WS), st.2 = st'.2 → (wOs rd V E c i st).2 = (wOs rd V E c i st').2
  | 0, i, st, st', h => h
  | c + 1, i, st, st', h => by
    rw [wOs, wOs]
    apply wOs_2
    unfold wOb
    rw [h]
    split
    · exact h
    · rfl
theorem wOs_bf {rd : Nat} {V : VT} {E : Nat → Nat → Int32} : ∀ (c i : Nat) (st : WS), st.1 ≤ 5 → (wOs rd V E c i st).1 ≤ 5
  | 0, i, st, h => h
  | c + 1, i, st, h => by
    rw [wOs]
    apply wOs_bf
    unfold wOb
    split
    · exact h
    · exact wWh_bf _ _ (Nat.zero_le _)
def cpK (A B : Nat → Int32) (k : Nat) : Nat → Int32 := fun j => if j < k then A j else B j
theorem cpK_0 (A B : Nat → Int32) : cpK A B 0 = B := by funext j; simp [cpK]
theorem cpK_s (A B : Nat → Int32) (k : Nat) : upd (cpK A B k) k (A k) = cpK A B (k + 1) := by
  funext j
  simp only [upd, cpK]
  by_cases e : j = k
  · subst e; simp
  · rw [if_neg e]
    by_cases h : j < k
    · rw [if_pos h, if_pos (by omega)]
    · rw [if_neg h, if_neg (by omega)]
theorem wdu_self {f : Nat → Nat → Int32} {a : Nat} : wd_u f a (f a) = f := by
  funext j
  unfold wd_u
  split
  · rename_i h; rw [h]
  · rfl
/-- what writing leaves of the reference -/
def wrR (Y Y' : wd_Y) (T : WS) : Prop := (∀ j, 0 < j → j < 12 → Y'.1 j = Y.1 j) ∧ Y'.1 0 = 0 ∧ (∀ j, j ≠ 11 → j ≠ 13 → j ≠ 14 → j ≠ 15 → Y'.2.1 j = Y.2.1 j) ∧ Y'.2.2 = Y.2.2 ∧ Y'.1 15 = nI T.1 ∧ (T.2.length ≤ 4000 → Y'.1 13 = nI T.2.length ∧ ∀ j, j < T.2.length → Y'.2.1 13 j = T.2.getD j 0) ∧ (¬ T.2.length ≤ 4000 → Y'.1 13 = Y.1 13 ∧ Y'.2.1 13 = Y.2.1 13)
section C105
variable {l : Launch} {D : va_G} {cA : Nat → ClassId} {ad : Nat → Nat} {fm : Value}
set_option maxHeartbeats 4000000 in
set_option maxRecDepth 100000 in
theorem lp_M_putWhole_58 (d : Nat) (C : wd_C) (Y : wd_Y) (og : Nat → Int64) (rd : Nat) (A : Nat → Int32) (hr : Y.1 16 = nI rd) (hrd : rd ≤ 1) (bf : Nat) (hbf : bf ≤ 5) (nv u : Nat) (V : VT) (hY : vsY Y nv u V) (v : Nat) (hv : v < nv)  : ∀ (fu : Nat) (post : Option Value → am_W → Prop) (k : Nat) (L : List Int32) (Y1 : wd_Y), (Y1 = yE Y A (bf, L)) → (k ≤ (V.2.2.2 v).length) → ((L ++ ((V.2.2.2 v).drop k)).length + 30 < 2147483648) → (∀ Y2, Y2 = yE Y A (bf, L ++ ((V.2.2.2 v).drop k) ++ (10 :: st_9)) → post none (wd C Y2 og)) → (V.2.2.2 v).length - k < fu → am_Rn l D cA ad fm (d + 2) m_M_putWhole (wd C Y og).length post (58, [some (.ref 19), some (.int (nI v)), some (.int (nI k))], [], wd C Y1 og) := by
  intro fu
  induction fu with
  | zero => intro post k L Y1 h1 hkl hb hpo hfu; exact absurd hfu (Nat.not_lt_zero _)
  | succ fu ih =>
    intro post k L Y1 h1 hkl hb hpo hfu
    have hnv := hY.1.2.1
    have hu2 := hY.1.2.2.2
    have hvl := yq_len hY hv
    obtain ⟨s0, s1, s2, s3, s4⟩ := (hY.2 v hv).2.2.2.1
    refine am_steps_r ok_M_putWhole 4 (q' := (64, [some (.ref 19), some (.int (nI v)), some (.int (nI k))], [.int (nI v), .ref 29, .int (nI k)], wd C Y1 og)) rfl ?_
    refine am_iald_r ok_M_putWhole rfl (w := wd C Y1 og) (f := Y1.2.1 8) rfl rfl (pk_in v 300 (by omega)) ?_
    rw [nI_clamp (show v < 2 ^ 31 by omega)]
    rw [show (Y1.2.1 8 v) = nI (V.2.2.2 v).length from yq_8 hY h1 (v := v) (by omega)]
    refine am_steps_r ok_M_putWhole 1 (q' := (bif decide ((nI ((V.2.2.2 v).length)) ≤ (nI k)) then 91 else 68, [some (.ref 19), some (.int (nI v)), some (.int (nI k))], [], wd C Y1 og)) rfl ?_
    refine am_br_r (fun h_1 => ?_) (fun h_1 => ?_)
    · skip
      have h_1 : ((V.2.2.2 v).length) ≤ k := (nI_leI (show ((V.2.2.2 v).length) < 2 ^ 31 by omega) (show k < 2 ^ 31 by omega)).mp h_1
      refine am_steps_r ok_M_putWhole 2 (q' := (94, [some (.ref 19), some (.int (nI v)), some (.int (nI k))], [.int 10, .ref 19], wd C Y1 og)) rfl ?_
      refine am_callV_r (As := [.int 10]) (rest := []) ok_M_putWhole rfl rfl ok_M_put oi_M_put lk_6_270 (Or.inl ⟨_, _, _, rfl, rfl, rfl⟩) rfl rfl (Nat.le_of_ble_eq_true rfl) (c_M_put _ C Y og rd A hr hrd bf L (by omega) Y1 h1 10 (by first | (rw [drop_get (bs := V.2.2.2 v) (k := k) (by omega)] at hb; simp only [List.length_append, List.length_cons, List.length_nil] at hb ⊢; omega) | (first | omega | (simp only [List.length_append, List.length_cons, List.length_nil] at hb ⊢; omega) | (simp only [List.length_append, List.length_cons, List.length_nil]; omega)))) ?_
      rintro v_ w_ ⟨rfl, Y_2, rfl, hY_3⟩ -
      refine am_eq_r (q' := (97, [some (.ref 19), some (.int (nI v)), some (.int (nI k))], [], wd C Y_2 og)) rfl ?_
      refine am_steps_r ok_M_putWhole 2 (q' := (99, [some (.ref 19), some (.int (nI v)), some (.int (nI k))], [.int 0, .ref 19], wd C Y_2 og)) rfl ?_
      have hwl_4 : st_9.length < 20 := by decide
      refine am_callV_r (As := [.int 0]) (rest := []) ok_M_putWhole rfl rfl ok_M_putWord oi_M_putWord lk_6_295 (Or.inl ⟨_, _, _, rfl, rfl, rfl⟩) rfl rfl (Nat.le_of_ble_eq_true rfl) (c_M_putWord_0 _ C Y og rd A hr hrd bf (L ++ [10]) (by omega) Y_2 hY_3  (by first | omega | (simp only [List.length_append, List.length_cons, List.length_nil] at hb ⊢; omega) | (simp only [List.length_append, List.length_cons, List.length_nil]; omega))) ?_
      rintro v_ w_ ⟨rfl, Y_5, rfl, hY_6⟩ -
      refine am_eq_r (q' := (102, [some (.ref 19), some (.int (nI v)), some (.int (nI k))], [], wd C Y_5 og)) rfl ?_
      refine am_vret_r ok_M_putWhole rfl rfl rfl ?_
      refine hpo _ ?_
      rw [List.drop_eq_nil_of_le (by omega), List.append_nil, hY_6]
      simp only [List.append_assoc, List.cons_append, List.nil_append]
    · skip
      have h_1 : ¬ ((V.2.2.2 v).length) ≤ k := fun z => h_1 ((nI_leI (show ((V.2.2.2 v).length) < 2 ^ 31 by omega) (show k < 2 ^ 31 by omega)).mpr z)
      refine am_steps_r ok_M_putWhole 6 (q' := (78, [some (.ref 19), some (.int (nI v)), some (.int (nI k))], [.int (nI v), .ref 28, .ref 30, .ref 19], wd C Y1 og)) rfl ?_
      refine am_iald_r ok_M_putWhole rfl (w := wd C Y1 og) (f := Y1.2.1 7) rfl rfl (pk_in v 300 (by omega)) ?_
      rw [nI_clamp (show v < 2 ^ 31 by omega)]
      rw [show (Y1.2.1 7 v) = nI s0 from (congrFun (ya h1 (by decide)) v).trans s1]
      refine am_steps_r ok_M_putWhole 2 (q' := (81, [some (.ref 19), some (.int (nI v)), some (.int (nI k))], [.int ((nI s0) + (nI k)), .ref 30, .ref 19], wd C Y1 og)) rfl ?_
      rw [show ((nI s0) + (nI k) : Int32) = nI (s0 + k) from nI_add s0 k]
      refine am_iald_r ok_M_putWhole rfl (w := wd C Y1 og) (f := Y1.2.1 9) rfl rfl (pk_in (s0 + k) 2000 (by omega)) ?_
      rw [nI_clamp (show (s0 + k) < 2 ^ 31 by omega)]
      rw [show (Y1.2.1 9 (s0 + k)) = (V.2.2.2 v).getD k 0 from (congrFun (ya h1 (by decide)) (s0 + k)).trans (s4 k (by omega))]
      refine am_callV_r (As := [.int ((V.2.2.2 v).getD k 0)]) (rest := []) ok_M_putWhole rfl rfl ok_M_put oi_M_put lk_6_270 (Or.inl ⟨_, _, _, rfl, rfl, rfl⟩) rfl rfl (Nat.le_of_ble_eq_true rfl) (c_M_put _ C Y og rd A hr hrd bf L (by omega) Y1 h1 ((V.2.2.2 v).getD k 0) (by first | (rw [drop_get (bs := V.2.2.2 v) (k := k) (by omega)] at hb; simp only [List.length_append, List.length_cons, List.length_nil] at hb ⊢; omega) | (first | omega | (simp only [List.length_append, List.length_cons, List.length_nil] at hb ⊢; omega) | (simp only [List.length_append, List.length_cons, List.length_nil]; omega)))) ?_
      rintro v_ w_ ⟨rfl, Y_7, rfl, hY_8⟩ -
      refine am_eq_r (q' := (85, [some (.ref 19), some (.int (nI v)), some (.int (nI k))], [], wd C Y_7 og)) rfl ?_
      refine am_steps_r ok_M_putWhole 2 (q' := (58, [some (.ref 19), some (.int (nI v)), some (.int ((nI k) + 1))], [], wd C Y_7 og)) rfl ?_
      rw [show ((nI k) + 1 : Int32) = nI (k + 1) from nI_add k 1]
      exact ih post (k + 1) (L ++ [((V.2.2.2 v).getD k 0)]) Y_7 hY_8 (by omega) (by rw [drop_get (bs := V.2.2.2 v) (k := k) (by omega), ← app_app1 L ((V.2.2.2 v).getD k 0)] at hb; exact hb) (by rw [drop_get (bs := V.2.2.2 v) (k := k) (by omega), ← app_app1 L ((V.2.2.2 v).getD k 0)] at hpo; exact hpo) (by omega)
set_option maxHeartbeats 4000000 in
set_option maxRecDepth 100000 in
theorem c_M_putWhole (d : Nat) (C : wd_C) (Y : wd_Y) (og : Nat → Int64) (rd : Nat) (A : Nat → Int32) (hr : Y.1 16 = nI rd) (hrd : rd ≤ 1) (nv u : Nat) (V : VT) (hY : vsY Y nv u V) (hby : ∀ w, w < nv → ∀ k, k < (V.2.2.2 w).length → ∃ j, j < 256 ∧ (V.2.2.2 w).getD k 0 = nI j) (ht : Nat → Nat) (hg : hG nv V ht) (hok : vok nv V) (hsp : ∀ v, v < nv → V.1 v = 7 → (∃ me, (V.2.2.1 v).length = 2 * me) ∧ vtSpl V v st_8 = (prF (isLn V) (V.2.2.1 v)).map (fun z => z.1)) (v : Nat) (hv : v < nv) (bf : Nat) (L : List Int32) (hbf : bf ≤ 5) (Y1 : wd_Y) (h1 : Y1 = yE Y A (bf, L)) (hb : (wWh rd V (0, L) v).2.length + 1000 < 2147483648) : am_Mt l D cA ad fm (d + 6) m_M_putWhole [.ref 19, .int (nI v)] (wd C Y1 og) (fun vr w' => vr = none ∧ ∃ Yb Y2, w' = wd C Y2 og ∧ bY Y Yb ∧ Y2 = yE Yb A (wWh rd V (0, L) v)) := by
  have hnv := hY.1.2.1
  have hbL : L.length + 1000 < 2147483648 := by have h8 := wWh_le (rd := rd) (V := V) (nv := 0) (0, L) v; have h9 : (0, L).2.length = L.length := rfl; omega
  refine am_mt ok_M_putWhole (by simp [am_arg, Value.category, m_M_putWhole, am_ml]) ?_
  refine am_eq_r (q' := (0, [some (.ref 19), some (.int (nI v)), none], [], wd C Y1 og)) rfl ?_
  refine am_steps_r ok_M_putWhole 3 (q' := (5, [some (.ref 19), some (.int (nI v)), none], [], wd C (upd Y1.1 15 0, Y1.2) og)) rfl ?_
  obtain ⟨Yz, hEz⟩ : ∃ Z : wd_Y, Z = (upd Y1.1 15 0, Y1.2) := ⟨_, rfl⟩
  rw [← hEz]
  have h1z : Yz = yE Y A (0, L) := by rw [hEz, h1]; exact yE_bf (s := (bf, L)) (t := 0)
  refine am_eq_r (q' := (5, [some (.ref 19), some (.int (nI v)), none], [], wd C Yz og)) rfl ?_
  refine am_steps_r ok_M_putWhole 3 (q' := (10, [some (.ref 19), some (.int (nI v)), none], [.int (nI v), .ref 22], wd C Yz og)) rfl ?_
  refine am_iald_r ok_M_putWhole rfl (w := wd C Yz og) (f := Yz.2.1 2) rfl rfl (pk_in v 300 (by omega)) ?_
  rw [nI_clamp (show v < 2 ^ 31 by omega)]
  rw [show (Yz.2.1 2 v) = V.1 v from yq_2 hY h1z (v := v) (by omega)]
  refine am_steps_r ok_M_putWhole 2 (q' := (bif decide ((V.1 v) = 9) then 23 else 16, [some (.ref 19), some (.int (nI v)), none], [], wd C Yz og)) rfl ?_
  refine am_br_r (fun h_1 => ?_) (fun h_1 => ?_)
  · skip
    have h9 := h_1
    obtain ⟨hh8, dc, hdc, hdc7⟩ := (hg v hv).2.2.2.1 h9
    have hdcn : dc < nv := (hok.1 v hv).1 dc (by rw [hdc]; simp)
    obtain ⟨⟨me, hev⟩, hspl⟩ := hsp dc hdcn hdc7
    have hdc1 : Y.2.1 3 v = nI dc := by have := (hY.2 v hv).2.2.2.2.1; rw [hdc] at this; exact this.1
    have hvl := yq_len hY hv
    have hbq : (wDc rd V 8 (0, L) dc (V.2.2.2 v).length).2.length + (V.2.2.2 v).length + 1000 < 2147483648 := by
      have e : (wWh rd V (0, L) v).2 = (wDc rd V 8 (0, L) dc (V.2.2.2 v).length).2 ++ (10 :: st_7 ++ [10]) ++ V.2.2.2 v ++ (10 :: st_9) := by rw [wWh, if_pos h9, hdc]; rfl
      rw [e] at hb
      simp only [List.length_append] at hb
      omega
    have hbk : (wDk rd V 8 (vtSpl V dc st_8) (V.2.2.2 v).length (4, L ++ gpL rd 0 4 ++ [60, 60]) (V.2.2.1 dc)).2.length + 1000 < 2147483648 := by have := wDc_le (rd := rd) (V := V) (f := 8) (bf := 0) (L := L) (v := dc) (m := (V.2.2.2 v).length); have e2 : (st_18 : List Int32) = [60, 60] := rfl; rw [e2] at this; omega
    refine am_steps_r ok_M_putWhole 4 (q' := (29, [some (.ref 19), some (.int (nI v)), none], [.int (nI v), .ref 24, .ref 19], wd C Yz og)) rfl ?_
    refine am_iald_r ok_M_putWhole rfl (w := wd C Yz og) (f := Yz.2.1 3) rfl rfl (pk_in v 300 (by omega)) ?_
    rw [nI_clamp (show v < 2 ^ 31 by omega)]
    rw [show (Yz.2.1 3 v) = nI dc from (congrFun (ya h1z (by decide)) v).trans hdc1]
    refine am_steps_r ok_M_putWhole 3 (q' := (35, [some (.ref 19), some (.int (nI v)), none], [.int (nI v), .ref 29, .int (nI dc), .ref 19], wd C Yz og)) rfl ?_
    refine am_iald_r ok_M_putWhole rfl (w := wd C Yz og) (f := Yz.2.1 8) rfl rfl (pk_in v 300 (by omega)) ?_
    rw [nI_clamp (show v < 2 ^ 31 by omega)]
    rw [show (Yz.2.1 8 v) = nI (V.2.2.2 v).length from yq_8 hY h1z (v := v) (by omega)]
    refine am_callV_r (As := [.int (nI dc), .int (nI ((V.2.2.2 v).length))]) (rest := []) ok_M_putWhole rfl rfl ok_M_putValue oi_M_putValue lk_6_322 (Or.inl ⟨_, _, _, rfl, rfl, rfl⟩) rfl rfl (Nat.le_of_ble_eq_true rfl) (c_M_putValue_s _ C Y og rd A hr hrd nv u V hY hby ht hg hok dc hdcn 0 L (by omega) Yz h1z hdc7 (V.2.2.2 v).length (by omega) me hev hspl (by omega)) ?_
    rintro v_ w_ ⟨rfl, Yb, Y9, rfl, hB, h9y⟩ -
    have hrb : Yb.1 16 = nI rd := (hB.1 16 (by decide)).trans hr
    have hYb := bY_vs hB hY
    have hbf5 : (wDc rd V 8 (0, L) dc (V.2.2.2 v).length).1 ≤ 5 := Nat.le_refl 5
    obtain ⟨b2, L2, hs2⟩ : ∃ b_ L_, wDc rd V 8 (0, L) dc (V.2.2.2 v).length = (b_, L_) := ⟨_, _, rfl⟩
    rw [hs2] at h9y hbf5
    have hb52 : b2 ≤ 5 := hbf5
    have hb2 : L2.length + (V.2.2.2 v).length + 500 < 2147483648 := by have hq := hbq; rw [hs2] at hq; have hq2 : L2.length + (V.2.2.2 v).length + 1000 < 2147483648 := hq; omega
    obtain ⟨s0, s1, s2, s3, s4⟩ := (hYb.2 v hv).2.2.2.1
    refine am_eq_r (q' := (39, [some (.ref 19), some (.int (nI v)), none], [], wd C Y9 og)) rfl ?_
    refine am_steps_r ok_M_putWhole 2 (q' := (42, [some (.ref 19), some (.int (nI v)), none], [.int 10, .ref 19], wd C Y9 og)) rfl ?_
    refine am_callV_r (As := [.int 10]) (rest := []) ok_M_putWhole rfl rfl ok_M_put oi_M_put lk_6_270 (Or.inl ⟨_, _, _, rfl, rfl, rfl⟩) rfl rfl (Nat.le_of_ble_eq_true rfl) (c_M_put _ C Yb og rd A hrb hrd b2 L2 (by omega) Y9 h9y 10 (by first | omega | (simp only [List.length_append, List.length_cons, List.length_nil] at hb ⊢; omega) | (simp only [List.length_append, List.length_cons, List.length_nil]; omega))) ?_
    rintro v_ w_ ⟨rfl, Y_2, rfl, hY_3⟩ -
    refine am_eq_r (q' := (45, [some (.ref 19), some (.int (nI v)), none], [], wd C Y_2 og)) rfl ?_
    refine am_steps_r ok_M_putWhole 2 (q' := (47, [some (.ref 19), some (.int (nI v)), none], [.int 2, .ref 19], wd C Y_2 og)) rfl ?_
    have hwl_4 : st_7.length < 20 := by decide
    refine am_callV_r (As := [.int 2]) (rest := []) ok_M_putWhole rfl rfl ok_M_putWord oi_M_putWord lk_6_295 (Or.inl ⟨_, _, _, rfl, rfl, rfl⟩) rfl rfl (Nat.le_of_ble_eq_true rfl) (c_M_putWord_2 _ C Yb og rd A hrb hrd b2 (L2 ++ [10]) (by omega) Y_2 hY_3  (by first | omega | (simp only [List.length_append, List.length_cons, List.length_nil] at hb ⊢; omega) | (simp only [List.length_append, List.length_cons, List.length_nil]; omega))) ?_
    rintro v_ w_ ⟨rfl, Y_5, rfl, hY_6⟩ -
    refine am_eq_r (q' := (50, [some (.ref 19), some (.int (nI v)), none], [], wd C Y_5 og)) rfl ?_
    refine am_steps_r ok_M_putWhole 2 (q' := (53, [some (.ref 19), some (.int (nI v)), none], [.int 10, .ref 19], wd C Y_5 og)) rfl ?_
    refine am_callV_r (As := [.int 10]) (rest := []) ok_M_putWhole rfl rfl ok_M_put oi_M_put lk_6_270 (Or.inl ⟨_, _, _, rfl, rfl, rfl⟩) rfl rfl (Nat.le_of_ble_eq_true rfl) (c_M_put _ C Yb og rd A hrb hrd b2 ((L2 ++ [10]) ++ st_7) (by omega) Y_5 hY_6 10 (by first | omega | (simp only [List.length_append, List.length_cons, List.length_nil] at hb ⊢; omega) | (simp only [List.length_append, List.length_cons, List.length_nil]; omega))) ?_
    rintro v_ w_ ⟨rfl, Y_7, rfl, hY_8⟩ -
    refine am_eq_r (q' := (56, [some (.ref 19), some (.int (nI v)), none], [], wd C Y_7 og)) rfl ?_
    refine am_steps_r ok_M_putWhole 2 (q' := (58, [some (.ref 19), some (.int (nI v)), some (.int 0)], [], wd C Y_7 og)) rfl ?_
    refine am_eq_r (q' := (58, [some (.ref 19), some (.int (nI v)), some (.int (nI 0))], [], wd C Y_7 og)) rfl ?_
    exact lp_M_putWhole_58 (d + 4) C Yb og rd A hrb hrd b2 hb52 nv u V hYb v hv ((V.2.2.2 v).length + 1) _ 0 (((L2 ++ [10]) ++ st_7) ++ [10]) Y_7 hY_8 (Nat.zero_le _) (by rw [List.drop_zero]; have hL9 : st_7.length < 20 := (by decide); first | omega | (simp only [List.length_append, List.length_cons, List.length_nil] at hb ⊢; omega) | (simp only [List.length_append, List.length_cons, List.length_nil]; omega)) (fun Y2 h2 => ⟨rfl, Yb, Y2, rfl, hB, by rw [h2, wWh, if_pos h9, hdc]; show _ = yE Yb A ((wDc rd V 8 (0, L) dc (V.2.2.2 v).length).1, _); rw [show [dc].headD 0 = dc from rfl, hs2]; simp only [List.append_assoc, List.cons_append, List.nil_append, List.drop_zero]⟩) (by omega)
  · skip
    refine am_steps_r ok_M_putWhole 3 (q' := (19, [some (.ref 19), some (.int (nI v)), none], [.int (-1), .int (nI v), .ref 19], wd C Yz og)) rfl ?_
    refine am_callV_r (As := [.int (nI v), .int (-1)]) (rest := []) ok_M_putWhole rfl rfl ok_M_putValue oi_M_putValue lk_6_322 (Or.inl ⟨_, _, _, rfl, rfl, rfl⟩) rfl rfl (Nat.le_of_ble_eq_true rfl) (c_M_putValue_p _ C Y og rd A hr hrd nv u V hY hby ht hg hok v hv 0 L (by omega) Yz h1z (by assumption) (by rw [wWh, if_neg (by assumption)] at hb; exact hb)) ?_
    rintro v_ w_ ⟨rfl, Yb, Y9, rfl, hB, h9y⟩ -
    refine am_eq_r (q' := (22, [some (.ref 19), some (.int (nI v)), none], [], wd C Y9 og)) rfl ?_
    refine am_vret_r ok_M_putWhole rfl rfl rfl ?_
    exact ⟨rfl, Yb, _, rfl, hB, by rw [wWh, if_neg (by assumption)]; exact h9y⟩
set_option maxHeartbeats 4000000 in
set_option maxRecDepth 100000 in
theorem c_M_putObject (d : Nat) (C : wd_C) (Y : wd_Y) (og : Nat → Int64) (rd : Nat) (A : Nat → Int32) (hr : Y.1 16 = nI rd) (hrd : rd ≤ 1) (nv u : Nat) (V : VT) (hY : vsY Y nv u V) (hby : ∀ w, w < nv → ∀ k, k < (V.2.2.2 w).length → ∃ j, j < 256 ∧ (V.2.2.2 w).getD k 0 = nI j) (ht : Nat → Nat) (hg : hG nv V ht) (hok : vok nv V) (hsp : ∀ v, v < nv → V.1 v = 7 → (∃ me, (V.2.2.1 v).length = 2 * me) ∧ vtSpl V v st_8 = (prF (isLn V) (V.2.2.1 v)).map (fun z => z.1)) (no : Nat) (E : Nat → Nat → Int32) (hO : obY Y no E) (i : Nat) (hi : i < no) (a g : Nat) (ha : a < 1000000000) (hE0 : E i 0 = nI a) (hg9 : g < 1000000000) (hE1 : E i 1 = nI g) (x : Nat) (hx1 : x < nv) (hx2 : E i 2 = nI x) (bf : Nat) (L : List Int32) (hbf : bf ≤ 5) (Y1 : wd_Y) (h1 : Y1 = yE Y A (bf, L)) (hb : (wWh rd V (0, L ++ wHd E i) x).2.length + 2000 < 2147483648) : am_Mt l D cA ad fm (d + 7) m_M_putObject [.ref 19, .int (nI i)] (wd C Y1 og) (fun vr w' => vr = none ∧ ∃ Yb Y2, w' = wd C Y2 og ∧ bY Y Yb ∧ Y2 = yE Yb A (wOb rd V E (bf, L) i)) := by
  have hnv := hY.1.2.1
  have hno := hO.2.1
  have hbL : L.length + 1000 < 2147483648 := by have q := wWh_le (rd := rd) (V := V) (nv := 0) (0, L ++ wHd E i) x; have q2 : L.length ≤ (0, L ++ wHd E i).2.length := (by show _ ≤ (L ++ wHd E i).length; rw [List.length_append]; omega); omega
  refine am_mt ok_M_putObject (by simp [am_arg, Value.category, m_M_putObject, am_ml]) ?_
  refine am_eq_r (q' := (0, [some (.ref 19), some (.int (nI i))], [], wd C Y1 og)) rfl ?_
  refine am_steps_r ok_M_putObject 6 (q' := (9, [some (.ref 19), some (.int (nI i))], [.int (8 * (nI i)), .ref 21, .ref 19], wd C Y1 og)) rfl ?_
  rw [show (8 * (nI i) : Int32) = nI (8 * i) from pk_mul 8 i]
  refine am_iald_r ok_M_putObject rfl (w := wd C Y1 og) (f := Y1.2.1 1) rfl rfl (pk_in (8 * i) 160 (by omega)) ?_
  rw [nI_clamp (show (8 * i) < 2 ^ 31 by omega)]
  rw [show (Y1.2.1 1 (8 * i)) = nI a from (congrFun (ya h1 (by decide)) (8 * i)).trans ((hO.2.2 i hi 0 (by omega)).trans hE0)]
  refine am_steps_r ok_M_putObject 1 (q' := (11, [some (.ref 19), some (.int (nI i))], [.long ((nI a).toInt64), .ref 19], wd C Y1 og)) rfl ?_
  rw [show ((nI a).toInt64 : Int64) = lN a from nIl a (by omega)]
  have hpn := fun dd => c_M_putNumber (l := l) (D := D) (cA := cA) (ad := ad) (fm := fm) dd C Y og rd A hr hrd bf L (by omega) Y1 h1 (lN a) (by rw [(is_lN (by omega)).2]; omega) (by rw [(is_lN (by omega)).2]; have := fgL_len a; first | omega | (simp only [List.length_append, List.length_cons, List.length_nil] at hb ⊢; omega) | (simp only [List.length_append, List.length_cons, List.length_nil]; omega))
  have hfl := fgL_len a
  rw [wnL_m (by omega)] at hpn
  refine am_callV_r (As := [.long (lN a)]) (rest := []) ok_M_putObject rfl rfl ok_M_putNumber oi_M_putNumber lk_6_283 (Or.inl ⟨_, _, _, rfl, rfl, rfl⟩) rfl rfl (Nat.le_of_ble_eq_true rfl) (hpn _) ?_
  rintro v_ w_ ⟨rfl, Y_1, rfl, hY_2⟩ -
  refine am_eq_r (q' := (14, [some (.ref 19), some (.int (nI i))], [], wd C Y_1 og)) rfl ?_
  refine am_steps_r ok_M_putObject 2 (q' := (17, [some (.ref 19), some (.int (nI i))], [.int 32, .ref 19], wd C Y_1 og)) rfl ?_
  refine am_callV_r (As := [.int 32]) (rest := []) ok_M_putObject rfl rfl ok_M_put oi_M_put lk_6_270 (Or.inl ⟨_, _, _, rfl, rfl, rfl⟩) rfl rfl (Nat.le_of_ble_eq_true rfl) (c_M_put _ C Y og rd A hr hrd bf (L ++ fgL a) (by omega) Y_1 hY_2 32 (by first | omega | (simp only [List.length_append, List.length_cons, List.length_nil] at hb ⊢; omega) | (simp only [List.length_append, List.length_cons, List.length_nil]; omega))) ?_
  rintro v_ w_ ⟨rfl, Y_3, rfl, hY_4⟩ -
  refine am_eq_r (q' := (20, [some (.ref 19), some (.int (nI i))], [], wd C Y_3 og)) rfl ?_
  refine am_steps_r ok_M_putObject 8 (q' := (31, [some (.ref 19), some (.int (nI i))], [.int ((8 * (nI i)) + 1), .ref 21, .ref 19], wd C Y_3 og)) rfl ?_
  rw [show (8 * (nI i) : Int32) = nI (8 * i) from pk_mul 8 i]
  rw [show ((nI (8 * i)) + 1 : Int32) = nI ((8 * i) + 1) from nI_add (8 * i) 1]
  refine am_iald_r ok_M_putObject rfl (w := wd C Y_3 og) (f := Y_3.2.1 1) rfl rfl (pk_in ((8 * i) + 1) 160 (by omega)) ?_
  rw [nI_clamp (show ((8 * i) + 1) < 2 ^ 31 by omega)]
  rw [show (Y_3.2.1 1 ((8 * i) + 1)) = nI g from (congrFun (ya hY_4 (by decide)) ((8 * i) + 1)).trans ((hO.2.2 i hi 1 (by omega)).trans hE1)]
  refine am_steps_r ok_M_putObject 1 (q' := (33, [some (.ref 19), some (.int (nI i))], [.long ((nI g).toInt64), .ref 19], wd C Y_3 og)) rfl ?_
  rw [show ((nI g).toInt64 : Int64) = lN g from nIl g (by omega)]
  have hpn := fun dd => c_M_putNumber (l := l) (D := D) (cA := cA) (ad := ad) (fm := fm) dd C Y og rd A hr hrd bf ((L ++ fgL a) ++ [32]) (by omega) Y_3 hY_4 (lN g) (by rw [(is_lN (by omega)).2]; omega) (by rw [(is_lN (by omega)).2]; have := fgL_len g; first | omega | (simp only [List.length_append, List.length_cons, List.length_nil] at hb ⊢; omega) | (simp only [List.length_append, List.length_cons, List.length_nil]; omega))
  have hfl := fgL_len g
  rw [wnL_m (by omega)] at hpn
  refine am_callV_r (As := [.long (lN g)]) (rest := []) ok_M_putObject rfl rfl ok_M_putNumber oi_M_putNumber lk_6_283 (Or.inl ⟨_, _, _, rfl, rfl, rfl⟩) rfl rfl (Nat.le_of_ble_eq_true rfl) (hpn _) ?_
  rintro v_ w_ ⟨rfl, Y_5, rfl, hY_6⟩ -
  refine am_eq_r (q' := (36, [some (.ref 19), some (.int (nI i))], [], wd C Y_5 og)) rfl ?_
  refine am_steps_r ok_M_putObject 2 (q' := (39, [some (.ref 19), some (.int (nI i))], [.int 32, .ref 19], wd C Y_5 og)) rfl ?_
  refine am_callV_r (As := [.int 32]) (rest := []) ok_M_putObject rfl rfl ok_M_put oi_M_put lk_6_270 (Or.inl ⟨_, _, _, rfl, rfl, rfl⟩) rfl rfl (Nat.le_of_ble_eq_true rfl) (c_M_put _ C Y og rd A hr hrd bf (((L ++ fgL a) ++ [32]) ++ fgL g) (by omega) Y_5 hY_6 32 (by first | omega | (simp only [List.length_append, List.length_cons, List.length_nil] at hb ⊢; omega) | (simp only [List.length_append, List.length_cons, List.length_nil]; omega))) ?_
  rintro v_ w_ ⟨rfl, Y_7, rfl, hY_8⟩ -
  refine am_eq_r (q' := (42, [some (.ref 19), some (.int (nI i))], [], wd C Y_7 og)) rfl ?_
  refine am_steps_r ok_M_putObject 2 (q' := (44, [some (.ref 19), some (.int (nI i))], [.int 3, .ref 19], wd C Y_7 og)) rfl ?_
  have hwl_9 : st_0.length < 20 := by decide
  refine am_callV_r (As := [.int 3]) (rest := []) ok_M_putObject rfl rfl ok_M_putWord oi_M_putWord lk_6_295 (Or.inl ⟨_, _, _, rfl, rfl, rfl⟩) rfl rfl (Nat.le_of_ble_eq_true rfl) (c_M_putWord_3 _ C Y og rd A hr hrd bf ((((L ++ fgL a) ++ [32]) ++ fgL g) ++ [32]) (by omega) Y_7 hY_8  (by first | omega | (simp only [List.length_append, List.length_cons, List.length_nil] at hb ⊢; omega) | (simp only [List.length_append, List.length_cons, List.length_nil]; omega))) ?_
  rintro v_ w_ ⟨rfl, Y_10, rfl, hY_11⟩ -
  refine am_eq_r (q' := (47, [some (.ref 19), some (.int (nI i))], [], wd C Y_10 og)) rfl ?_
  refine am_steps_r ok_M_putObject 2 (q' := (50, [some (.ref 19), some (.int (nI i))], [.int 10, .ref 19], wd C Y_10 og)) rfl ?_
  refine am_callV_r (As := [.int 10]) (rest := []) ok_M_putObject rfl rfl ok_M_put oi_M_put lk_6_270 (Or.inl ⟨_, _, _, rfl, rfl, rfl⟩) rfl rfl (Nat.le_of_ble_eq_true rfl) (c_M_put _ C Y og rd A hr hrd bf (((((L ++ fgL a) ++ [32]) ++ fgL g) ++ [32]) ++ st_0) (by omega) Y_10 hY_11 10 (by first | omega | (simp only [List.length_append, List.length_cons, List.length_nil] at hb ⊢; omega) | (simp only [List.length_append, List.length_cons, List.length_nil]; omega))) ?_
  rintro v_ w_ ⟨rfl, Y_12, rfl, hY_13⟩ -
  refine am_eq_r (q' := (53, [some (.ref 19), some (.int (nI i))], [], wd C Y_12 og)) rfl ?_
  refine am_steps_r ok_M_putObject 8 (q' := (64, [some (.ref 19), some (.int (nI i))], [.int ((8 * (nI i)) + 2), .ref 21, .ref 19], wd C Y_12 og)) rfl ?_
  rw [show (8 * (nI i) : Int32) = nI (8 * i) from pk_mul 8 i]
  rw [show ((nI (8 * i)) + 2 : Int32) = nI ((8 * i) + 2) from nI_add (8 * i) 2]
  refine am_iald_r ok_M_putObject rfl (w := wd C Y_12 og) (f := Y_12.2.1 1) rfl rfl (pk_in ((8 * i) + 2) 160 (by omega)) ?_
  rw [nI_clamp (show ((8 * i) + 2) < 2 ^ 31 by omega)]
  rw [show (Y_12.2.1 1 ((8 * i) + 2)) = nI x from (congrFun (ya hY_13 (by decide)) ((8 * i) + 2)).trans ((hO.2.2 i hi 2 (by omega)).trans hx2)]
  have hLe : ((((((L ++ fgL a) ++ [32]) ++ fgL g) ++ [32]) ++ st_0) ++ [10]) = L ++ wHd E i := by rw [wHd, hE0, hE1, nI_clamp (by omega), nI_clamp (by omega)]; simp only [List.append_assoc]; rfl
  rw [hLe] at hY_13
  refine am_callV_r (As := [.int (nI x)]) (rest := []) ok_M_putObject rfl rfl ok_M_putWhole oi_M_putWhole lk_6_325 (Or.inl ⟨_, _, _, rfl, rfl, rfl⟩) rfl rfl (Nat.le_of_ble_eq_true rfl) (c_M_putWhole _ C Y og rd A hr hrd nv u V hY hby ht hg hok hsp x hx1 bf (L ++ wHd E i) (by omega) Y_12 hY_13 (by omega)) ?_
  rintro v_ w_ ⟨rfl, Yb, Y9, rfl, hB, h9y⟩ -
  have hrb : Yb.1 16 = nI rd := (hB.1 16 (by decide)).trans hr
  have hYb := bY_vs hB hY
  have hbb := wWh_bf (rd := rd) (V := V) (0, L ++ wHd E i) x (by show 0 ≤ 5; omega)
  obtain ⟨b2, L2, hs2⟩ : ∃ b_ L_, wWh rd V (0, L ++ wHd E i) x = (b_, L_) := ⟨_, _, rfl⟩
  rw [hs2] at h9y hbb hb
  have hb52 : b2 ≤ 5 := hbb
  have hb2 : L2.length + 2000 < 2147483648 := hb
  refine am_eq_r (q' := (68, [some (.ref 19), some (.int (nI i))], [], wd C Y9 og)) rfl ?_
  refine am_steps_r ok_M_putObject 2 (q' := (71, [some (.ref 19), some (.int (nI i))], [.int 10, .ref 19], wd C Y9 og)) rfl ?_
  refine am_callV_r (As := [.int 10]) (rest := []) ok_M_putObject rfl rfl ok_M_put oi_M_put lk_6_270 (Or.inl ⟨_, _, _, rfl, rfl, rfl⟩) rfl rfl (Nat.le_of_ble_eq_true rfl) (c_M_put _ C Yb og rd A hrb hrd b2 L2 (by omega) Y9 h9y 10 (by first | omega | (simp only [List.length_append, List.length_cons, List.length_nil] at hb ⊢; omega) | (simp only [List.length_append, List.length_cons, List.length_nil]; omega))) ?_
  rintro v_ w_ ⟨rfl, Y_14, rfl, hY_15⟩ -
  refine am_eq_r (q' := (74, [some (.ref 19), some (.int (nI i))], [], wd C Y_14 og)) rfl ?_
  refine am_steps_r ok_M_putObject 2 (q' := (76, [some (.ref 19), some (.int (nI i))], [.int 1, .ref 19], wd C Y_14 og)) rfl ?_
  have hwl_16 : st_10.length < 20 := by decide
  refine am_callV_r (As := [.int 1]) (rest := []) ok_M_putObject rfl rfl ok_M_putWord oi_M_putWord lk_6_295 (Or.inl ⟨_, _, _, rfl, rfl, rfl⟩) rfl rfl (Nat.le_of_ble_eq_true rfl) (c_M_putWord_1 _ C Yb og rd A hrb hrd b2 (L2 ++ [10]) (by omega) Y_14 hY_15  (by first | omega | (simp only [List.length_append, List.length_cons, List.length_nil] at hb ⊢; omega) | (simp only [List.length_append, List.length_cons, List.length_nil]; omega))) ?_
  rintro v_ w_ ⟨rfl, Y_17, rfl, hY_18⟩ -
  refine am_eq_r (q' := (79, [some (.ref 19), some (.int (nI i))], [], wd C Y_17 og)) rfl ?_
  refine am_steps_r ok_M_putObject 2 (q' := (82, [some (.ref 19), some (.int (nI i))], [.int 10, .ref 19], wd C Y_17 og)) rfl ?_
  refine am_callV_r (As := [.int 10]) (rest := []) ok_M_putObject rfl rfl ok_M_put oi_M_put lk_6_270 (Or.inl ⟨_, _, _, rfl, rfl, rfl⟩) rfl rfl (Nat.le_of_ble_eq_true rfl) (c_M_put _ C Yb og rd A hrb hrd b2 ((L2 ++ [10]) ++ st_10) (by omega) Y_17 hY_18 10 (by first | omega | (simp only [List.length_append, List.length_cons, List.length_nil] at hb ⊢; omega) | (simp only [List.length_append, List.length_cons, List.length_nil]; omega))) ?_
  rintro v_ w_ ⟨rfl, Y_19, rfl, hY_20⟩ -
  refine am_eq_r (q' := (85, [some (.ref 19), some (.int (nI i))], [], wd C Y_19 og)) rfl ?_
  refine am_vret_r ok_M_putObject rfl rfl rfl ?_
  exact ⟨rfl, Yb, _, rfl, hB, by rw [wOb_yes hx2 (by omega)]; show _ = yE Yb A ((wWh rd V (0, L ++ wHd E i) x).1, (wWh rd V (0, L ++ wHd E i) x).2 ++ st_26); rw [hs2, hY_20]; simp only [List.append_assoc]; rfl⟩
end C105
