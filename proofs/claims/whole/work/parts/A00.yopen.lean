/-! the reference puts values with parts; printed by wip/gen/g100.py -/
theorem wdu_c {f : Nat → Nat → Int32} {a b : Nat} {x y : Nat → Int32} (h : a ≠ b) : wd_u (wd_u f a x) b y = wd_u (wd_u f b y) a x := by
  funext j
  simp only [wd_u]
  split <;> split <;> first | rfl | (exfalso; omega)
/-- the bases of the reference's worlds while it writes a value: only the stack of open values differs -/
def bY (Y Yb : wd_Y) : Prop := (∀ j, j ≠ 12 → Yb.1 j = Y.1 j) ∧ (∀ j, j ≠ 11 → j ≠ 15 → Yb.2.1 j = Y.2.1 j) ∧ Yb.2.2 = Y.2.2
theorem bY_vs {Y Yb : wd_Y} {nv u : Nat} {V : VT} (h : bY Y Yb) (hY : vsY Y nv u V) : vsY Yb nv u V :=
  vsY_ar hY (h.1 4 (by decide)) (h.1 5 (by decide)) (fun j j1 j2 => h.2.1 j (by omega) (by omega)) (by rw [h.2.2])
def yNc (Yb : wd_Y) (q : Nat) (x : Int32) : wd_Y := (Yb.1, wd_u Yb.2.1 15 (upd (Yb.2.1 15) q x), Yb.2.2)
def yDp (Yb : wd_Y) (q : Nat) : wd_Y := (upd Yb.1 12 (nI q), Yb.2)
def yOp (Yb : wd_Y) (q v : Nat) (x : Int32) : wd_Y := (upd Yb.1 12 (nI (q + 1)), wd_u (wd_u Yb.2.1 11 (upd (Yb.2.1 11) q (nI v))) 15 (upd (Yb.2.1 15) q x), Yb.2.2)
theorem yE_nc {Yb : wd_Y} {A : Nat → Int32} {s : WS} {q : Nat} {x : Int32} : ((yE Yb A s).1, wd_u (yE Yb A s).2.1 15 (upd ((yE Yb A s).2.1 15) q x), (yE Yb A s).2.2) = yE (yNc Yb q x) A s := by
  show (_, wd_u (wd_u Yb.2.1 14 (qLn A s.2)) 15 (upd (Yb.2.1 15) q x), _) = (_, wd_u (wd_u Yb.2.1 15 (upd (Yb.2.1 15) q x)) 14 (qLn A s.2), _)
  rw [wdu_c (by decide)]
  rfl
theorem yE_dp {Yb : wd_Y} {A : Nat → Int32} {s : WS} {q : Nat} : (upd (yE Yb A s).1 12 (nI q), (yE Yb A s).2) = yE (yDp Yb q) A s := by
  show (upd (upd (upd Yb.1 14 (nI s.2.length)) 15 (nI s.1)) 12 (nI q), _) = (upd (upd (upd Yb.1 12 (nI q)) 14 (nI s.2.length)) 15 (nI s.1), _)
  rw [upd_c (a := 15) (b := 12) (by decide), upd_c (a := 14) (b := 12) (by decide)]
  rfl
theorem yE_op {Yb : wd_Y} {A : Nat → Int32} {s : WS} {q v : Nat} {x : Int32} : (upd (yE Yb A s).1 12 (nI (q + 1)), wd_u (wd_u (yE Yb A s).2.1 11 (upd ((yE Yb A s).2.1 11) q (nI v))) 15 (upd ((yE Yb A s).2.1 15) q x), (yE Yb A s).2.2) = yE (yOp Yb q v x) A s := by
  show (upd (upd (upd Yb.1 14 (nI s.2.length)) 15 (nI s.1)) 12 (nI (q + 1)), wd_u (wd_u (wd_u Yb.2.1 14 (qLn A s.2)) 11 (upd (Yb.2.1 11) q (nI v))) 15 (upd (Yb.2.1 15) q x), _) = (upd (upd (upd Yb.1 12 (nI (q + 1))) 14 (nI s.2.length)) 15 (nI s.1), wd_u (wd_u (wd_u Yb.2.1 11 (upd (Yb.2.1 11) q (nI v))) 15 (upd (Yb.2.1 15) q x)) 14 (qLn A s.2), _)
  rw [upd_c (a := 15) (b := 12) (by decide), upd_c (a := 14) (b := 12) (by decide), wdu_c (a := 14) (b := 11) (by decide), wdu_c (a := 14) (b := 15) (by decide)]
  rfl
theorem bY_nc {Y Yb : wd_Y} (h : bY Y Yb) (q : Nat) (x : Int32) : bY Y (yNc Yb q x) := ⟨h.1, fun j j1 j2 => by show wd_u Yb.2.1 15 _ j = _; rw [wd_u, if_neg j2]; exact h.2.1 j j1 j2, h.2.2⟩
theorem bY_dp {Y Yb : wd_Y} (h : bY Y Yb) (q : Nat) : bY Y (yDp Yb q) := ⟨fun j hj => by show upd Yb.1 12 _ j = _; rw [upd, if_neg hj]; exact h.1 j hj, h.2.1, h.2.2⟩
theorem bY_op {Y Yb : wd_Y} (h : bY Y Yb) (q v : Nat) (x : Int32) : bY Y (yOp Yb q v x) := ⟨fun j hj => by show upd Yb.1 12 _ j = _; rw [upd, if_neg hj]; exact h.1 j hj, fun j j1 j2 => by show wd_u (wd_u Yb.2.1 11 _) 15 _ j = _; rw [wd_u, if_neg j2, wd_u, if_neg j1]; exact h.2.1 j j1 j2, h.2.2⟩
theorem yE_12 {Y Y1 : wd_Y} {A : Nat → Int32} {s : WS} (h : Y1 = yE Y A s) : Y1.1 12 = Y.1 12 := by rw [h]; rfl
def opT (V : VT) (v : Nat) : List Int32 := if V.1 v = 6 then [91] else [60, 60]
def clT (V : VT) (v : Nat) : List Int32 := if V.1 v = 6 then [93] else [62, 62]
theorem wVl_67 {rd : Nat} {V : VT} {f : Nat} {st : WS} {v : Nat} (h : V.1 v = 6 ∨ V.1 v = 7) : wVl rd V (f + 1) st v = wPc rd ((V.2.2.1 v).foldl (wVl rd V f) (wPc rd st 4 (opT V v))) 5 (clT V v) := by
  rcases h with h | h
  · rw [wVl, if_pos h, opT, clT, if_pos h, if_pos h]
  · rw [wVl, if_neg (by rw [h]; decide), if_pos h, opT, clT, if_neg (by rw [h]; decide), if_neg (by rw [h]; decide)]
theorem opT_len {V : VT} {v : Nat} : (opT V v).length ≤ 2 := by unfold opT; split <;> decide

theorem wLn_len (rd bf : Nat) (L : List Int32) (m : Nat) : (wLn rd (bf, L) m).2.length ≤ L.length + 20 := by
  have a := gpL_1 rd bf 2
  have b := gpL_1 rd 2 1
  have c := fgL_len m
  show (L ++ gpL rd bf 2 ++ (47 :: st_8) ++ gpL rd 2 1 ++ fgL m).length ≤ _
  simp only [List.length_append, List.length_cons, show st_8.length = 6 from rfl]
  omega
section C100
variable {l : Launch} {D : va_G} {cA : Nat → ClassId} {ad : Nat → Nat} {fm : Value}
set_option maxHeartbeats 4000000 in
set_option maxRecDepth 100000 in
theorem c_M_opensOut (d : Nat) (C : wd_C) (Y : wd_Y) (og : Nat → Int64) (rd : Nat) (A : Nat → Int32) (hr : Y.1 16 = nI rd) (hrd : rd ≤ 1) (bf : Nat) (L : List Int32) (hbf : bf ≤ 5) (Y1 : wd_Y) (h1 : Y1 = yE Y A (bf, L)) (nv u : Nat) (V : VT) (hY : vsY Y nv u V) (v q : Nat) (hv : v < nv) (hq : q ≤ 8) (h67 : V.1 v = 6 ∨ V.1 v = 7) (hd : Y.1 12 = nI q) (hb : L.length + 100 < 2147483648) : am_Mt l D cA ad fm (d + 2) m_M_opensOut [.ref 19, .int (nI v)] (wd C Y1 og) (fun vr w' => vr = none ∧ ∃ Y2, w' = wd C Y2 og ∧ Y2 = yE (yOp Y q v (Y.2.1 3 v)) A (4, L ++ gpL rd bf 4 ++ opT V v)) := by
  have hnv := hY.1.2.1
  refine am_mt ok_M_opensOut (by simp [am_arg, Value.category, m_M_opensOut, am_ml]) ?_
  refine am_eq_r (q' := (0, [some (.ref 19), some (.int (nI v))], [], wd C Y1 og)) rfl ?_
  refine am_steps_r ok_M_opensOut 2 (q' := (2, [some (.ref 19), some (.int (nI v))], [.int 4, .ref 19], wd C Y1 og)) rfl ?_
  have hgp_1 := gpL_1 rd bf 4
  refine am_callV_r (As := [.int 4]) (rest := []) ok_M_opensOut rfl rfl ok_M_part oi_M_part lk_6_292 (Or.inl ⟨_, _, _, rfl, rfl, rfl⟩) rfl rfl (Nat.le_of_ble_eq_true rfl) (c_M_part _ C Y og rd A hr hrd bf L (by omega) Y1 h1 4 (by omega) (by first | omega | (simp only [List.length_append, List.length_cons, List.length_nil] at hb ⊢; omega) | (simp only [List.length_append, List.length_cons, List.length_nil]; omega))) ?_
  rintro v_ w_ ⟨rfl, Y_2, rfl, hY_3⟩ -
  refine am_eq_r (q' := (5, [some (.ref 19), some (.int (nI v))], [], wd C Y_2 og)) rfl ?_
  refine am_steps_r ok_M_opensOut 4 (q' := (11, [some (.ref 19), some (.int (nI v))], [.int (nI v), .ref 22, .ref 19], wd C Y_2 og)) rfl ?_
  refine am_iald_r ok_M_opensOut rfl (w := wd C Y_2 og) (f := Y_2.2.1 2) rfl rfl (pk_in v 300 (by omega)) ?_
  rw [nI_clamp (show v < 2 ^ 31 by omega)]
  rw [show (Y_2.2.1 2 v) = V.1 v from yq_2 hY hY_3 (v := v) (by omega)]
  refine am_steps_r ok_M_opensOut 2 (q' := (bif decide ((V.1 v) = 6) then 17 else 22, [some (.ref 19), some (.int (nI v))], [.ref 19], wd C Y_2 og)) rfl ?_
  refine am_br_r (fun h_4 => ?_) (fun h_4 => ?_)
  · skip
    refine am_steps_r ok_M_opensOut 2 (q' := (24, [some (.ref 19), some (.int (nI v))], [.int 91, .ref 19], wd C Y_2 og)) rfl ?_
    refine am_callV_r (As := [.int 91]) (rest := []) ok_M_opensOut rfl rfl ok_M_put oi_M_put lk_6_270 (Or.inl ⟨_, _, _, rfl, rfl, rfl⟩) rfl rfl (Nat.le_of_ble_eq_true rfl) (c_M_put _ C Y og rd A hr hrd 4 (L ++ gpL rd bf 4) (by omega) Y_2 hY_3 91 (by first | omega | (simp only [List.length_append, List.length_cons, List.length_nil] at hb ⊢; omega) | (simp only [List.length_append, List.length_cons, List.length_nil]; omega))) ?_
    rintro v_ w_ ⟨rfl, Y_5, rfl, hY_6⟩ -
    refine am_eq_r (q' := (27, [some (.ref 19), some (.int (nI v))], [], wd C Y_5 og)) rfl ?_
    refine am_steps_r ok_M_opensOut 3 (q' := (32, [some (.ref 19), some (.int (nI v))], [.int (nI v), .ref 22], wd C Y_5 og)) rfl ?_
    refine am_iald_r ok_M_opensOut rfl (w := wd C Y_5 og) (f := Y_5.2.1 2) rfl rfl (pk_in v 300 (by omega)) ?_
    rw [nI_clamp (show v < 2 ^ 31 by omega)]
    rw [show (Y_5.2.1 2 v) = V.1 v from yq_2 hY hY_6 (v := v) (by omega)]
    refine am_steps_r ok_M_opensOut 2 (q' := (bif decide ((V.1 v) = 7) then 38 else 44, [some (.ref 19), some (.int (nI v))], [], wd C Y_5 og)) rfl ?_
    refine am_br_r (fun h_7 => ?_) (fun h_7 => ?_)
    · skip
      exact absurd ((show (V.1 v) = 6 by assumption).symm.trans (show (V.1 v) = 7 by assumption)) (by decide)
    · skip
      refine am_steps_r ok_M_opensOut 5 (q' := (53, [some (.ref 19), some (.int (nI v))], [.int (nI v), .int (Y_5.1 12), .ref 32], wd C Y_5 og)) rfl ?_
      rw [show (Y_5.1 12 : Int32) = nI q from ((yE_12 hY_6).trans hd)]
      refine am_iast_r ok_M_opensOut rfl (w := wd C Y_5 og) (f := Y_5.2.1 11) rfl rfl (pk_in q 9 (by omega)) ?_
      rw [nI_clamp (show q < 2 ^ 31 by omega)]
      refine am_eq_r (q' := (54, [some (.ref 19), some (.int (nI v))], [], wd C (Y_5.1, wd_u Y_5.2.1 11 (upd (Y_5.2.1 11) q (nI v)), Y_5.2.2) og)) rfl ?_
      refine am_steps_r ok_M_opensOut 7 (q' := (67, [some (.ref 19), some (.int (nI v))], [.int (nI v), .ref 24, .int (Y_5.1 12), .ref 36], wd C (Y_5.1, wd_u Y_5.2.1 11 (upd (Y_5.2.1 11) q (nI v)), Y_5.2.2) og)) rfl ?_
      rw [show (Y_5.1 12 : Int32) = nI q from ((yE_12 hY_6).trans hd)]
      refine am_iald_r ok_M_opensOut rfl (w := wd C (Y_5.1, wd_u Y_5.2.1 11 (upd (Y_5.2.1 11) q (nI v)), Y_5.2.2) og) (f := Y_5.2.1 3) rfl rfl (pk_in v 300 (by omega)) ?_
      rw [nI_clamp (show v < 2 ^ 31 by omega)]
      rw [show (Y_5.2.1 3 v) = Y.2.1 3 v from congrFun (ya hY_6 (by decide)) v]
      refine am_iast_r ok_M_opensOut rfl (w := wd C (Y_5.1, wd_u Y_5.2.1 11 (upd (Y_5.2.1 11) q (nI v)), Y_5.2.2) og) (f := Y_5.2.1 15) rfl rfl (pk_in q 10 (by omega)) ?_
      rw [nI_clamp (show q < 2 ^ 31 by omega)]
      refine am_eq_r (q' := (69, [some (.ref 19), some (.int (nI v))], [], wd C (Y_5.1, wd_u (wd_u Y_5.2.1 11 (upd (Y_5.2.1 11) q (nI v))) 15 (upd (Y_5.2.1 15) q (Y.2.1 3 v)), Y_5.2.2) og)) rfl ?_
      refine am_steps_r ok_M_opensOut 6 (q' := (79, [some (.ref 19), some (.int (nI v))], [], wd C (upd Y_5.1 12 ((Y_5.1 12) + 1), wd_u (wd_u Y_5.2.1 11 (upd (Y_5.2.1 11) q (nI v))) 15 (upd (Y_5.2.1 15) q (Y.2.1 3 v)), Y_5.2.2) og)) rfl ?_
      rw [show (Y_5.1 12 : Int32) = nI q from ((yE_12 hY_6).trans hd)]
      rw [show ((nI q) + 1 : Int32) = nI (q + 1) from nI_add q 1]
      refine am_vret_r ok_M_opensOut rfl rfl rfl ?_
      refine ⟨rfl, _, rfl, ?_⟩
      rw [hY_6]
      rw [show (4, L ++ gpL rd bf 4 ++ opT V v) = (4, ((L ++ gpL rd bf 4) ++ [91])) by rw [opT, if_pos h_4]]
      exact yE_op
  · skip
    refine am_steps_r ok_M_opensOut 1 (q' := (24, [some (.ref 19), some (.int (nI v))], [.int 60, .ref 19], wd C Y_2 og)) rfl ?_
    refine am_callV_r (As := [.int 60]) (rest := []) ok_M_opensOut rfl rfl ok_M_put oi_M_put lk_6_270 (Or.inl ⟨_, _, _, rfl, rfl, rfl⟩) rfl rfl (Nat.le_of_ble_eq_true rfl) (c_M_put _ C Y og rd A hr hrd 4 (L ++ gpL rd bf 4) (by omega) Y_2 hY_3 60 (by first | omega | (simp only [List.length_append, List.length_cons, List.length_nil] at hb ⊢; omega) | (simp only [List.length_append, List.length_cons, List.length_nil]; omega))) ?_
    rintro v_ w_ ⟨rfl, Y_8, rfl, hY_9⟩ -
    refine am_eq_r (q' := (27, [some (.ref 19), some (.int (nI v))], [], wd C Y_8 og)) rfl ?_
    refine am_steps_r ok_M_opensOut 3 (q' := (32, [some (.ref 19), some (.int (nI v))], [.int (nI v), .ref 22], wd C Y_8 og)) rfl ?_
    refine am_iald_r ok_M_opensOut rfl (w := wd C Y_8 og) (f := Y_8.2.1 2) rfl rfl (pk_in v 300 (by omega)) ?_
    rw [nI_clamp (show v < 2 ^ 31 by omega)]
    rw [show (Y_8.2.1 2 v) = V.1 v from yq_2 hY hY_9 (v := v) (by omega)]
    refine am_steps_r ok_M_opensOut 2 (q' := (bif decide ((V.1 v) = 7) then 38 else 44, [some (.ref 19), some (.int (nI v))], [], wd C Y_8 og)) rfl ?_
    refine am_br_r (fun h_10 => ?_) (fun h_10 => ?_)
    · skip
      refine am_steps_r ok_M_opensOut 2 (q' := (41, [some (.ref 19), some (.int (nI v))], [.int 60, .ref 19], wd C Y_8 og)) rfl ?_
      refine am_callV_r (As := [.int 60]) (rest := []) ok_M_opensOut rfl rfl ok_M_put oi_M_put lk_6_270 (Or.inl ⟨_, _, _, rfl, rfl, rfl⟩) rfl rfl (Nat.le_of_ble_eq_true rfl) (c_M_put _ C Y og rd A hr hrd 4 ((L ++ gpL rd bf 4) ++ [60]) (by omega) Y_8 hY_9 60 (by first | omega | (simp only [List.length_append, List.length_cons, List.length_nil] at hb ⊢; omega) | (simp only [List.length_append, List.length_cons, List.length_nil]; omega))) ?_
      rintro v_ w_ ⟨rfl, Y_11, rfl, hY_12⟩ -
      refine am_eq_r (q' := (44, [some (.ref 19), some (.int (nI v))], [], wd C Y_11 og)) rfl ?_
      refine am_steps_r ok_M_opensOut 5 (q' := (53, [some (.ref 19), some (.int (nI v))], [.int (nI v), .int (Y_11.1 12), .ref 32], wd C Y_11 og)) rfl ?_
      rw [show (Y_11.1 12 : Int32) = nI q from ((yE_12 hY_12).trans hd)]
      refine am_iast_r ok_M_opensOut rfl (w := wd C Y_11 og) (f := Y_11.2.1 11) rfl rfl (pk_in q 9 (by omega)) ?_
      rw [nI_clamp (show q < 2 ^ 31 by omega)]
      refine am_eq_r (q' := (54, [some (.ref 19), some (.int (nI v))], [], wd C (Y_11.1, wd_u Y_11.2.1 11 (upd (Y_11.2.1 11) q (nI v)), Y_11.2.2) og)) rfl ?_
      refine am_steps_r ok_M_opensOut 7 (q' := (67, [some (.ref 19), some (.int (nI v))], [.int (nI v), .ref 24, .int (Y_11.1 12), .ref 36], wd C (Y_11.1, wd_u Y_11.2.1 11 (upd (Y_11.2.1 11) q (nI v)), Y_11.2.2) og)) rfl ?_
      rw [show (Y_11.1 12 : Int32) = nI q from ((yE_12 hY_12).trans hd)]
      refine am_iald_r ok_M_opensOut rfl (w := wd C (Y_11.1, wd_u Y_11.2.1 11 (upd (Y_11.2.1 11) q (nI v)), Y_11.2.2) og) (f := Y_11.2.1 3) rfl rfl (pk_in v 300 (by omega)) ?_
      rw [nI_clamp (show v < 2 ^ 31 by omega)]
      rw [show (Y_11.2.1 3 v) = Y.2.1 3 v from congrFun (ya hY_12 (by decide)) v]
      refine am_iast_r ok_M_opensOut rfl (w := wd C (Y_11.1, wd_u Y_11.2.1 11 (upd (Y_11.2.1 11) q (nI v)), Y_11.2.2) og) (f := Y_11.2.1 15) rfl rfl (pk_in q 10 (by omega)) ?_
      rw [nI_clamp (show q < 2 ^ 31 by omega)]
      refine am_eq_r (q' := (69, [some (.ref 19), some (.int (nI v))], [], wd C (Y_11.1, wd_u (wd_u Y_11.2.1 11 (upd (Y_11.2.1 11) q (nI v))) 15 (upd (Y_11.2.1 15) q (Y.2.1 3 v)), Y_11.2.2) og)) rfl ?_
      refine am_steps_r ok_M_opensOut 6 (q' := (79, [some (.ref 19), some (.int (nI v))], [], wd C (upd Y_11.1 12 ((Y_11.1 12) + 1), wd_u (wd_u Y_11.2.1 11 (upd (Y_11.2.1 11) q (nI v))) 15 (upd (Y_11.2.1 15) q (Y.2.1 3 v)), Y_11.2.2) og)) rfl ?_
      rw [show (Y_11.1 12 : Int32) = nI q from ((yE_12 hY_12).trans hd)]
      rw [show ((nI q) + 1 : Int32) = nI (q + 1) from nI_add q 1]
      refine am_vret_r ok_M_opensOut rfl rfl rfl ?_
      refine ⟨rfl, _, rfl, ?_⟩
      rw [hY_12]
      rw [show (4, L ++ gpL rd bf 4 ++ opT V v) = (4, (((L ++ gpL rd bf 4) ++ [60]) ++ [60])) by rw [opT, if_neg h_4]; rw [← app_app1]]
      exact yE_op
    · skip
      exfalso; rcases h67 with z | z <;> contradiction
set_option maxHeartbeats 4000000 in
set_option maxRecDepth 100000 in
theorem c_M_closesOut_p (d : Nat) (C : wd_C) (Y : wd_Y) (og : Nat → Int64) (rd : Nat) (A : Nat → Int32) (hr : Y.1 16 = nI rd) (hrd : rd ≤ 1) (bf : Nat) (L : List Int32) (hbf : bf ≤ 5) (Y1 : wd_Y) (h1 : Y1 = yE Y A (bf, L)) (nv u : Nat) (V : VT) (hY : vsY Y nv u V) (v q : Nat) (hv : v < nv) (hq : q ≤ 8) (h67 : V.1 v = 6 ∨ V.1 v = 7) (hd : Y.1 12 = nI (q + 1)) (ho : Y.2.1 11 q = nI v) (hb : L.length + 100 < 2147483648)  : am_Mt l D cA ad fm (d + 2) m_M_closesOut [.ref 19, .int (-1)] (wd C Y1 og) (fun vr w' => vr = none ∧ ∃ Y2, w' = wd C Y2 og ∧ Y2 = yE (yDp Y q) A (wPc rd (bf, L) 5 (clT V v))) := by
  have hnv := hY.1.2.1
  refine am_mt ok_M_closesOut (by simp [am_arg, Value.category, m_M_closesOut, am_ml]) ?_
  refine am_eq_r (q' := (0, [some (.ref 19), some (.int (-1)), none], [], wd C Y1 og)) rfl ?_
  refine am_steps_r ok_M_closesOut 6 (q' := (10, [some (.ref 19), some (.int (-1)), none], [.int ((Y1.1 12) - 1), .ref 32], wd C Y1 og)) rfl ?_
  rw [show (Y1.1 12 : Int32) = nI (q + 1) from ((yE_12 h1).trans hd)]
  rw [show ((nI (q + 1)) - 1 : Int32) = nI q from pk_sub (a := q + 1) (b := 1) (by omega)]
  refine am_iald_r ok_M_closesOut rfl (w := wd C Y1 og) (f := Y1.2.1 11) rfl rfl (pk_in q 9 (by omega)) ?_
  rw [nI_clamp (show q < 2 ^ 31 by omega)]
  rw [show (Y1.2.1 11 q) = nI v from (congrFun (ya h1 (by decide)) q).trans ho]
  refine am_steps_r ok_M_closesOut 5 (q' := (bif decide ((Y1.1 12) = 1) then 20 else 38, [some (.ref 19), some (.int (-1)), some (.int (nI v))], [], wd C Y1 og)) rfl ?_
  rw [show (Y1.1 12 : Int32) = nI (q + 1) from ((yE_12 h1).trans hd)]
  refine am_br_r (fun h_1 => ?_) (fun h_1 => ?_)
  · skip
    have h_1 : (q + 1) = 1 := (nI_eq (show (q + 1) < 2 ^ 31 by omega) (show 1 < 2 ^ 31 by omega)).mp h_1
    refine am_steps_r ok_M_closesOut 4 (q' := (40, [some (.ref 19), some (.int (-1)), some (.int (nI v))], [.int 5, .ref 19], wd C Y1 og)) rfl ?_
    have hgp_2 := gpL_1 rd bf 5
    refine am_callV_r (As := [.int 5]) (rest := []) ok_M_closesOut rfl rfl ok_M_part oi_M_part lk_6_292 (Or.inl ⟨_, _, _, rfl, rfl, rfl⟩) rfl rfl (Nat.le_of_ble_eq_true rfl) (c_M_part _ C Y og rd A hr hrd bf L (by omega) Y1 h1 5 (by omega) (by first | omega | (simp only [List.length_append, List.length_cons, List.length_nil] at hb ⊢; omega) | (simp only [List.length_append, List.length_cons, List.length_nil]; omega))) ?_
    rintro v_ w_ ⟨rfl, Y_3, rfl, hY_4⟩ -
    refine am_eq_r (q' := (43, [some (.ref 19), some (.int (-1)), some (.int (nI v))], [], wd C Y_3 og)) rfl ?_
    refine am_steps_r ok_M_closesOut 4 (q' := (49, [some (.ref 19), some (.int (-1)), some (.int (nI v))], [.int (nI v), .ref 22, .ref 19], wd C Y_3 og)) rfl ?_
    refine am_iald_r ok_M_closesOut rfl (w := wd C Y_3 og) (f := Y_3.2.1 2) rfl rfl (pk_in v 300 (by omega)) ?_
    rw [nI_clamp (show v < 2 ^ 31 by omega)]
    rw [show (Y_3.2.1 2 v) = V.1 v from yq_2 hY hY_4 (v := v) (by omega)]
    refine am_steps_r ok_M_closesOut 2 (q' := (bif decide ((V.1 v) = 6) then 55 else 60, [some (.ref 19), some (.int (-1)), some (.int (nI v))], [.ref 19], wd C Y_3 og)) rfl ?_
    refine am_br_r (fun h_5 => ?_) (fun h_5 => ?_)
    · skip
      refine am_steps_r ok_M_closesOut 2 (q' := (62, [some (.ref 19), some (.int (-1)), some (.int (nI v))], [.int 93, .ref 19], wd C Y_3 og)) rfl ?_
      refine am_callV_r (As := [.int 93]) (rest := []) ok_M_closesOut rfl rfl ok_M_put oi_M_put lk_6_270 (Or.inl ⟨_, _, _, rfl, rfl, rfl⟩) rfl rfl (Nat.le_of_ble_eq_true rfl) (c_M_put _ C Y og rd A hr hrd 5 (L ++ gpL rd bf 5) (by omega) Y_3 hY_4 93 (by first | omega | (simp only [List.length_append, List.length_cons, List.length_nil] at hb ⊢; omega) | (simp only [List.length_append, List.length_cons, List.length_nil]; omega))) ?_
      rintro v_ w_ ⟨rfl, Y_6, rfl, hY_7⟩ -
      refine am_eq_r (q' := (65, [some (.ref 19), some (.int (-1)), some (.int (nI v))], [], wd C Y_6 og)) rfl ?_
      refine am_steps_r ok_M_closesOut 3 (q' := (70, [some (.ref 19), some (.int (-1)), some (.int (nI v))], [.int (nI v), .ref 22], wd C Y_6 og)) rfl ?_
      refine am_iald_r ok_M_closesOut rfl (w := wd C Y_6 og) (f := Y_6.2.1 2) rfl rfl (pk_in v 300 (by omega)) ?_
      rw [nI_clamp (show v < 2 ^ 31 by omega)]
      rw [show (Y_6.2.1 2 v) = V.1 v from yq_2 hY hY_7 (v := v) (by omega)]
      refine am_steps_r ok_M_closesOut 2 (q' := (bif decide ((V.1 v) = 7) then 76 else 82, [some (.ref 19), some (.int (-1)), some (.int (nI v))], [], wd C Y_6 og)) rfl ?_
      refine am_br_r (fun h_8 => ?_) (fun h_8 => ?_)
      · skip
        exact absurd ((show (V.1 v) = 6 by assumption).symm.trans (show (V.1 v) = 7 by assumption)) (by decide)
      · skip
        refine am_steps_r ok_M_closesOut 6 (q' := (92, [some (.ref 19), some (.int (-1)), some (.int (nI v))], [], wd C (upd Y_6.1 12 ((Y_6.1 12) - 1), Y_6.2) og)) rfl ?_
        rw [show (Y_6.1 12 : Int32) = nI (q + 1) from ((yE_12 hY_7).trans hd)]
        rw [show ((nI (q + 1)) - 1 : Int32) = nI q from pk_sub (a := q + 1) (b := 1) (by omega)]
        refine am_vret_r ok_M_closesOut rfl rfl rfl ?_
        refine ⟨rfl, _, rfl, ?_⟩
        rw [hY_7]
        rw [show wPc rd (bf, L) 5 (clT V v) = (5, ((L ++ gpL rd bf 5) ++ [93])) by rw [clT, if_pos h_5]; rfl]
        exact yE_dp
    · skip
      refine am_steps_r ok_M_closesOut 1 (q' := (62, [some (.ref 19), some (.int (-1)), some (.int (nI v))], [.int 62, .ref 19], wd C Y_3 og)) rfl ?_
      refine am_callV_r (As := [.int 62]) (rest := []) ok_M_closesOut rfl rfl ok_M_put oi_M_put lk_6_270 (Or.inl ⟨_, _, _, rfl, rfl, rfl⟩) rfl rfl (Nat.le_of_ble_eq_true rfl) (c_M_put _ C Y og rd A hr hrd 5 (L ++ gpL rd bf 5) (by omega) Y_3 hY_4 62 (by first | omega | (simp only [List.length_append, List.length_cons, List.length_nil] at hb ⊢; omega) | (simp only [List.length_append, List.length_cons, List.length_nil]; omega))) ?_
      rintro v_ w_ ⟨rfl, Y_9, rfl, hY_10⟩ -
      refine am_eq_r (q' := (65, [some (.ref 19), some (.int (-1)), some (.int (nI v))], [], wd C Y_9 og)) rfl ?_
      refine am_steps_r ok_M_closesOut 3 (q' := (70, [some (.ref 19), some (.int (-1)), some (.int (nI v))], [.int (nI v), .ref 22], wd C Y_9 og)) rfl ?_
      refine am_iald_r ok_M_closesOut rfl (w := wd C Y_9 og) (f := Y_9.2.1 2) rfl rfl (pk_in v 300 (by omega)) ?_
      rw [nI_clamp (show v < 2 ^ 31 by omega)]
      rw [show (Y_9.2.1 2 v) = V.1 v from yq_2 hY hY_10 (v := v) (by omega)]
      refine am_steps_r ok_M_closesOut 2 (q' := (bif decide ((V.1 v) = 7) then 76 else 82, [some (.ref 19), some (.int (-1)), some (.int (nI v))], [], wd C Y_9 og)) rfl ?_
      refine am_br_r (fun h_11 => ?_) (fun h_11 => ?_)
      · skip
        refine am_steps_r ok_M_closesOut 2 (q' := (79, [some (.ref 19), some (.int (-1)), some (.int (nI v))], [.int 62, .ref 19], wd C Y_9 og)) rfl ?_
        refine am_callV_r (As := [.int 62]) (rest := []) ok_M_closesOut rfl rfl ok_M_put oi_M_put lk_6_270 (Or.inl ⟨_, _, _, rfl, rfl, rfl⟩) rfl rfl (Nat.le_of_ble_eq_true rfl) (c_M_put _ C Y og rd A hr hrd 5 ((L ++ gpL rd bf 5) ++ [62]) (by omega) Y_9 hY_10 62 (by first | omega | (simp only [List.length_append, List.length_cons, List.length_nil] at hb ⊢; omega) | (simp only [List.length_append, List.length_cons, List.length_nil]; omega))) ?_
        rintro v_ w_ ⟨rfl, Y_12, rfl, hY_13⟩ -
        refine am_eq_r (q' := (82, [some (.ref 19), some (.int (-1)), some (.int (nI v))], [], wd C Y_12 og)) rfl ?_
        refine am_steps_r ok_M_closesOut 6 (q' := (92, [some (.ref 19), some (.int (-1)), some (.int (nI v))], [], wd C (upd Y_12.1 12 ((Y_12.1 12) - 1), Y_12.2) og)) rfl ?_
        rw [show (Y_12.1 12 : Int32) = nI (q + 1) from ((yE_12 hY_13).trans hd)]
        rw [show ((nI (q + 1)) - 1 : Int32) = nI q from pk_sub (a := q + 1) (b := 1) (by omega)]
        refine am_vret_r ok_M_closesOut rfl rfl rfl ?_
        refine ⟨rfl, _, rfl, ?_⟩
        rw [hY_13]
        rw [show wPc rd (bf, L) 5 (clT V v) = (5, (((L ++ gpL rd bf 5) ++ [62]) ++ [62])) by rw [clT, if_neg h_5]; unfold wPc; rw [← app_app1]]
        exact yE_dp
      · skip
        exfalso; rcases h67 with z | z <;> contradiction
  · skip
    have h_1 : ¬ (q + 1) = 1 := fun z => h_1 ((nI_eq (show (q + 1) < 2 ^ 31 by omega) (show 1 < 2 ^ 31 by omega)).mpr z)
    refine am_steps_r ok_M_closesOut 2 (q' := (40, [some (.ref 19), some (.int (-1)), some (.int (nI v))], [.int 5, .ref 19], wd C Y1 og)) rfl ?_
    have hgp_14 := gpL_1 rd bf 5
    refine am_callV_r (As := [.int 5]) (rest := []) ok_M_closesOut rfl rfl ok_M_part oi_M_part lk_6_292 (Or.inl ⟨_, _, _, rfl, rfl, rfl⟩) rfl rfl (Nat.le_of_ble_eq_true rfl) (c_M_part _ C Y og rd A hr hrd bf L (by omega) Y1 h1 5 (by omega) (by first | omega | (simp only [List.length_append, List.length_cons, List.length_nil] at hb ⊢; omega) | (simp only [List.length_append, List.length_cons, List.length_nil]; omega))) ?_
    rintro v_ w_ ⟨rfl, Y_15, rfl, hY_16⟩ -
    refine am_eq_r (q' := (43, [some (.ref 19), some (.int (-1)), some (.int (nI v))], [], wd C Y_15 og)) rfl ?_
    refine am_steps_r ok_M_closesOut 4 (q' := (49, [some (.ref 19), some (.int (-1)), some (.int (nI v))], [.int (nI v), .ref 22, .ref 19], wd C Y_15 og)) rfl ?_
    refine am_iald_r ok_M_closesOut rfl (w := wd C Y_15 og) (f := Y_15.2.1 2) rfl rfl (pk_in v 300 (by omega)) ?_
    rw [nI_clamp (show v < 2 ^ 31 by omega)]
    rw [show (Y_15.2.1 2 v) = V.1 v from yq_2 hY hY_16 (v := v) (by omega)]
    refine am_steps_r ok_M_closesOut 2 (q' := (bif decide ((V.1 v) = 6) then 55 else 60, [some (.ref 19), some (.int (-1)), some (.int (nI v))], [.ref 19], wd C Y_15 og)) rfl ?_
    refine am_br_r (fun h_17 => ?_) (fun h_17 => ?_)
    · skip
      refine am_steps_r ok_M_closesOut 2 (q' := (62, [some (.ref 19), some (.int (-1)), some (.int (nI v))], [.int 93, .ref 19], wd C Y_15 og)) rfl ?_
      refine am_callV_r (As := [.int 93]) (rest := []) ok_M_closesOut rfl rfl ok_M_put oi_M_put lk_6_270 (Or.inl ⟨_, _, _, rfl, rfl, rfl⟩) rfl rfl (Nat.le_of_ble_eq_true rfl) (c_M_put _ C Y og rd A hr hrd 5 (L ++ gpL rd bf 5) (by omega) Y_15 hY_16 93 (by first | omega | (simp only [List.length_append, List.length_cons, List.length_nil] at hb ⊢; omega) | (simp only [List.length_append, List.length_cons, List.length_nil]; omega))) ?_
      rintro v_ w_ ⟨rfl, Y_18, rfl, hY_19⟩ -
      refine am_eq_r (q' := (65, [some (.ref 19), some (.int (-1)), some (.int (nI v))], [], wd C Y_18 og)) rfl ?_
      refine am_steps_r ok_M_closesOut 3 (q' := (70, [some (.ref 19), some (.int (-1)), some (.int (nI v))], [.int (nI v), .ref 22], wd C Y_18 og)) rfl ?_
      refine am_iald_r ok_M_closesOut rfl (w := wd C Y_18 og) (f := Y_18.2.1 2) rfl rfl (pk_in v 300 (by omega)) ?_
      rw [nI_clamp (show v < 2 ^ 31 by omega)]
      rw [show (Y_18.2.1 2 v) = V.1 v from yq_2 hY hY_19 (v := v) (by omega)]
      refine am_steps_r ok_M_closesOut 2 (q' := (bif decide ((V.1 v) = 7) then 76 else 82, [some (.ref 19), some (.int (-1)), some (.int (nI v))], [], wd C Y_18 og)) rfl ?_
      refine am_br_r (fun h_20 => ?_) (fun h_20 => ?_)
      · skip
        exact absurd ((show (V.1 v) = 6 by assumption).symm.trans (show (V.1 v) = 7 by assumption)) (by decide)
      · skip
        refine am_steps_r ok_M_closesOut 6 (q' := (92, [some (.ref 19), some (.int (-1)), some (.int (nI v))], [], wd C (upd Y_18.1 12 ((Y_18.1 12) - 1), Y_18.2) og)) rfl ?_
        rw [show (Y_18.1 12 : Int32) = nI (q + 1) from ((yE_12 hY_19).trans hd)]
        rw [show ((nI (q + 1)) - 1 : Int32) = nI q from pk_sub (a := q + 1) (b := 1) (by omega)]
        refine am_vret_r ok_M_closesOut rfl rfl rfl ?_
        refine ⟨rfl, _, rfl, ?_⟩
        rw [hY_19]
        rw [show wPc rd (bf, L) 5 (clT V v) = (5, ((L ++ gpL rd bf 5) ++ [93])) by rw [clT, if_pos h_17]; rfl]
        exact yE_dp
    · skip
      refine am_steps_r ok_M_closesOut 1 (q' := (62, [some (.ref 19), some (.int (-1)), some (.int (nI v))], [.int 62, .ref 19], wd C Y_15 og)) rfl ?_
      refine am_callV_r (As := [.int 62]) (rest := []) ok_M_closesOut rfl rfl ok_M_put oi_M_put lk_6_270 (Or.inl ⟨_, _, _, rfl, rfl, rfl⟩) rfl rfl (Nat.le_of_ble_eq_true rfl) (c_M_put _ C Y og rd A hr hrd 5 (L ++ gpL rd bf 5) (by omega) Y_15 hY_16 62 (by first | omega | (simp only [List.length_append, List.length_cons, List.length_nil] at hb ⊢; omega) | (simp only [List.length_append, List.length_cons, List.length_nil]; omega))) ?_
      rintro v_ w_ ⟨rfl, Y_21, rfl, hY_22⟩ -
      refine am_eq_r (q' := (65, [some (.ref 19), some (.int (-1)), some (.int (nI v))], [], wd C Y_21 og)) rfl ?_
      refine am_steps_r ok_M_closesOut 3 (q' := (70, [some (.ref 19), some (.int (-1)), some (.int (nI v))], [.int (nI v), .ref 22], wd C Y_21 og)) rfl ?_
      refine am_iald_r ok_M_closesOut rfl (w := wd C Y_21 og) (f := Y_21.2.1 2) rfl rfl (pk_in v 300 (by omega)) ?_
      rw [nI_clamp (show v < 2 ^ 31 by omega)]
      rw [show (Y_21.2.1 2 v) = V.1 v from yq_2 hY hY_22 (v := v) (by omega)]
      refine am_steps_r ok_M_closesOut 2 (q' := (bif decide ((V.1 v) = 7) then 76 else 82, [some (.ref 19), some (.int (-1)), some (.int (nI v))], [], wd C Y_21 og)) rfl ?_
      refine am_br_r (fun h_23 => ?_) (fun h_23 => ?_)
      · skip
        refine am_steps_r ok_M_closesOut 2 (q' := (79, [some (.ref 19), some (.int (-1)), some (.int (nI v))], [.int 62, .ref 19], wd C Y_21 og)) rfl ?_
        refine am_callV_r (As := [.int 62]) (rest := []) ok_M_closesOut rfl rfl ok_M_put oi_M_put lk_6_270 (Or.inl ⟨_, _, _, rfl, rfl, rfl⟩) rfl rfl (Nat.le_of_ble_eq_true rfl) (c_M_put _ C Y og rd A hr hrd 5 ((L ++ gpL rd bf 5) ++ [62]) (by omega) Y_21 hY_22 62 (by first | omega | (simp only [List.length_append, List.length_cons, List.length_nil] at hb ⊢; omega) | (simp only [List.length_append, List.length_cons, List.length_nil]; omega))) ?_
        rintro v_ w_ ⟨rfl, Y_24, rfl, hY_25⟩ -
        refine am_eq_r (q' := (82, [some (.ref 19), some (.int (-1)), some (.int (nI v))], [], wd C Y_24 og)) rfl ?_
        refine am_steps_r ok_M_closesOut 6 (q' := (92, [some (.ref 19), some (.int (-1)), some (.int (nI v))], [], wd C (upd Y_24.1 12 ((Y_24.1 12) - 1), Y_24.2) og)) rfl ?_
        rw [show (Y_24.1 12 : Int32) = nI (q + 1) from ((yE_12 hY_25).trans hd)]
        rw [show ((nI (q + 1)) - 1 : Int32) = nI q from pk_sub (a := q + 1) (b := 1) (by omega)]
        refine am_vret_r ok_M_closesOut rfl rfl rfl ?_
        refine ⟨rfl, _, rfl, ?_⟩
        rw [hY_25]
        rw [show wPc rd (bf, L) 5 (clT V v) = (5, (((L ++ gpL rd bf 5) ++ [62]) ++ [62])) by rw [clT, if_neg h_17]; unfold wPc; rw [← app_app1]]
        exact yE_dp
      · skip
        exfalso; rcases h67 with z | z <;> contradiction
set_option maxHeartbeats 4000000 in
set_option maxRecDepth 100000 in
theorem c_M_closesOut_m (d : Nat) (C : wd_C) (Y : wd_Y) (og : Nat → Int64) (rd : Nat) (A : Nat → Int32) (hr : Y.1 16 = nI rd) (hrd : rd ≤ 1) (bf : Nat) (L : List Int32) (hbf : bf ≤ 5) (Y1 : wd_Y) (h1 : Y1 = yE Y A (bf, L)) (nv u : Nat) (V : VT) (hY : vsY Y nv u V) (v q : Nat) (hv : v < nv) (hq : q ≤ 8) (h67 : V.1 v = 6 ∨ V.1 v = 7) (hd : Y.1 12 = nI (q + 1)) (ho : Y.2.1 11 q = nI v) (hb : L.length + 100 < 2147483648) (m : Nat) (hm : m < 1000000) (hq0 : ¬ q = 0) : am_Mt l D cA ad fm (d + 2) m_M_closesOut [.ref 19, .int (nI m)] (wd C Y1 og) (fun vr w' => vr = none ∧ ∃ Y2, w' = wd C Y2 og ∧ Y2 = yE (yDp Y q) A (wPc rd (bf, L) 5 (clT V v))) := by
  have hnv := hY.1.2.1
  refine am_mt ok_M_closesOut (by simp [am_arg, Value.category, m_M_closesOut, am_ml]) ?_
  refine am_eq_r (q' := (0, [some (.ref 19), some (.int (nI m)), none], [], wd C Y1 og)) rfl ?_
  refine am_steps_r ok_M_closesOut 6 (q' := (10, [some (.ref 19), some (.int (nI m)), none], [.int ((Y1.1 12) - 1), .ref 32], wd C Y1 og)) rfl ?_
  rw [show (Y1.1 12 : Int32) = nI (q + 1) from ((yE_12 h1).trans hd)]
  rw [show ((nI (q + 1)) - 1 : Int32) = nI q from pk_sub (a := q + 1) (b := 1) (by omega)]
  refine am_iald_r ok_M_closesOut rfl (w := wd C Y1 og) (f := Y1.2.1 11) rfl rfl (pk_in q 9 (by omega)) ?_
  rw [nI_clamp (show q < 2 ^ 31 by omega)]
  rw [show (Y1.2.1 11 q) = nI v from (congrFun (ya h1 (by decide)) q).trans ho]
  refine am_steps_r ok_M_closesOut 5 (q' := (bif decide ((Y1.1 12) = 1) then 20 else 38, [some (.ref 19), some (.int (nI m)), some (.int (nI v))], [], wd C Y1 og)) rfl ?_
  rw [show (Y1.1 12 : Int32) = nI (q + 1) from ((yE_12 h1).trans hd)]
  refine am_br_r (fun h_1 => ?_) (fun h_1 => ?_)
  · skip
    have h_1 : (q + 1) = 1 := (nI_eq (show (q + 1) < 2 ^ 31 by omega) (show 1 < 2 ^ 31 by omega)).mp h_1
    exfalso; omega
  · skip
    have h_1 : ¬ (q + 1) = 1 := fun z => h_1 ((nI_eq (show (q + 1) < 2 ^ 31 by omega) (show 1 < 2 ^ 31 by omega)).mpr z)
    refine am_steps_r ok_M_closesOut 2 (q' := (40, [some (.ref 19), some (.int (nI m)), some (.int (nI v))], [.int 5, .ref 19], wd C Y1 og)) rfl ?_
    have hgp_2 := gpL_1 rd bf 5
    refine am_callV_r (As := [.int 5]) (rest := []) ok_M_closesOut rfl rfl ok_M_part oi_M_part lk_6_292 (Or.inl ⟨_, _, _, rfl, rfl, rfl⟩) rfl rfl (Nat.le_of_ble_eq_true rfl) (c_M_part _ C Y og rd A hr hrd bf L (by omega) Y1 h1 5 (by omega) (by first | omega | (simp only [List.length_append, List.length_cons, List.length_nil] at hb ⊢; omega) | (simp only [List.length_append, List.length_cons, List.length_nil]; omega))) ?_
    rintro v_ w_ ⟨rfl, Y_3, rfl, hY_4⟩ -
    refine am_eq_r (q' := (43, [some (.ref 19), some (.int (nI m)), some (.int (nI v))], [], wd C Y_3 og)) rfl ?_
    refine am_steps_r ok_M_closesOut 4 (q' := (49, [some (.ref 19), some (.int (nI m)), some (.int (nI v))], [.int (nI v), .ref 22, .ref 19], wd C Y_3 og)) rfl ?_
    refine am_iald_r ok_M_closesOut rfl (w := wd C Y_3 og) (f := Y_3.2.1 2) rfl rfl (pk_in v 300 (by omega)) ?_
    rw [nI_clamp (show v < 2 ^ 31 by omega)]
    rw [show (Y_3.2.1 2 v) = V.1 v from yq_2 hY hY_4 (v := v) (by omega)]
    refine am_steps_r ok_M_closesOut 2 (q' := (bif decide ((V.1 v) = 6) then 55 else 60, [some (.ref 19), some (.int (nI m)), some (.int (nI v))], [.ref 19], wd C Y_3 og)) rfl ?_
    refine am_br_r (fun h_5 => ?_) (fun h_5 => ?_)
    · skip
      refine am_steps_r ok_M_closesOut 2 (q' := (62, [some (.ref 19), some (.int (nI m)), some (.int (nI v))], [.int 93, .ref 19], wd C Y_3 og)) rfl ?_
      refine am_callV_r (As := [.int 93]) (rest := []) ok_M_closesOut rfl rfl ok_M_put oi_M_put lk_6_270 (Or.inl ⟨_, _, _, rfl, rfl, rfl⟩) rfl rfl (Nat.le_of_ble_eq_true rfl) (c_M_put _ C Y og rd A hr hrd 5 (L ++ gpL rd bf 5) (by omega) Y_3 hY_4 93 (by first | omega | (simp only [List.length_append, List.length_cons, List.length_nil] at hb ⊢; omega) | (simp only [List.length_append, List.length_cons, List.length_nil]; omega))) ?_
      rintro v_ w_ ⟨rfl, Y_6, rfl, hY_7⟩ -
      refine am_eq_r (q' := (65, [some (.ref 19), some (.int (nI m)), some (.int (nI v))], [], wd C Y_6 og)) rfl ?_
      refine am_steps_r ok_M_closesOut 3 (q' := (70, [some (.ref 19), some (.int (nI m)), some (.int (nI v))], [.int (nI v), .ref 22], wd C Y_6 og)) rfl ?_
      refine am_iald_r ok_M_closesOut rfl (w := wd C Y_6 og) (f := Y_6.2.1 2) rfl rfl (pk_in v 300 (by omega)) ?_
      rw [nI_clamp (show v < 2 ^ 31 by omega)]
      rw [show (Y_6.2.1 2 v) = V.1 v from yq_2 hY hY_7 (v := v) (by omega)]
      refine am_steps_r ok_M_closesOut 2 (q' := (bif decide ((V.1 v) = 7) then 76 else 82, [some (.ref 19), some (.int (nI m)), some (.int (nI v))], [], wd C Y_6 og)) rfl ?_
      refine am_br_r (fun h_8 => ?_) (fun h_8 => ?_)
      · skip
        exact absurd ((show (V.1 v) = 6 by assumption).symm.trans (show (V.1 v) = 7 by assumption)) (by decide)
      · skip
        refine am_steps_r ok_M_closesOut 6 (q' := (92, [some (.ref 19), some (.int (nI m)), some (.int (nI v))], [], wd C (upd Y_6.1 12 ((Y_6.1 12) - 1), Y_6.2) og)) rfl ?_
        rw [show (Y_6.1 12 : Int32) = nI (q + 1) from ((yE_12 hY_7).trans hd)]
        rw [show ((nI (q + 1)) - 1 : Int32) = nI q from pk_sub (a := q + 1) (b := 1) (by omega)]
        refine am_vret_r ok_M_closesOut rfl rfl rfl ?_
        refine ⟨rfl, _, rfl, ?_⟩
        rw [hY_7]
        rw [show wPc rd (bf, L) 5 (clT V v) = (5, ((L ++ gpL rd bf 5) ++ [93])) by rw [clT, if_pos h_5]; rfl]
        exact yE_dp
    · skip
      refine am_steps_r ok_M_closesOut 1 (q' := (62, [some (.ref 19), some (.int (nI m)), some (.int (nI v))], [.int 62, .ref 19], wd C Y_3 og)) rfl ?_
      refine am_callV_r (As := [.int 62]) (rest := []) ok_M_closesOut rfl rfl ok_M_put oi_M_put lk_6_270 (Or.inl ⟨_, _, _, rfl, rfl, rfl⟩) rfl rfl (Nat.le_of_ble_eq_true rfl) (c_M_put _ C Y og rd A hr hrd 5 (L ++ gpL rd bf 5) (by omega) Y_3 hY_4 62 (by first | omega | (simp only [List.length_append, List.length_cons, List.length_nil] at hb ⊢; omega) | (simp only [List.length_append, List.length_cons, List.length_nil]; omega))) ?_
      rintro v_ w_ ⟨rfl, Y_9, rfl, hY_10⟩ -
      refine am_eq_r (q' := (65, [some (.ref 19), some (.int (nI m)), some (.int (nI v))], [], wd C Y_9 og)) rfl ?_
      refine am_steps_r ok_M_closesOut 3 (q' := (70, [some (.ref 19), some (.int (nI m)), some (.int (nI v))], [.int (nI v), .ref 22], wd C Y_9 og)) rfl ?_
      refine am_iald_r ok_M_closesOut rfl (w := wd C Y_9 og) (f := Y_9.2.1 2) rfl rfl (pk_in v 300 (by omega)) ?_
      rw [nI_clamp (show v < 2 ^ 31 by omega)]
      rw [show (Y_9.2.1 2 v) = V.1 v from yq_2 hY hY_10 (v := v) (by omega)]
      refine am_steps_r ok_M_closesOut 2 (q' := (bif decide ((V.1 v) = 7) then 76 else 82, [some (.ref 19), some (.int (nI m)), some (.int (nI v))], [], wd C Y_9 og)) rfl ?_
      refine am_br_r (fun h_11 => ?_) (fun h_11 => ?_)
      · skip
        refine am_steps_r ok_M_closesOut 2 (q' := (79, [some (.ref 19), some (.int (nI m)), some (.int (nI v))], [.int 62, .ref 19], wd C Y_9 og)) rfl ?_
        refine am_callV_r (As := [.int 62]) (rest := []) ok_M_closesOut rfl rfl ok_M_put oi_M_put lk_6_270 (Or.inl ⟨_, _, _, rfl, rfl, rfl⟩) rfl rfl (Nat.le_of_ble_eq_true rfl) (c_M_put _ C Y og rd A hr hrd 5 ((L ++ gpL rd bf 5) ++ [62]) (by omega) Y_9 hY_10 62 (by first | omega | (simp only [List.length_append, List.length_cons, List.length_nil] at hb ⊢; omega) | (simp only [List.length_append, List.length_cons, List.length_nil]; omega))) ?_
        rintro v_ w_ ⟨rfl, Y_12, rfl, hY_13⟩ -
        refine am_eq_r (q' := (82, [some (.ref 19), some (.int (nI m)), some (.int (nI v))], [], wd C Y_12 og)) rfl ?_
        refine am_steps_r ok_M_closesOut 6 (q' := (92, [some (.ref 19), some (.int (nI m)), some (.int (nI v))], [], wd C (upd Y_12.1 12 ((Y_12.1 12) - 1), Y_12.2) og)) rfl ?_
        rw [show (Y_12.1 12 : Int32) = nI (q + 1) from ((yE_12 hY_13).trans hd)]
        rw [show ((nI (q + 1)) - 1 : Int32) = nI q from pk_sub (a := q + 1) (b := 1) (by omega)]
        refine am_vret_r ok_M_closesOut rfl rfl rfl ?_
        refine ⟨rfl, _, rfl, ?_⟩
        rw [hY_13]
        rw [show wPc rd (bf, L) 5 (clT V v) = (5, (((L ++ gpL rd bf 5) ++ [62]) ++ [62])) by rw [clT, if_neg h_5]; unfold wPc; rw [← app_app1]]
        exact yE_dp
      · skip
        exfalso; rcases h67 with z | z <;> contradiction
set_option maxHeartbeats 4000000 in
set_option maxRecDepth 100000 in
theorem c_M_closesOut_n (d : Nat) (C : wd_C) (Y : wd_Y) (og : Nat → Int64) (rd : Nat) (A : Nat → Int32) (hr : Y.1 16 = nI rd) (hrd : rd ≤ 1) (bf : Nat) (L : List Int32) (hbf : bf ≤ 5) (Y1 : wd_Y) (h1 : Y1 = yE Y A (bf, L)) (nv u : Nat) (V : VT) (hY : vsY Y nv u V) (v : Nat) (hv : v < nv) (h7 : V.1 v = 7) (hd : Y.1 12 = nI 1) (ho : Y.2.1 11 0 = nI v) (hb : L.length + 100 < 2147483648) (m : Nat) (hm : m < 1000000) (hok : vok nv V) (me : Nat) (hev : (V.2.2.1 v).length = 2 * me) (hpr : prF (isLn V) (V.2.2.1 v) = none) : am_Mt l D cA ad fm (d + 3) m_M_closesOut [.ref 19, .int (nI m)] (wd C Y1 og) (fun vr w' => vr = none ∧ ∃ Y2, w' = wd C Y2 og ∧ Y2 = yE (yDp Y 0) A (wPc rd (wLn rd (bf, L) m) 5 (clT V v))) := by
  have hnv := hY.1.2.1
  have h67 : V.1 v = 6 ∨ V.1 v = 7 := Or.inr h7
  have hq : 0 ≤ 8 := Nat.zero_le _
  refine am_mt ok_M_closesOut (by simp [am_arg, Value.category, m_M_closesOut, am_ml]) ?_
  refine am_eq_r (q' := (0, [some (.ref 19), some (.int (nI m)), none], [], wd C Y1 og)) rfl ?_
  refine am_steps_r ok_M_closesOut 6 (q' := (10, [some (.ref 19), some (.int (nI m)), none], [.int ((Y1.1 12) - 1), .ref 32], wd C Y1 og)) rfl ?_
  rw [show (Y1.1 12 : Int32) = nI (0 + 1) from ((yE_12 h1).trans hd)]
  rw [show ((nI (0 + 1)) - 1 : Int32) = nI 0 from pk_sub (a := 0 + 1) (b := 1) (by omega)]
  refine am_iald_r ok_M_closesOut rfl (w := wd C Y1 og) (f := Y1.2.1 11) rfl rfl (pk_in 0 9 (by omega)) ?_
  rw [nI_clamp (show 0 < 2 ^ 31 by omega)]
  rw [show (Y1.2.1 11 0) = nI v from (congrFun (ya h1 (by decide)) 0).trans ho]
  refine am_steps_r ok_M_closesOut 5 (q' := (bif decide ((Y1.1 12) = 1) then 20 else 38, [some (.ref 19), some (.int (nI m)), some (.int (nI v))], [], wd C Y1 og)) rfl ?_
  rw [show (Y1.1 12 : Int32) = nI (0 + 1) from ((yE_12 h1).trans hd)]
  refine am_br_r (fun h_1 => ?_) (fun h_1 => ?_)
  · skip
    have h_1 : (0 + 1) = 1 := (nI_eq (show (0 + 1) < 2 ^ 31 by omega) (show 1 < 2 ^ 31 by omega)).mp h_1
    refine am_steps_r ok_M_closesOut 2 (q' := (bif decide ((nI m) < 0) then 38 else 24, [some (.ref 19), some (.int (nI m)), some (.int (nI v))], [], wd C Y1 og)) rfl ?_
    refine am_br_r (fun h_2 => ?_) (fun h_2 => ?_)
    · skip
      have h_2 : m < 0 := (nI_ltI (show m < 2 ^ 31 by omega) (show 0 < 2 ^ 31 by omega)).mp h_2
      exact absurd h_2 (Nat.not_lt_zero _)
    · skip
      have h_2 : ¬ m < 0 := fun z => h_2 ((nI_ltI (show m < 2 ^ 31 by omega) (show 0 < 2 ^ 31 by omega)).mpr z)
      refine am_steps_r ok_M_closesOut 2 (q' := (26, [some (.ref 19), some (.int (nI m)), some (.int (nI v))], [.int (nI v), .ref 19], wd C Y1 og)) rfl ?_
      refine am_callV_r (As := [.int (nI v)]) (rest := []) ok_M_closesOut rfl rfl ok_M_lengthOf oi_M_lengthOf lk_6_239 (Or.inl ⟨_, _, _, rfl, rfl, rfl⟩) rfl rfl (Nat.le_of_ble_eq_true rfl) (c_M_lengthOf _ C Y1 og nv u V (ys1 hY h1) hok v hv me hev) ?_
      rintro v_ w_ ⟨rfl, rfl⟩ -
      rw [hpr]
      refine am_eq_r (q' := (29, [some (.ref 19), some (.int (nI m)), some (.int (nI v))], [.int (-1)], wd C Y1 og)) rfl ?_
      refine am_steps_r ok_M_closesOut 4 (q' := (35, [some (.ref 19), some (.int (nI m)), some (.int (nI v))], [.int (nI m), .ref 19], wd C Y1 og)) rfl ?_
      refine am_callV_r (As := [.int (nI m)]) (rest := []) ok_M_closesOut rfl rfl ok_M_putLength oi_M_putLength lk_6_307 (Or.inl ⟨_, _, _, rfl, rfl, rfl⟩) rfl rfl (Nat.le_of_ble_eq_true rfl) (c_M_putLength _ C Y og rd A hr hrd bf L (by omega) Y1 h1 m hm (by omega)) ?_
      rintro v_ w_ ⟨rfl, Y_3, rfl, hY_4⟩ -
      obtain ⟨b2, L2, hs2⟩ : ∃ b_ L_, wLn rd (bf, L) m = (b_, L_) := ⟨_, _, rfl⟩
      have hln := wLn_len rd bf L m
      rw [hs2] at hY_4 hln
      have hb2 : b2 ≤ 5 := by have : (wLn rd (bf, L) m).1 = 1 := rfl; rw [hs2] at this; simp at this; omega
      have hL2 : L2.length ≤ L.length + 30 := by have := hln; simp only [List.length_append] at this; omega
      refine am_eq_r (q' := (38, [some (.ref 19), some (.int (nI m)), some (.int (nI v))], [], wd C Y_3 og)) rfl ?_
      refine am_steps_r ok_M_closesOut 2 (q' := (40, [some (.ref 19), some (.int (nI m)), some (.int (nI v))], [.int 5, .ref 19], wd C Y_3 og)) rfl ?_
      have hgp_5 := gpL_1 rd b2 5
      refine am_callV_r (As := [.int 5]) (rest := []) ok_M_closesOut rfl rfl ok_M_part oi_M_part lk_6_292 (Or.inl ⟨_, _, _, rfl, rfl, rfl⟩) rfl rfl (Nat.le_of_ble_eq_true rfl) (c_M_part _ C Y og rd A hr hrd b2 L2 (by omega) Y_3 hY_4 5 (by omega) (by first | omega | (simp only [List.length_append, List.length_cons, List.length_nil] at hb ⊢; omega) | (simp only [List.length_append, List.length_cons, List.length_nil]; omega))) ?_
      rintro v_ w_ ⟨rfl, Y_6, rfl, hY_7⟩ -
      refine am_eq_r (q' := (43, [some (.ref 19), some (.int (nI m)), some (.int (nI v))], [], wd C Y_6 og)) rfl ?_
      refine am_steps_r ok_M_closesOut 4 (q' := (49, [some (.ref 19), some (.int (nI m)), some (.int (nI v))], [.int (nI v), .ref 22, .ref 19], wd C Y_6 og)) rfl ?_
      refine am_iald_r ok_M_closesOut rfl (w := wd C Y_6 og) (f := Y_6.2.1 2) rfl rfl (pk_in v 300 (by omega)) ?_
      rw [nI_clamp (show v < 2 ^ 31 by omega)]
      rw [show (Y_6.2.1 2 v) = V.1 v from yq_2 hY hY_7 (v := v) (by omega)]
      refine am_steps_r ok_M_closesOut 2 (q' := (bif decide ((V.1 v) = 6) then 55 else 60, [some (.ref 19), some (.int (nI m)), some (.int (nI v))], [.ref 19], wd C Y_6 og)) rfl ?_
      refine am_br_r (fun h_8 => ?_) (fun h_8 => ?_)
      · skip
        refine am_steps_r ok_M_closesOut 2 (q' := (62, [some (.ref 19), some (.int (nI m)), some (.int (nI v))], [.int 93, .ref 19], wd C Y_6 og)) rfl ?_
        refine am_callV_r (As := [.int 93]) (rest := []) ok_M_closesOut rfl rfl ok_M_put oi_M_put lk_6_270 (Or.inl ⟨_, _, _, rfl, rfl, rfl⟩) rfl rfl (Nat.le_of_ble_eq_true rfl) (c_M_put _ C Y og rd A hr hrd 5 (L2 ++ gpL rd b2 5) (by omega) Y_6 hY_7 93 (by first | omega | (simp only [List.length_append, List.length_cons, List.length_nil] at hb ⊢; omega) | (simp only [List.length_append, List.length_cons, List.length_nil]; omega))) ?_
        rintro v_ w_ ⟨rfl, Y_9, rfl, hY_10⟩ -
        refine am_eq_r (q' := (65, [some (.ref 19), some (.int (nI m)), some (.int (nI v))], [], wd C Y_9 og)) rfl ?_
        refine am_steps_r ok_M_closesOut 3 (q' := (70, [some (.ref 19), some (.int (nI m)), some (.int (nI v))], [.int (nI v), .ref 22], wd C Y_9 og)) rfl ?_
        refine am_iald_r ok_M_closesOut rfl (w := wd C Y_9 og) (f := Y_9.2.1 2) rfl rfl (pk_in v 300 (by omega)) ?_
        rw [nI_clamp (show v < 2 ^ 31 by omega)]
        rw [show (Y_9.2.1 2 v) = V.1 v from yq_2 hY hY_10 (v := v) (by omega)]
        refine am_steps_r ok_M_closesOut 2 (q' := (bif decide ((V.1 v) = 7) then 76 else 82, [some (.ref 19), some (.int (nI m)), some (.int (nI v))], [], wd C Y_9 og)) rfl ?_
        refine am_br_r (fun h_11 => ?_) (fun h_11 => ?_)
        · skip
          exact absurd ((show (V.1 v) = 6 by assumption).symm.trans (show (V.1 v) = 7 by assumption)) (by decide)
        · skip
          refine am_steps_r ok_M_closesOut 6 (q' := (92, [some (.ref 19), some (.int (nI m)), some (.int (nI v))], [], wd C (upd Y_9.1 12 ((Y_9.1 12) - 1), Y_9.2) og)) rfl ?_
          rw [show (Y_9.1 12 : Int32) = nI (0 + 1) from ((yE_12 hY_10).trans hd)]
          rw [show ((nI (0 + 1)) - 1 : Int32) = nI 0 from pk_sub (a := 0 + 1) (b := 1) (by omega)]
          refine am_vret_r ok_M_closesOut rfl rfl rfl ?_
          refine ⟨rfl, _, rfl, ?_⟩
          rw [hs2, hY_10]
          rw [show wPc rd (b2, L2) 5 (clT V v) = (5, ((L2 ++ gpL rd b2 5) ++ [93])) by rw [clT, if_pos h_8]; rfl]
          exact yE_dp
      · skip
        refine am_steps_r ok_M_closesOut 1 (q' := (62, [some (.ref 19), some (.int (nI m)), some (.int (nI v))], [.int 62, .ref 19], wd C Y_6 og)) rfl ?_
        refine am_callV_r (As := [.int 62]) (rest := []) ok_M_closesOut rfl rfl ok_M_put oi_M_put lk_6_270 (Or.inl ⟨_, _, _, rfl, rfl, rfl⟩) rfl rfl (Nat.le_of_ble_eq_true rfl) (c_M_put _ C Y og rd A hr hrd 5 (L2 ++ gpL rd b2 5) (by omega) Y_6 hY_7 62 (by first | omega | (simp only [List.length_append, List.length_cons, List.length_nil] at hb ⊢; omega) | (simp only [List.length_append, List.length_cons, List.length_nil]; omega))) ?_
        rintro v_ w_ ⟨rfl, Y_12, rfl, hY_13⟩ -
        refine am_eq_r (q' := (65, [some (.ref 19), some (.int (nI m)), some (.int (nI v))], [], wd C Y_12 og)) rfl ?_
        refine am_steps_r ok_M_closesOut 3 (q' := (70, [some (.ref 19), some (.int (nI m)), some (.int (nI v))], [.int (nI v), .ref 22], wd C Y_12 og)) rfl ?_
        refine am_iald_r ok_M_closesOut rfl (w := wd C Y_12 og) (f := Y_12.2.1 2) rfl rfl (pk_in v 300 (by omega)) ?_
        rw [nI_clamp (show v < 2 ^ 31 by omega)]
        rw [show (Y_12.2.1 2 v) = V.1 v from yq_2 hY hY_13 (v := v) (by omega)]
        refine am_steps_r ok_M_closesOut 2 (q' := (bif decide ((V.1 v) = 7) then 76 else 82, [some (.ref 19), some (.int (nI m)), some (.int (nI v))], [], wd C Y_12 og)) rfl ?_
        refine am_br_r (fun h_14 => ?_) (fun h_14 => ?_)
        · skip
          refine am_steps_r ok_M_closesOut 2 (q' := (79, [some (.ref 19), some (.int (nI m)), some (.int (nI v))], [.int 62, .ref 19], wd C Y_12 og)) rfl ?_
          refine am_callV_r (As := [.int 62]) (rest := []) ok_M_closesOut rfl rfl ok_M_put oi_M_put lk_6_270 (Or.inl ⟨_, _, _, rfl, rfl, rfl⟩) rfl rfl (Nat.le_of_ble_eq_true rfl) (c_M_put _ C Y og rd A hr hrd 5 ((L2 ++ gpL rd b2 5) ++ [62]) (by omega) Y_12 hY_13 62 (by first | omega | (simp only [List.length_append, List.length_cons, List.length_nil] at hb ⊢; omega) | (simp only [List.length_append, List.length_cons, List.length_nil]; omega))) ?_
          rintro v_ w_ ⟨rfl, Y_15, rfl, hY_16⟩ -
          refine am_eq_r (q' := (82, [some (.ref 19), some (.int (nI m)), some (.int (nI v))], [], wd C Y_15 og)) rfl ?_
          refine am_steps_r ok_M_closesOut 6 (q' := (92, [some (.ref 19), some (.int (nI m)), some (.int (nI v))], [], wd C (upd Y_15.1 12 ((Y_15.1 12) - 1), Y_15.2) og)) rfl ?_
          rw [show (Y_15.1 12 : Int32) = nI (0 + 1) from ((yE_12 hY_16).trans hd)]
          rw [show ((nI (0 + 1)) - 1 : Int32) = nI 0 from pk_sub (a := 0 + 1) (b := 1) (by omega)]
          refine am_vret_r ok_M_closesOut rfl rfl rfl ?_
          refine ⟨rfl, _, rfl, ?_⟩
          rw [hs2, hY_16]
          rw [show wPc rd (b2, L2) 5 (clT V v) = (5, (((L2 ++ gpL rd b2 5) ++ [62]) ++ [62])) by rw [clT, if_neg h_8]; unfold wPc; rw [← app_app1]]
          exact yE_dp
        · skip
          exfalso; rcases h67 with z | z <;> contradiction
  · skip
    have h_1 : ¬ (0 + 1) = 1 := fun z => h_1 ((nI_eq (show (0 + 1) < 2 ^ 31 by omega) (show 1 < 2 ^ 31 by omega)).mpr z)
    exfalso; omega
set_option maxHeartbeats 4000000 in
set_option maxRecDepth 100000 in
theorem c_M_closesOut_t (d : Nat) (C : wd_C) (Y : wd_Y) (og : Nat → Int64) (rd : Nat) (A : Nat → Int32) (hr : Y.1 16 = nI rd) (hrd : rd ≤ 1) (bf : Nat) (L : List Int32) (hbf : bf ≤ 5) (Y1 : wd_Y) (h1 : Y1 = yE Y A (bf, L)) (nv u : Nat) (V : VT) (hY : vsY Y nv u V) (v : Nat) (hv : v < nv) (h7 : V.1 v = 7) (hd : Y.1 12 = nI 1) (ho : Y.2.1 11 0 = nI v) (hb : L.length + 100 < 2147483648) (m : Nat) (hm : m < 1000000) (hok : vok nv V) (me : Nat) (hev : (V.2.2.1 v).length = 2 * me) (hpr : ∃ tv, prF (isLn V) (V.2.2.1 v) = some tv) (hprn : ∀ tv, prF (isLn V) (V.2.2.1 v) = some tv → tv.2 < nv) : am_Mt l D cA ad fm (d + 3) m_M_closesOut [.ref 19, .int (nI m)] (wd C Y1 og) (fun vr w' => vr = none ∧ ∃ Y2, w' = wd C Y2 og ∧ Y2 = yE (yDp Y 0) A (wPc rd (bf, L) 5 (clT V v))) := by
  have hnv := hY.1.2.1
  have h67 : V.1 v = 6 ∨ V.1 v = 7 := Or.inr h7
  have hq : 0 ≤ 8 := Nat.zero_le _
  refine am_mt ok_M_closesOut (by simp [am_arg, Value.category, m_M_closesOut, am_ml]) ?_
  refine am_eq_r (q' := (0, [some (.ref 19), some (.int (nI m)), none], [], wd C Y1 og)) rfl ?_
  refine am_steps_r ok_M_closesOut 6 (q' := (10, [some (.ref 19), some (.int (nI m)), none], [.int ((Y1.1 12) - 1), .ref 32], wd C Y1 og)) rfl ?_
  rw [show (Y1.1 12 : Int32) = nI (0 + 1) from ((yE_12 h1).trans hd)]
  rw [show ((nI (0 + 1)) - 1 : Int32) = nI 0 from pk_sub (a := 0 + 1) (b := 1) (by omega)]
  refine am_iald_r ok_M_closesOut rfl (w := wd C Y1 og) (f := Y1.2.1 11) rfl rfl (pk_in 0 9 (by omega)) ?_
  rw [nI_clamp (show 0 < 2 ^ 31 by omega)]
  rw [show (Y1.2.1 11 0) = nI v from (congrFun (ya h1 (by decide)) 0).trans ho]
  refine am_steps_r ok_M_closesOut 5 (q' := (bif decide ((Y1.1 12) = 1) then 20 else 38, [some (.ref 19), some (.int (nI m)), some (.int (nI v))], [], wd C Y1 og)) rfl ?_
  rw [show (Y1.1 12 : Int32) = nI (0 + 1) from ((yE_12 h1).trans hd)]
  refine am_br_r (fun h_1 => ?_) (fun h_1 => ?_)
  · skip
    have h_1 : (0 + 1) = 1 := (nI_eq (show (0 + 1) < 2 ^ 31 by omega) (show 1 < 2 ^ 31 by omega)).mp h_1
    refine am_steps_r ok_M_closesOut 2 (q' := (bif decide ((nI m) < 0) then 38 else 24, [some (.ref 19), some (.int (nI m)), some (.int (nI v))], [], wd C Y1 og)) rfl ?_
    refine am_br_r (fun h_2 => ?_) (fun h_2 => ?_)
    · skip
      have h_2 : m < 0 := (nI_ltI (show m < 2 ^ 31 by omega) (show 0 < 2 ^ 31 by omega)).mp h_2
      exact absurd h_2 (Nat.not_lt_zero _)
    · skip
      have h_2 : ¬ m < 0 := fun z => h_2 ((nI_ltI (show m < 2 ^ 31 by omega) (show 0 < 2 ^ 31 by omega)).mpr z)
      refine am_steps_r ok_M_closesOut 2 (q' := (26, [some (.ref 19), some (.int (nI m)), some (.int (nI v))], [.int (nI v), .ref 19], wd C Y1 og)) rfl ?_
      refine am_callV_r (As := [.int (nI v)]) (rest := []) ok_M_closesOut rfl rfl ok_M_lengthOf oi_M_lengthOf lk_6_239 (Or.inl ⟨_, _, _, rfl, rfl, rfl⟩) rfl rfl (Nat.le_of_ble_eq_true rfl) (c_M_lengthOf _ C Y1 og nv u V (ys1 hY h1) hok v hv me hev) ?_
      rintro v_ w_ ⟨rfl, rfl⟩ -
      obtain ⟨tv, htv⟩ := hpr
      rw [htv]
      refine am_eq_r (q' := (29, [some (.ref 19), some (.int (nI m)), some (.int (nI v))], [.int (oN (some tv.2))], wd C Y1 og)) rfl ?_
      refine am_steps_r ok_M_closesOut 2 (q' := (bif decide ((oN (some tv.2)) = (-1)) then 33 else 38, [some (.ref 19), some (.int (nI m)), some (.int (nI v))], [], wd C Y1 og)) rfl ?_
      refine am_br_r (fun h_3 => ?_) (fun h_3 => ?_)
      · skip
        exact absurd h_3 (nI_nm (show tv.2 < 2 ^ 31 by have := hprn; have := this tv htv; omega))
      · skip
        refine am_steps_r ok_M_closesOut 2 (q' := (40, [some (.ref 19), some (.int (nI m)), some (.int (nI v))], [.int 5, .ref 19], wd C Y1 og)) rfl ?_
        have hgp_4 := gpL_1 rd bf 5
        refine am_callV_r (As := [.int 5]) (rest := []) ok_M_closesOut rfl rfl ok_M_part oi_M_part lk_6_292 (Or.inl ⟨_, _, _, rfl, rfl, rfl⟩) rfl rfl (Nat.le_of_ble_eq_true rfl) (c_M_part _ C Y og rd A hr hrd bf L (by omega) Y1 h1 5 (by omega) (by first | omega | (simp only [List.length_append, List.length_cons, List.length_nil] at hb ⊢; omega) | (simp only [List.length_append, List.length_cons, List.length_nil]; omega))) ?_
        rintro v_ w_ ⟨rfl, Y_5, rfl, hY_6⟩ -
        refine am_eq_r (q' := (43, [some (.ref 19), some (.int (nI m)), some (.int (nI v))], [], wd C Y_5 og)) rfl ?_
        refine am_steps_r ok_M_closesOut 4 (q' := (49, [some (.ref 19), some (.int (nI m)), some (.int (nI v))], [.int (nI v), .ref 22, .ref 19], wd C Y_5 og)) rfl ?_
        refine am_iald_r ok_M_closesOut rfl (w := wd C Y_5 og) (f := Y_5.2.1 2) rfl rfl (pk_in v 300 (by omega)) ?_
        rw [nI_clamp (show v < 2 ^ 31 by omega)]
        rw [show (Y_5.2.1 2 v) = V.1 v from yq_2 hY hY_6 (v := v) (by omega)]
        refine am_steps_r ok_M_closesOut 2 (q' := (bif decide ((V.1 v) = 6) then 55 else 60, [some (.ref 19), some (.int (nI m)), some (.int (nI v))], [.ref 19], wd C Y_5 og)) rfl ?_
        refine am_br_r (fun h_7 => ?_) (fun h_7 => ?_)
        · skip
          refine am_steps_r ok_M_closesOut 2 (q' := (62, [some (.ref 19), some (.int (nI m)), some (.int (nI v))], [.int 93, .ref 19], wd C Y_5 og)) rfl ?_
          refine am_callV_r (As := [.int 93]) (rest := []) ok_M_closesOut rfl rfl ok_M_put oi_M_put lk_6_270 (Or.inl ⟨_, _, _, rfl, rfl, rfl⟩) rfl rfl (Nat.le_of_ble_eq_true rfl) (c_M_put _ C Y og rd A hr hrd 5 (L ++ gpL rd bf 5) (by omega) Y_5 hY_6 93 (by first | omega | (simp only [List.length_append, List.length_cons, List.length_nil] at hb ⊢; omega) | (simp only [List.length_append, List.length_cons, List.length_nil]; omega))) ?_
          rintro v_ w_ ⟨rfl, Y_8, rfl, hY_9⟩ -
          refine am_eq_r (q' := (65, [some (.ref 19), some (.int (nI m)), some (.int (nI v))], [], wd C Y_8 og)) rfl ?_
          refine am_steps_r ok_M_closesOut 3 (q' := (70, [some (.ref 19), some (.int (nI m)), some (.int (nI v))], [.int (nI v), .ref 22], wd C Y_8 og)) rfl ?_
          refine am_iald_r ok_M_closesOut rfl (w := wd C Y_8 og) (f := Y_8.2.1 2) rfl rfl (pk_in v 300 (by omega)) ?_
          rw [nI_clamp (show v < 2 ^ 31 by omega)]
          rw [show (Y_8.2.1 2 v) = V.1 v from yq_2 hY hY_9 (v := v) (by omega)]
          refine am_steps_r ok_M_closesOut 2 (q' := (bif decide ((V.1 v) = 7) then 76 else 82, [some (.ref 19), some (.int (nI m)), some (.int (nI v))], [], wd C Y_8 og)) rfl ?_
          refine am_br_r (fun h_10 => ?_) (fun h_10 => ?_)
          · skip
            exact absurd ((show (V.1 v) = 6 by assumption).symm.trans (show (V.1 v) = 7 by assumption)) (by decide)
          · skip
            refine am_steps_r ok_M_closesOut 6 (q' := (92, [some (.ref 19), some (.int (nI m)), some (.int (nI v))], [], wd C (upd Y_8.1 12 ((Y_8.1 12) - 1), Y_8.2) og)) rfl ?_
            rw [show (Y_8.1 12 : Int32) = nI (0 + 1) from ((yE_12 hY_9).trans hd)]
            rw [show ((nI (0 + 1)) - 1 : Int32) = nI 0 from pk_sub (a := 0 + 1) (b := 1) (by omega)]
            refine am_vret_r ok_M_closesOut rfl rfl rfl ?_
            refine ⟨rfl, _, rfl, ?_⟩
            rw [hY_9]
            rw [show wPc rd (bf, L) 5 (clT V v) = (5, ((L ++ gpL rd bf 5) ++ [93])) by rw [clT, if_pos h_7]; rfl]
            exact yE_dp
        · skip
          refine am_steps_r ok_M_closesOut 1 (q' := (62, [some (.ref 19), some (.int (nI m)), some (.int (nI v))], [.int 62, .ref 19], wd C Y_5 og)) rfl ?_
          refine am_callV_r (As := [.int 62]) (rest := []) ok_M_closesOut rfl rfl ok_M_put oi_M_put lk_6_270 (Or.inl ⟨_, _, _, rfl, rfl, rfl⟩) rfl rfl (Nat.le_of_ble_eq_true rfl) (c_M_put _ C Y og rd A hr hrd 5 (L ++ gpL rd bf 5) (by omega) Y_5 hY_6 62 (by first | omega | (simp only [List.length_append, List.length_cons, List.length_nil] at hb ⊢; omega) | (simp only [List.length_append, List.length_cons, List.length_nil]; omega))) ?_
          rintro v_ w_ ⟨rfl, Y_11, rfl, hY_12⟩ -
          refine am_eq_r (q' := (65, [some (.ref 19), some (.int (nI m)), some (.int (nI v))], [], wd C Y_11 og)) rfl ?_
          refine am_steps_r ok_M_closesOut 3 (q' := (70, [some (.ref 19), some (.int (nI m)), some (.int (nI v))], [.int (nI v), .ref 22], wd C Y_11 og)) rfl ?_
          refine am_iald_r ok_M_closesOut rfl (w := wd C Y_11 og) (f := Y_11.2.1 2) rfl rfl (pk_in v 300 (by omega)) ?_
          rw [nI_clamp (show v < 2 ^ 31 by omega)]
          rw [show (Y_11.2.1 2 v) = V.1 v from yq_2 hY hY_12 (v := v) (by omega)]
          refine am_steps_r ok_M_closesOut 2 (q' := (bif decide ((V.1 v) = 7) then 76 else 82, [some (.ref 19), some (.int (nI m)), some (.int (nI v))], [], wd C Y_11 og)) rfl ?_
          refine am_br_r (fun h_13 => ?_) (fun h_13 => ?_)
          · skip
            refine am_steps_r ok_M_closesOut 2 (q' := (79, [some (.ref 19), some (.int (nI m)), some (.int (nI v))], [.int 62, .ref 19], wd C Y_11 og)) rfl ?_
            refine am_callV_r (As := [.int 62]) (rest := []) ok_M_closesOut rfl rfl ok_M_put oi_M_put lk_6_270 (Or.inl ⟨_, _, _, rfl, rfl, rfl⟩) rfl rfl (Nat.le_of_ble_eq_true rfl) (c_M_put _ C Y og rd A hr hrd 5 ((L ++ gpL rd bf 5) ++ [62]) (by omega) Y_11 hY_12 62 (by first | omega | (simp only [List.length_append, List.length_cons, List.length_nil] at hb ⊢; omega) | (simp only [List.length_append, List.length_cons, List.length_nil]; omega))) ?_
            rintro v_ w_ ⟨rfl, Y_14, rfl, hY_15⟩ -
            refine am_eq_r (q' := (82, [some (.ref 19), some (.int (nI m)), some (.int (nI v))], [], wd C Y_14 og)) rfl ?_
            refine am_steps_r ok_M_closesOut 6 (q' := (92, [some (.ref 19), some (.int (nI m)), some (.int (nI v))], [], wd C (upd Y_14.1 12 ((Y_14.1 12) - 1), Y_14.2) og)) rfl ?_
            rw [show (Y_14.1 12 : Int32) = nI (0 + 1) from ((yE_12 hY_15).trans hd)]
            rw [show ((nI (0 + 1)) - 1 : Int32) = nI 0 from pk_sub (a := 0 + 1) (b := 1) (by omega)]
            refine am_vret_r ok_M_closesOut rfl rfl rfl ?_
            refine ⟨rfl, _, rfl, ?_⟩
            rw [hY_15]
            rw [show wPc rd (bf, L) 5 (clT V v) = (5, (((L ++ gpL rd bf 5) ++ [62]) ++ [62])) by rw [clT, if_neg h_7]; unfold wPc; rw [← app_app1]]
            exact yE_dp
          · skip
            exfalso; rcases h67 with z | z <;> contradiction
  · skip
    have h_1 : ¬ (0 + 1) = 1 := fun z => h_1 ((nI_eq (show (0 + 1) < 2 ^ 31 by omega) (show 1 < 2 ^ 31 by omega)).mpr z)
    exfalso; omega
end C100
