/-! the reference writes, whole; printed by wip/gen/g106.py -/
/-- behind the last byte -/
def yFin (Yb : wd_Y) (T : WS) (Y2 : wd_Y) : Prop := (∀ j, j < 13 → Y2.1 j = Yb.1 j) ∧ Y2.1 15 = nI T.1 ∧ (∀ j, j ≠ 13 → j ≠ 14 → Y2.2.1 j = Yb.2.1 j) ∧ Y2.2.2 = Yb.2.2 ∧ (T.2.length ≤ 4000 → Y2.1 13 = nI T.2.length ∧ ∀ j, j < T.2.length → Y2.2.1 13 j = T.2.getD j 0) ∧ (¬ T.2.length ≤ 4000 → Y2.1 13 = Yb.1 13 ∧ Y2.2.1 13 = Yb.2.1 13)
theorem yFin_no {Yb Y1 : wd_Y} {A : Nat → Int32} {T : WS} (h : Y1 = yE Yb A T) (hT : ¬ T.2.length ≤ 4000) : yFin Yb T Y1 := by
  subst h
  refine ⟨fun j hj => ?_, rfl, fun j j1 j2 => wduL j2, rfl, fun z => absurd z hT, fun _ => ⟨rfl, rfl⟩⟩
  show upd (upd Yb.1 14 _) 15 _ j = Yb.1 j
  rw [updL (by omega), updL (by omega)]
theorem yFin_yes {Yb Y1 : wd_Y} {A : Nat → Int32} {T : WS} (h : Y1 = yE Yb A T) (hT : T.2.length ≤ 4000) {k : Nat} (hk : k = T.2.length) : yFin Yb T (upd Y1.1 13 (nI T.2.length), wd_u Y1.2.1 13 (cpK (Y1.2.1 14) (Y1.2.1 13) k), Y1.2.2) := by
  subst h; subst hk
  refine ⟨fun j hj => ?_, rfl, fun j j1 j2 => ?_, rfl, fun _ => ⟨rfl, fun j hj => ?_⟩, fun z => absurd hT z⟩
  · show upd (upd (upd Yb.1 14 _) 15 _) 13 _ j = Yb.1 j
    rw [updL (by omega), updL (by omega), updL (by omega)]
  · show wd_u (wd_u Yb.2.1 14 _) 13 _ j = Yb.2.1 j
    rw [wduL j1, wduL j2]
  · show cpK (qLn A T.2) _ _ j = _
    rw [cpK, if_pos hj, qLn, if_pos ⟨by omega, hj⟩]
theorem wrR_of {Y Yz Yb Y2 : wd_Y} {T : WS} {r0 : Int32} (hz : Yz = (upd (upd (upd Y.1 0 0) 14 0) 16 r0, Y.2)) (hB : bY Yz Yb) (hf : yFin Yb T Y2) : wrR Y Y2 T := by
  subst hz
  obtain ⟨f1, f2, f3, f4, f5, f6⟩ := hf
  have e0 : ∀ j, 0 < j → j < 14 → (upd (upd (upd Y.1 0 0) 14 0) 16 r0) j = Y.1 j := fun j j1 j2 => by
    rw [updL (by omega), updL (by omega)]
    simp [upd]; omega
  refine ⟨fun j j1 j2 => ?_, ?_, fun j j1 j2 j3 j4 => ?_, f4.trans hB.2.2, f2, f5, fun z => ?_⟩
  · rw [f1 j (by omega), hB.1 j (by omega)]
    exact e0 j j1 (by omega)
  · rw [f1 0 (by omega), hB.1 0 (by decide)]
    rfl
  · rw [f3 j j2 j3, hB.2.1 j j1 j4]
  · rw [(f6 z).1, (f6 z).2, hB.1 13 (by decide), hB.2.1 13 (by decide) (by decide)]
    exact ⟨e0 13 (by decide) (by decide), rfl⟩
section C106
variable {l : Launch} {D : va_G} {cA : Nat → ClassId} {ad : Nat → Nat} {fm : Value}
set_option maxHeartbeats 4000000 in
set_option maxRecDepth 100000 in
theorem lp_M_write_v116 (d : Nat) (C : wd_C) (Y Yb : wd_Y) (og : Nat → Int64) (A : Nat → Int32) (bf : Nat) (L : List Int32) (Y1 : wd_Y) (h1 : Y1 = yE Yb A (bf, L)) (hbL : L.length + 1000 < 2147483648) (x0 : Int32) (r : Bool) (hL4 : L.length ≤ 4000)  : ∀ (fu : Nat) (post : Option Value → am_W → Prop) (k : Nat), (k ≤ L.length) → (∀ Y2, yFin Yb (bf, L) Y2 → post (some (.int (nI L.length))) (wd C Y2 og)) → L.length - k < fu → am_Rn l D cA ad fm (d + 0) m_M_write (wd C Y og).length post (116, [some (.ref 19), some (.int x0), some (.int (bz r)), some (.int 0), some (.int (nI k))], [], wd C (upd Y1.1 13 (nI L.length), wd_u Y1.2.1 13 (cpK (Y1.2.1 14) (Y1.2.1 13) k), Y1.2.2) og) := by
  intro fu
  induction fu with
  | zero => intro post k hkl hpo hfu; exact absurd hfu (Nat.not_lt_zero _)
  | succ fu ih =>
    intro post k hkl hpo hfu
    refine am_steps_r ok_M_write 4 (q' := (bif decide ((Y1.1 14) ≤ (nI k)) then 145 else 125, [some (.ref 19), some (.int x0), some (.int (bz r)), some (.int 0), some (.int (nI k))], [], wd C (upd Y1.1 13 (nI L.length), wd_u Y1.2.1 13 (cpK (Y1.2.1 14) (Y1.2.1 13) k), Y1.2.2) og)) rfl ?_
    rw [show (Y1.1 14 : Int32) = nI L.length from (yE_14 h1)]
    refine am_br_r (fun h_1 => ?_) (fun h_1 => ?_)
    · skip
      have h_1 : L.length ≤ k := (nI_leI (show L.length < 2 ^ 31 by omega) (show k < 2 ^ 31 by omega)).mp h_1
      refine am_steps_r ok_M_write 2 (q' := (149, [some (.ref 19), some (.int x0), some (.int (bz r)), some (.int 0), some (.int (nI k))], [.int (Y1.1 14)], wd C (upd Y1.1 13 (nI L.length), wd_u Y1.2.1 13 (cpK (Y1.2.1 14) (Y1.2.1 13) k), Y1.2.2) og)) rfl ?_
      rw [show (Y1.1 14 : Int32) = nI L.length from (yE_14 h1)]
      refine am_iret_r ok_M_write rfl rfl rfl ?_
      exact hpo _ (yFin_yes h1 (show L.length ≤ 4000 by omega) (show k = L.length by omega))
    · skip
      have h_1 : ¬ L.length ≤ k := fun z => h_1 ((nI_leI (show L.length < 2 ^ 31 by omega) (show k < 2 ^ 31 by omega)).mpr z)
      refine am_steps_r ok_M_write 6 (q' := (137, [some (.ref 19), some (.int x0), some (.int (bz r)), some (.int 0), some (.int (nI k))], [.int (nI k), .ref 35, .int (nI k), .ref 34], wd C (upd Y1.1 13 (nI L.length), wd_u Y1.2.1 13 (cpK (Y1.2.1 14) (Y1.2.1 13) k), Y1.2.2) og)) rfl ?_
      refine am_iald_r ok_M_write rfl (w := wd C (upd Y1.1 13 (nI L.length), wd_u Y1.2.1 13 (cpK (Y1.2.1 14) (Y1.2.1 13) k), Y1.2.2) og) (f := Y1.2.1 14) rfl rfl (pk_in k 4000 (by omega)) ?_
      rw [nI_clamp (show k < 2 ^ 31 by omega)]
      refine am_iast_r ok_M_write rfl (w := wd C (upd Y1.1 13 (nI L.length), wd_u Y1.2.1 13 (cpK (Y1.2.1 14) (Y1.2.1 13) k), Y1.2.2) og) (f := cpK (Y1.2.1 14) (Y1.2.1 13) k) rfl rfl (pk_in k 4000 (by omega)) ?_
      rw [nI_clamp (show k < 2 ^ 31 by omega)]
      refine am_eq_r (q' := (139, [some (.ref 19), some (.int x0), some (.int (bz r)), some (.int 0), some (.int (nI k))], [], wd C (upd Y1.1 13 (nI L.length), wd_u Y1.2.1 13 (upd (cpK (Y1.2.1 14) (Y1.2.1 13) k) k (Y1.2.1 14 k)), Y1.2.2) og)) rfl ?_
      refine am_steps_r ok_M_write 2 (q' := (116, [some (.ref 19), some (.int x0), some (.int (bz r)), some (.int 0), some (.int ((nI k) + 1))], [], wd C (upd Y1.1 13 (nI L.length), wd_u Y1.2.1 13 (upd (cpK (Y1.2.1 14) (Y1.2.1 13) k) k (Y1.2.1 14 k)), Y1.2.2) og)) rfl ?_
      rw [show ((nI k) + 1 : Int32) = nI (k + 1) from nI_add k 1]
      rw [show upd (cpK (Y1.2.1 14) (Y1.2.1 13) k) k (Y1.2.1 14 k) = cpK (Y1.2.1 14) (Y1.2.1 13) (k + 1) from cpK_s _ _ _]
      exact ih post (k + 1) (by omega) hpo (by omega)
set_option maxHeartbeats 4000000 in
set_option maxRecDepth 100000 in
theorem y_fin_v (d : Nat) (C : wd_C) (Y Yb : wd_Y) (og : Nat → Int64) (A : Nat → Int32) (bf : Nat) (L : List Int32) (Y1 : wd_Y) (h1 : Y1 = yE Yb A (bf, L)) (hbL : L.length + 1000 < 2147483648) (x0 : Int32) (r : Bool) (i : Nat) (post : Option Value → am_W → Prop) (hpo : ∀ Y2, yFin Yb (bf, L) Y2 → post (some (.int (if L.length ≤ 4000 then nI L.length else -1))) (wd C Y2 og)) :  am_Rn l D cA ad fm (d + 0) m_M_write (wd C Y og).length post (93, [some (.ref 19), some (.int x0), some (.int (bz r)), some (.int 0), some (.int (nI i))], [], wd C Y1 og) := by
  skip
  refine am_steps_r ok_M_write 4 (q' := (bif decide ((Y1.1 14) ≤ 4000) then 105 else 103, [some (.ref 19), some (.int x0), some (.int (bz r)), some (.int 0), some (.int (nI i))], [], wd C Y1 og)) rfl ?_
  rw [show (Y1.1 14 : Int32) = nI L.length from (yE_14 h1)]
  refine am_br_r (fun h_1 => ?_) (fun h_1 => ?_)
  · skip
    have h_1 : L.length ≤ 4000 := (nI_leI (show L.length < 2 ^ 31 by omega) (show 4000 < 2 ^ 31 by omega)).mp h_1
    refine am_steps_r ok_M_write 6 (q' := (116, [some (.ref 19), some (.int x0), some (.int (bz r)), some (.int 0), some (.int 0)], [], wd C (upd Y1.1 13 (Y1.1 14), Y1.2) og)) rfl ?_
    rw [show (Y1.1 14 : Int32) = nI L.length from (yE_14 h1)]
    refine am_eq_r (q' := (116, [some (.ref 19), some (.int x0), some (.int (bz r)), some (.int 0), some (.int (nI 0))], [], wd C (upd Y1.1 13 (nI L.length), wd_u Y1.2.1 13 (cpK (Y1.2.1 14) (Y1.2.1 13) 0), Y1.2.2) og)) (by rw [cpK_0, wdu_self]; rfl) ?_
    exact lp_M_write_v116 d C Y Yb og A bf L Y1 h1 hbL x0 r (by omega) (L.length + 1) post 0 (Nat.zero_le _) (fun Y2 h2 => by have := hpo Y2 h2; rw [if_pos (by omega)] at this; exact this) (by omega)
  · skip
    have h_1 : ¬ L.length ≤ 4000 := fun z => h_1 ((nI_leI (show L.length < 2 ^ 31 by omega) (show 4000 < 2 ^ 31 by omega)).mpr z)
    refine am_steps_r ok_M_write 1 (q' := (104, [some (.ref 19), some (.int x0), some (.int (bz r)), some (.int 0), some (.int (nI i))], [.int (-1)], wd C Y1 og)) rfl ?_
    refine am_iret_r ok_M_write rfl rfl rfl ?_
    have := hpo _ (yFin_no h1 (show ¬ L.length ≤ 4000 by omega))
    rw [if_neg (by omega)] at this
    exact this
set_option maxHeartbeats 4000000 in
set_option maxRecDepth 100000 in
theorem lp_M_write_a116 (d : Nat) (C : wd_C) (Y Yb : wd_Y) (og : Nat → Int64) (A : Nat → Int32) (bf : Nat) (L : List Int32) (Y1 : wd_Y) (h1 : Y1 = yE Yb A (bf, L)) (hbL : L.length + 1000 < 2147483648) (x0 : Int32) (r : Bool) (hL4 : L.length ≤ 4000)  : ∀ (fu : Nat) (post : Option Value → am_W → Prop) (k : Nat), (k ≤ L.length) → (∀ Y2, yFin Yb (bf, L) Y2 → post (some (.int (nI L.length))) (wd C Y2 og)) → L.length - k < fu → am_Rn l D cA ad fm (d + 0) m_M_write (wd C Y og).length post (116, [some (.ref 19), some (.int x0), some (.int (bz r)), some (.int 1), some (.int (nI k))], [], wd C (upd Y1.1 13 (nI L.length), wd_u Y1.2.1 13 (cpK (Y1.2.1 14) (Y1.2.1 13) k), Y1.2.2) og) := by
  intro fu
  induction fu with
  | zero => intro post k hkl hpo hfu; exact absurd hfu (Nat.not_lt_zero _)
  | succ fu ih =>
    intro post k hkl hpo hfu
    refine am_steps_r ok_M_write 4 (q' := (bif decide ((Y1.1 14) ≤ (nI k)) then 145 else 125, [some (.ref 19), some (.int x0), some (.int (bz r)), some (.int 1), some (.int (nI k))], [], wd C (upd Y1.1 13 (nI L.length), wd_u Y1.2.1 13 (cpK (Y1.2.1 14) (Y1.2.1 13) k), Y1.2.2) og)) rfl ?_
    rw [show (Y1.1 14 : Int32) = nI L.length from (yE_14 h1)]
    refine am_br_r (fun h_1 => ?_) (fun h_1 => ?_)
    · skip
      have h_1 : L.length ≤ k := (nI_leI (show L.length < 2 ^ 31 by omega) (show k < 2 ^ 31 by omega)).mp h_1
      refine am_steps_r ok_M_write 2 (q' := (149, [some (.ref 19), some (.int x0), some (.int (bz r)), some (.int 1), some (.int (nI k))], [.int (Y1.1 14)], wd C (upd Y1.1 13 (nI L.length), wd_u Y1.2.1 13 (cpK (Y1.2.1 14) (Y1.2.1 13) k), Y1.2.2) og)) rfl ?_
      rw [show (Y1.1 14 : Int32) = nI L.length from (yE_14 h1)]
      refine am_iret_r ok_M_write rfl rfl rfl ?_
      exact hpo _ (yFin_yes h1 (show L.length ≤ 4000 by omega) (show k = L.length by omega))
    · skip
      have h_1 : ¬ L.length ≤ k := fun z => h_1 ((nI_leI (show L.length < 2 ^ 31 by omega) (show k < 2 ^ 31 by omega)).mpr z)
      refine am_steps_r ok_M_write 6 (q' := (137, [some (.ref 19), some (.int x0), some (.int (bz r)), some (.int 1), some (.int (nI k))], [.int (nI k), .ref 35, .int (nI k), .ref 34], wd C (upd Y1.1 13 (nI L.length), wd_u Y1.2.1 13 (cpK (Y1.2.1 14) (Y1.2.1 13) k), Y1.2.2) og)) rfl ?_
      refine am_iald_r ok_M_write rfl (w := wd C (upd Y1.1 13 (nI L.length), wd_u Y1.2.1 13 (cpK (Y1.2.1 14) (Y1.2.1 13) k), Y1.2.2) og) (f := Y1.2.1 14) rfl rfl (pk_in k 4000 (by omega)) ?_
      rw [nI_clamp (show k < 2 ^ 31 by omega)]
      refine am_iast_r ok_M_write rfl (w := wd C (upd Y1.1 13 (nI L.length), wd_u Y1.2.1 13 (cpK (Y1.2.1 14) (Y1.2.1 13) k), Y1.2.2) og) (f := cpK (Y1.2.1 14) (Y1.2.1 13) k) rfl rfl (pk_in k 4000 (by omega)) ?_
      rw [nI_clamp (show k < 2 ^ 31 by omega)]
      refine am_eq_r (q' := (139, [some (.ref 19), some (.int x0), some (.int (bz r)), some (.int 1), some (.int (nI k))], [], wd C (upd Y1.1 13 (nI L.length), wd_u Y1.2.1 13 (upd (cpK (Y1.2.1 14) (Y1.2.1 13) k) k (Y1.2.1 14 k)), Y1.2.2) og)) rfl ?_
      refine am_steps_r ok_M_write 2 (q' := (116, [some (.ref 19), some (.int x0), some (.int (bz r)), some (.int 1), some (.int ((nI k) + 1))], [], wd C (upd Y1.1 13 (nI L.length), wd_u Y1.2.1 13 (upd (cpK (Y1.2.1 14) (Y1.2.1 13) k) k (Y1.2.1 14 k)), Y1.2.2) og)) rfl ?_
      rw [show ((nI k) + 1 : Int32) = nI (k + 1) from nI_add k 1]
      rw [show upd (cpK (Y1.2.1 14) (Y1.2.1 13) k) k (Y1.2.1 14 k) = cpK (Y1.2.1 14) (Y1.2.1 13) (k + 1) from cpK_s _ _ _]
      exact ih post (k + 1) (by omega) hpo (by omega)
set_option maxHeartbeats 4000000 in
set_option maxRecDepth 100000 in
theorem y_fin_a (d : Nat) (C : wd_C) (Y Yb : wd_Y) (og : Nat → Int64) (A : Nat → Int32) (bf : Nat) (L : List Int32) (Y1 : wd_Y) (h1 : Y1 = yE Yb A (bf, L)) (hbL : L.length + 1000 < 2147483648) (x0 : Int32) (r : Bool) (i : Nat) (post : Option Value → am_W → Prop) (hpo : ∀ Y2, yFin Yb (bf, L) Y2 → post (some (.int (if L.length ≤ 4000 then nI L.length else -1))) (wd C Y2 og)) :  am_Rn l D cA ad fm (d + 0) m_M_write (wd C Y og).length post (93, [some (.ref 19), some (.int x0), some (.int (bz r)), some (.int 1), some (.int (nI i))], [], wd C Y1 og) := by
  skip
  refine am_steps_r ok_M_write 4 (q' := (bif decide ((Y1.1 14) ≤ 4000) then 105 else 103, [some (.ref 19), some (.int x0), some (.int (bz r)), some (.int 1), some (.int (nI i))], [], wd C Y1 og)) rfl ?_
  rw [show (Y1.1 14 : Int32) = nI L.length from (yE_14 h1)]
  refine am_br_r (fun h_1 => ?_) (fun h_1 => ?_)
  · skip
    have h_1 : L.length ≤ 4000 := (nI_leI (show L.length < 2 ^ 31 by omega) (show 4000 < 2 ^ 31 by omega)).mp h_1
    refine am_steps_r ok_M_write 6 (q' := (116, [some (.ref 19), some (.int x0), some (.int (bz r)), some (.int 1), some (.int 0)], [], wd C (upd Y1.1 13 (Y1.1 14), Y1.2) og)) rfl ?_
    rw [show (Y1.1 14 : Int32) = nI L.length from (yE_14 h1)]
    refine am_eq_r (q' := (116, [some (.ref 19), some (.int x0), some (.int (bz r)), some (.int 1), some (.int (nI 0))], [], wd C (upd Y1.1 13 (nI L.length), wd_u Y1.2.1 13 (cpK (Y1.2.1 14) (Y1.2.1 13) 0), Y1.2.2) og)) (by rw [cpK_0, wdu_self]; rfl) ?_
    exact lp_M_write_a116 d C Y Yb og A bf L Y1 h1 hbL x0 r (by omega) (L.length + 1) post 0 (Nat.zero_le _) (fun Y2 h2 => by have := hpo Y2 h2; rw [if_pos (by omega)] at this; exact this) (by omega)
  · skip
    have h_1 : ¬ L.length ≤ 4000 := fun z => h_1 ((nI_leI (show L.length < 2 ^ 31 by omega) (show 4000 < 2 ^ 31 by omega)).mpr z)
    refine am_steps_r ok_M_write 1 (q' := (104, [some (.ref 19), some (.int x0), some (.int (bz r)), some (.int 1), some (.int (nI i))], [.int (-1)], wd C Y1 og)) rfl ?_
    refine am_iret_r ok_M_write rfl rfl rfl ?_
    have := hpo _ (yFin_no h1 (show ¬ L.length ≤ 4000 by omega))
    rw [if_neg (by omega)] at this
    exact this
set_option maxHeartbeats 4000000 in
set_option maxRecDepth 100000 in
theorem c_M_write_v (d : Nat) (C : wd_C) (Y : wd_Y) (og : Nat → Int64) (r : Bool) (nv u : Nat) (V : VT) (hY : vsY Y nv u V) (hby : ∀ w, w < nv → ∀ k, k < (V.2.2.2 w).length → ∃ j, j < 256 ∧ (V.2.2.2 w).getD k 0 = nI j) (ht : Nat → Nat) (hg : hG nv V ht) (hok : vok nv V) (hsp : ∀ v, v < nv → V.1 v = 7 → (∃ me, (V.2.2.1 v).length = 2 * me) ∧ vtSpl V v st_8 = (prF (isLn V) (V.2.2.1 v)).map (fun z => z.1)) (b0 : Nat) (hb0 : b0 ≤ 5) (hY15 : Y.1 15 = nI b0) (v : Nat) (hv : v < nv) (hb : (wWh r.toNat V (0, []) v).2.length + 1000 < 2147483648) : am_Mt l D cA ad fm (d + 7) m_M_write [.ref 19, .int (nI v), .int (bz r), .int 0] (wd C Y og) (fun vr w' => vr = some (.int (if (wWh r.toNat V (0, []) v).2.length ≤ 4000 then nI (wWh r.toNat V (0, []) v).2.length else -1)) ∧ ∃ Y', w' = wd C Y' og ∧ wrR Y Y' (wWh r.toNat V (0, []) v)) := by
  have hnv := hY.1.2.1
  have hisv : bz (decide (0 ≤ nI v) && decide (nI v < nI nv)) = 1 := by rw [decide_eq_true (show (0 : Int32) ≤ nI v from (nI_leI (show 0 < 2 ^ 31 by omega) (show v < 2 ^ 31 by omega)).mpr (Nat.zero_le _)), decide_eq_true ((nI_ltI (by omega) (by omega)).mpr hv)]; rfl
  refine am_mt ok_M_write (by simp [am_arg, Value.category, m_M_write, am_ml]) ?_
  refine am_eq_r (q' := (0, [some (.ref 19), some (.int (nI v)), some (.int (bz r)), some (.int 0), none], [], wd C Y og)) rfl ?_
  refine am_steps_r ok_M_write 5 (q' := (7, [some (.ref 19), some (.int (nI v)), some (.int (bz r)), some (.int 0), none], [.int (nI v), .ref 19, .ref 19], wd C Y og)) rfl ?_
  refine am_callV_r (As := [.int (nI v)]) (rest := [.ref 19]) ok_M_write rfl rfl ok_M_isValue oi_M_isValue lk_6_264 (Or.inl ⟨_, _, _, rfl, rfl, rfl⟩) rfl rfl (Nat.le_of_ble_eq_true rfl) (c_M_isValue _ C Y og nv u hY.1 (nI v)) ?_
  rintro v_ w_ ⟨rfl, rfl⟩ -
  rw [hisv]
  refine am_eq_r (q' := (10, [some (.ref 19), some (.int (nI v)), some (.int (bz r)), some (.int 0), none], [.int 1, .ref 19], wd C Y og)) rfl ?_
  refine am_steps_r ok_M_write 12 (q' := (37, [some (.ref 19), some (.int (nI v)), some (.int (bz r)), some (.int 0), none], [.int (bz r), .ref 19], wd C (upd (upd Y.1 0 0) 14 0, Y.2) og)) rfl ?_
  refine am_putz_r ok_M_write (cj := 0) rfl rfl (w := wd C (upd (upd Y.1 0 0) 14 0, Y.2) og) rfl (Nat.le_of_ble_eq_true rfl) (bz_nar _) (bz_fit _) ?_
  refine am_eq_r (q' := (40, [some (.ref 19), some (.int (nI v)), some (.int (bz r)), some (.int 0), none], [], wd C (upd (upd (upd Y.1 0 0) 14 0) 16 (bz r), Y.2) og)) rfl ?_
  obtain ⟨Yz, hEz⟩ : ∃ Z : wd_Y, Z = (upd (upd (upd Y.1 0 0) 14 0) 16 (bz r), Y.2) := ⟨_, rfl⟩
  rw [← hEz]
  have hY15z : Yz.1 15 = nI b0 := by rw [hEz]; exact hY15
  have h1z : Yz = yE Yz (Yz.2.1 14) (b0, []) := yE_start (by rw [hEz]; rfl) rfl hY15z
  have hrz : Yz.1 16 = nI r.toNat := by rw [hEz]; exact bz_N r
  have hYz : vsY Yz nv u V := by rw [hEz]; exact vsY_ar hY rfl rfl (fun j j1 j2 => rfl) rfl
  have hrd := bN_1 r
  refine am_eq_r (q' := (40, [some (.ref 19), some (.int (nI v)), some (.int (bz r)), some (.int 0), none], [], wd C Yz og)) rfl ?_
  refine am_steps_r ok_M_write 4 (q' := (46, [some (.ref 19), some (.int (nI v)), some (.int (bz r)), some (.int 0), none], [.int (nI v), .ref 19], wd C Yz og)) rfl ?_
  refine am_callV_r (As := [.int (nI v)]) (rest := []) ok_M_write rfl rfl ok_M_putWhole oi_M_putWhole lk_6_325 (Or.inl ⟨_, _, _, rfl, rfl, rfl⟩) rfl rfl (Nat.le_of_ble_eq_true rfl) (c_M_putWhole _ C Yz og r.toNat (Yz.2.1 14) hrz hrd nv u V hYz hby ht hg hok hsp v hv b0 [] hb0 Yz h1z hb) ?_
  rintro v_ w_ ⟨rfl, Yb, Y9, rfl, hB, h9y⟩ -
  refine am_eq_r (q' := (49, [some (.ref 19), some (.int (nI v)), some (.int (bz r)), some (.int 0), none], [], wd C Y9 og)) rfl ?_
  refine am_steps_r ok_M_write 6 (q' := (bif decide ((Y9.1 2) ≤ 0) then 93 else 61, [some (.ref 19), some (.int (nI v)), some (.int (bz r)), some (.int 0), some (.int 0)], [], wd C Y9 og)) rfl ?_
  refine am_br_r (fun h_1 => ?_) (fun h_1 => ?_)
  · skip
    exact y_fin_v _ C Y Yb og (Yz.2.1 14) (wWh r.toNat V (0, []) v).1 (wWh r.toNat V (0, []) v).2 Y9 h9y hb (nI v) r 0 _ (fun Y2 h2 => ⟨rfl, Y2, rfl, wrR_of hEz hB h2⟩)
  · skip
    refine am_steps_r ok_M_write 2 (q' := (93, [some (.ref 19), some (.int (nI v)), some (.int (bz r)), some (.int 0), some (.int 0)], [], wd C Y9 og)) rfl ?_
    exact y_fin_v _ C Y Yb og (Yz.2.1 14) (wWh r.toNat V (0, []) v).1 (wWh r.toNat V (0, []) v).2 Y9 h9y hb (nI v) r 0 _ (fun Y2 h2 => ⟨rfl, Y2, rfl, wrR_of hEz hB h2⟩)
set_option maxHeartbeats 4000000 in
set_option maxRecDepth 100000 in
theorem c_M_write_x (d : Nat) (C : wd_C) (Y : wd_Y) (og : Nat → Int64) (r : Bool) (nv u : Nat) (V : VT) (hY : vsY Y nv u V) (x : Int32) (hx : (decide (0 ≤ x) && decide (x < nI nv)) = false) : am_Mt l D cA ad fm (d + 7) m_M_write [.ref 19, .int x, .int (bz r), .int 0] (wd C Y og) (fun vr w' => vr = some (.int 0) ∧ w' = wd C (upd Y.1 0 1, Y.2) og) := by
  have hisv : bz (decide (0 ≤ x) && decide (x < nI nv)) = 0 := by rw [hx]; rfl
  refine am_mt ok_M_write (by simp [am_arg, Value.category, m_M_write, am_ml]) ?_
  refine am_eq_r (q' := (0, [some (.ref 19), some (.int x), some (.int (bz r)), some (.int 0), none], [], wd C Y og)) rfl ?_
  refine am_steps_r ok_M_write 5 (q' := (7, [some (.ref 19), some (.int x), some (.int (bz r)), some (.int 0), none], [.int x, .ref 19, .ref 19], wd C Y og)) rfl ?_
  refine am_callV_r (As := [.int x]) (rest := [.ref 19]) ok_M_write rfl rfl ok_M_isValue oi_M_isValue lk_6_264 (Or.inl ⟨_, _, _, rfl, rfl, rfl⟩) rfl rfl (Nat.le_of_ble_eq_true rfl) (c_M_isValue _ C Y og nv u hY.1 x) ?_
  rintro v_ w_ ⟨rfl, rfl⟩ -
  rw [hisv]
  refine am_eq_r (q' := (10, [some (.ref 19), some (.int x), some (.int (bz r)), some (.int 0), none], [.int 0, .ref 19], wd C Y og)) rfl ?_
  refine am_steps_r ok_M_write 7 (q' := (29, [some (.ref 19), some (.int x), some (.int (bz r)), some (.int 0), none], [.int 0], wd C (upd Y.1 0 1, Y.2) og)) rfl ?_
  refine am_iret_r ok_M_write rfl rfl rfl ?_
  exact ⟨rfl, rfl⟩
set_option maxHeartbeats 4000000 in
set_option maxRecDepth 100000 in
theorem lp_M_write_52 (d : Nat) (C : wd_C) (Y : wd_Y) (og : Nat → Int64) (rd : Nat) (A : Nat → Int32) (hr : Y.1 16 = nI rd) (hrd : rd ≤ 1) (r : Bool) (nv u : Nat) (V : VT) (hY : vsY Y nv u V) (hby : ∀ w, w < nv → ∀ k, k < (V.2.2.2 w).length → ∃ j, j < 256 ∧ (V.2.2.2 w).getD k 0 = nI j) (ht : Nat → Nat) (hg : hG nv V ht) (hok : vok nv V) (hsp : ∀ v, v < nv → V.1 v = 7 → (∃ me, (V.2.2.1 v).length = 2 * me) ∧ vtSpl V v st_8 = (prF (isLn V) (V.2.2.1 v)).map (fun z => z.1)) (no : Nat) (E : Nat → Nat → Int32) (hO : obY Y no E) (hI : obI nv no E) (x0 : Int32)  : ∀ (fu : Nat) (post : Option Value → am_W → Prop) (i : Nat) (bf : Nat) (L : List Int32) (Yb : wd_Y) (Y1 : wd_Y), (bf ≤ 5) → (bY Y Yb) → (Y1 = yE Yb A (bf, L)) → (i ≤ no) → ((wOs rd V E (no - i) i (bf, L)).2.length + 2000 < 2147483648) → (∀ Yc Y2, bY Y Yc → yFin Yc (wOs rd V E (no - i) i (bf, L)) Y2 → post (some (.int (if (wOs rd V E (no - i) i (bf, L)).2.length ≤ 4000 then nI (wOs rd V E (no - i) i (bf, L)).2.length else -1))) (wd C Y2 og)) → no - i < fu → am_Rn l D cA ad fm (d + 8) m_M_write (wd C Y og).length post (52, [some (.ref 19), some (.int x0), some (.int (bz r)), some (.int 1), some (.int (nI i))], [], wd C Y1 og) := by
  intro fu
  induction fu with
  | zero => intro post i bf L Yb Y1 hbf hB h1 hin hb hpo hfu; exact absurd hfu (Nat.not_lt_zero _)
  | succ fu ih =>
    intro post i bf L Yb Y1 hbf hB h1 hin hb hpo hfu
    have hnv := hY.1.2.1
    have hno := hO.2.1
    have hrb : Yb.1 16 = nI rd := (hB.1 16 (by decide)).trans hr
    have hYb := bY_vs hB hY
    have hOb : obY Yb no E := ⟨(hB.1 2 (by decide)).trans hO.1, hO.2.1, fun i hi j hj => (congrFun (hB.2.1 1 (by decide) (by decide)) _).trans (hO.2.2 i hi j hj)⟩
    have hbL : L.length + 2000 < 2147483648 := by have q := wOs_le (rd := rd) (V := V) (E := E) (no - i) i (bf, L); have q2 : (bf, L).2.length = L.length := rfl; omega
    refine am_steps_r ok_M_write 4 (q' := (bif decide ((Y1.1 2) ≤ (nI i)) then 93 else 61, [some (.ref 19), some (.int x0), some (.int (bz r)), some (.int 1), some (.int (nI i))], [], wd C Y1 og)) rfl ?_
    rw [show (Y1.1 2 : Int32) = nI no from ((show Y1.1 2 = Yb.1 2 by rw [h1]; rfl).trans ((hB.1 2 (by decide)).trans hO.1))]
    refine am_br_r (fun h_1 => ?_) (fun h_1 => ?_)
    · skip
      have h_1 : no ≤ i := (nI_leI (show no < 2 ^ 31 by omega) (show i < 2 ^ 31 by omega)).mp h_1
      have hz0 : no - i = 0 := by omega
      rw [hz0] at hpo
      exact y_fin_a _ C Y Yb og A bf L Y1 h1 (by omega) x0 r i post (fun Y2 h2 => hpo Yb Y2 hB h2)
    · skip
      have h_1 : ¬ no ≤ i := fun z => h_1 ((nI_leI (show no < 2 ^ 31 by omega) (show i < 2 ^ 31 by omega)).mpr z)
      refine am_steps_r ok_M_write 9 (q' := (76, [some (.ref 19), some (.int x0), some (.int (bz r)), some (.int 1), some (.int (nI i))], [.int ((8 * (nI i)) + 2), .ref 21], wd C Y1 og)) rfl ?_
      rw [show (8 * (nI i) : Int32) = nI (8 * i) from pk_mul 8 i]
      rw [show ((nI (8 * i)) + 2 : Int32) = nI ((8 * i) + 2) from nI_add (8 * i) 2]
      refine am_iald_r ok_M_write rfl (w := wd C Y1 og) (f := Y1.2.1 1) rfl rfl (pk_in ((8 * i) + 2) 160 (by omega)) ?_
      rw [nI_clamp (show ((8 * i) + 2) < 2 ^ 31 by omega)]
      rw [show (Y1.2.1 1 ((8 * i) + 2)) = E i 2 from (congrFun (ya h1 (by decide)) ((8 * i) + 2)).trans ((congrFun (hB.2.1 1 (by decide) (by decide)) ((8 * i) + 2)).trans (hO.2.2 i (by omega) 2 (by omega)))]
      obtain ⟨hIv, ⟨a, ha, hE0⟩, g, hg9, hE1⟩ := hI i (by omega)
      refine am_steps_r ok_M_write 2 (q' := (bif decide ((E i 2) = (-1)) then 87 else 81, [some (.ref 19), some (.int x0), some (.int (bz r)), some (.int 1), some (.int (nI i))], [], wd C Y1 og)) rfl ?_
      refine am_br_r (fun h_2 => ?_) (fun h_2 => ?_)
      · skip
        obtain ⟨c, hc⟩ : ∃ c, no - i = c + 1 := ⟨no - i - 1, by omega⟩
        have hob := wOb_no (rd := rd) (V := V) (E := E) (i := i) (st := (bf, L)) h_2
        rw [hc, wOs_s, hob] at hb hpo
        refine am_steps_r ok_M_write 2 (q' := (52, [some (.ref 19), some (.int x0), some (.int (bz r)), some (.int 1), some (.int ((nI i) + 1))], [], wd C Y1 og)) rfl ?_
        rw [show ((nI i) + 1 : Int32) = nI (i + 1) from nI_add i 1]
        have hc2 : no - (i + 1) = c := by omega
        exact ih post (i + 1) bf L Yb Y1 hbf hB h1 (by omega) (by rw [hc2]; exact hb) (by rw [hc2]; exact hpo) (by omega)
      · skip
        obtain ⟨c, hc⟩ : ∃ c, no - i = c + 1 := ⟨no - i - 1, by omega⟩
        obtain ⟨x, hx1, hx2, hx3⟩ := hIv.resolve_left (fun z => h_2 z.1)
        have hob := wOb_yes (rd := rd) (V := V) (E := E) (i := i) (w := x) (st := (bf, L)) hx2 (by omega)
        rw [hc, wOs_s] at hb hpo
        have hbv : (wWh rd V (0, L ++ wHd E i) x).2.length + 2000 < 2147483648 := by have q := wOs_le (rd := rd) (V := V) (E := E) c (i + 1) (wOb rd V E (bf, L) i); rw [hob] at q hb; simp only [List.length_append] at q hb; omega
        refine am_steps_r ok_M_write 2 (q' := (84, [some (.ref 19), some (.int x0), some (.int (bz r)), some (.int 1), some (.int (nI i))], [.int (nI i), .ref 19], wd C Y1 og)) rfl ?_
        refine am_callV_r (As := [.int (nI i)]) (rest := []) ok_M_write rfl rfl ok_M_putObject oi_M_putObject lk_6_328 (Or.inl ⟨_, _, _, rfl, rfl, rfl⟩) rfl rfl (Nat.le_of_ble_eq_true rfl) (c_M_putObject _ C Yb og rd A hrb hrd nv u V hYb hby ht hg hok hsp no E hOb i (by omega) a g ha hE0 hg9 hE1 x hx1 hx2 bf L hbf Y1 h1 hbv) ?_
        rintro v_ w_ ⟨rfl, Yc, Y9, rfl, hBc, h9y⟩ -
        have hbb : (wOb rd V E (bf, L) i).1 ≤ 5 := wOs_bf (rd := rd) (V := V) (E := E) 1 i (bf, L) hbf
        obtain ⟨b2, L2, hs2⟩ : ∃ b_ L_, wOb rd V E (bf, L) i = (b_, L_) := ⟨_, _, rfl⟩
        rw [hs2] at h9y hbb hb hpo
        have hb52 : b2 ≤ 5 := hbb
        have hBc2 : bY Y Yc := ⟨fun j hj => (hBc.1 j hj).trans (hB.1 j hj), fun j j1 j2 => (hBc.2.1 j j1 j2).trans (hB.2.1 j j1 j2), hBc.2.2.trans hB.2.2⟩
        refine am_eq_r (q' := (87, [some (.ref 19), some (.int x0), some (.int (bz r)), some (.int 1), some (.int (nI i))], [], wd C Y9 og)) rfl ?_
        refine am_steps_r ok_M_write 2 (q' := (52, [some (.ref 19), some (.int x0), some (.int (bz r)), some (.int 1), some (.int ((nI i) + 1))], [], wd C Y9 og)) rfl ?_
        rw [show ((nI i) + 1 : Int32) = nI (i + 1) from nI_add i 1]
        have hc2 : no - (i + 1) = c := by omega
        exact ih post (i + 1) b2 L2 Yc Y9 hb52 hBc2 h9y (by omega) (by rw [hc2]; exact hb) (by rw [hc2]; exact hpo) (by omega)
set_option maxHeartbeats 4000000 in
set_option maxRecDepth 100000 in
theorem c_M_write_a (d : Nat) (C : wd_C) (Y : wd_Y) (og : Nat → Int64) (r : Bool) (nv u : Nat) (V : VT) (hY : vsY Y nv u V) (hby : ∀ w, w < nv → ∀ k, k < (V.2.2.2 w).length → ∃ j, j < 256 ∧ (V.2.2.2 w).getD k 0 = nI j) (ht : Nat → Nat) (hg : hG nv V ht) (hok : vok nv V) (hsp : ∀ v, v < nv → V.1 v = 7 → (∃ me, (V.2.2.1 v).length = 2 * me) ∧ vtSpl V v st_8 = (prF (isLn V) (V.2.2.1 v)).map (fun z => z.1)) (b0 : Nat) (hb0 : b0 ≤ 5) (hY15 : Y.1 15 = nI b0) (no : Nat) (E : Nat → Nat → Int32) (hO : obY Y no E) (hI : obI nv no E) (x0 : Int32) (hb : (wOs r.toNat V E no 0 (b0, [])).2.length + 2000 < 2147483648) : am_Mt l D cA ad fm (d + 8) m_M_write [.ref 19, .int x0, .int (bz r), .int 1] (wd C Y og) (fun vr w' => vr = some (.int (if (wOs r.toNat V E no 0 (b0, [])).2.length ≤ 4000 then nI (wOs r.toNat V E no 0 (b0, [])).2.length else -1)) ∧ ∃ Y', w' = wd C Y' og ∧ wrR Y Y' (wOs r.toNat V E no 0 (b0, []))) := by
  have hnv := hY.1.2.1
  refine am_mt ok_M_write (by simp [am_arg, Value.category, m_M_write, am_ml]) ?_
  refine am_eq_r (q' := (0, [some (.ref 19), some (.int x0), some (.int (bz r)), some (.int 1), none], [], wd C Y og)) rfl ?_
  refine am_steps_r ok_M_write 14 (q' := (37, [some (.ref 19), some (.int x0), some (.int (bz r)), some (.int 1), none], [.int (bz r), .ref 19], wd C (upd (upd Y.1 0 0) 14 0, Y.2) og)) rfl ?_
  refine am_putz_r ok_M_write (cj := 0) rfl rfl (w := wd C (upd (upd Y.1 0 0) 14 0, Y.2) og) rfl (Nat.le_of_ble_eq_true rfl) (bz_nar _) (bz_fit _) ?_
  refine am_eq_r (q' := (40, [some (.ref 19), some (.int x0), some (.int (bz r)), some (.int 1), none], [], wd C (upd (upd (upd Y.1 0 0) 14 0) 16 (bz r), Y.2) og)) rfl ?_
  obtain ⟨Yz, hEz⟩ : ∃ Z : wd_Y, Z = (upd (upd (upd Y.1 0 0) 14 0) 16 (bz r), Y.2) := ⟨_, rfl⟩
  rw [← hEz]
  have hY15z : Yz.1 15 = nI b0 := by rw [hEz]; exact hY15
  have h1z : Yz = yE Yz (Yz.2.1 14) (b0, []) := yE_start (by rw [hEz]; rfl) rfl hY15z
  have hrz : Yz.1 16 = nI r.toNat := by rw [hEz]; exact bz_N r
  have hYz : vsY Yz nv u V := by rw [hEz]; exact vsY_ar hY rfl rfl (fun j j1 j2 => rfl) rfl
  have hrd := bN_1 r
  have hOz : obY Yz no E := by rw [hEz]; exact ⟨hO.1, hO.2.1, hO.2.2⟩
  refine am_eq_r (q' := (40, [some (.ref 19), some (.int x0), some (.int (bz r)), some (.int 1), none], [], wd C Yz og)) rfl ?_
  refine am_steps_r ok_M_write 4 (q' := (52, [some (.ref 19), some (.int x0), some (.int (bz r)), some (.int 1), some (.int 0)], [], wd C Yz og)) rfl ?_
  refine am_eq_r (q' := (52, [some (.ref 19), some (.int x0), some (.int (bz r)), some (.int 1), some (.int (nI 0))], [], wd C Yz og)) rfl ?_
  exact lp_M_write_52 _ C Yz og r.toNat (Yz.2.1 14) hrz hrd r nv u V hYz hby ht hg hok hsp no E hOz hI x0 (no + 1) _ 0 b0 [] Yz Yz hb0 (bY_rf Yz) h1z (Nat.zero_le _) hb (fun Yc Y2 a1 a2 => ⟨rfl, Y2, rfl, wrR_of hEz a1 a2⟩) (by omega)
end C106
