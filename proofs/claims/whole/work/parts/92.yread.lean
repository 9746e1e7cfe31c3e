/-! the reference reads the tape; printed by wip/gen/g92.py -/
def rdV (n : Nat) : RR → Prop
  | .inl (_, p, _) => p ≤ n
  | .inr (_, k', _) => k' ≤ n
theorem fin_up {n : Nat} {b : Nat → Int32} (hb : ∀ k, n ≤ k → b k = -1) {nv u k : Nat} {V : VT} {no : Int32} {E : Nat → Nat → Int32} {noo : Nat} {r : RR} (hR : Rd n b none 0 (k, nv, u, V, no) r) (hfx : rdFx n nv u V r) : rdV n (fin2 n b (fin1 n b E noo r)) := by
  have hup := Rd_up hb hR
  have key : ∀ q : RR, rdV n q → rdV n (fin2 n b q) := by
    intro q hq
    rcases q with ⟨c, p, no1⟩ | ⟨x, k2, nv2, u2, V2, no2⟩
    · exact hq
    · have hk2 : k2 ≤ n := hq
      have hs := skW_le n b hk2
      by_cases hw : wdA b st_10 (skW n b k2) = true
      · rw [show fin2 n b (.inr (x, k2, nv2, u2, V2, no2)) = .inr (x, skW n b k2 + 6, nv2, u2, V2, no2) from if_pos hw]
        exact wdA10_in hb hw
      · rw [show fin2 n b (.inr (x, k2, nv2, u2, V2, no2)) = .inl (if skW n b k2 < n then 2 else 1, skW n b k2, no2) from if_neg hw]
        exact hs.2
  refine key _ ?_
  rcases r with ⟨c, p, no1⟩ | ⟨x, k2, nv2, u2, V2, no2⟩
  · exact hup
  · have hk2 : k2 ≤ n := hfx.2.2.2.1
    have hs := skW_le n b hk2
    show rdV n (stmR n b k2 nv2 u2 V2 no2 x (tlO (tlN V2 E noo x)))
    by_cases hw : V2.1 x = 7 ∧ wdA b st_7 (skW n b k2) = true
    · have h6 := wdA7_in hb hw.2
      by_cases h3 : nv2 = 300
      · rw [show stmR n b k2 nv2 u2 V2 no2 x (tlO (tlN V2 E noo x)) = .inl (6, skW n b k2, no2) from (if_pos hw).trans (if_pos h3)]
        exact hs.2
      · rcases hst : stR n b (skW n b k2) (tlO (tlN V2 E noo x)) with ⟨c, p, bit⟩ | ⟨bs, e, bit⟩
        · rw [show stmR n b k2 nv2 u2 V2 no2 x (tlO (tlN V2 E noo x)) = .inl (c, p, no2 ||| bit) from (if_pos hw).trans ((if_neg h3).trans (by rw [hst]))]
          exact (stR_up hb h6 hst).2.1
        · rw [show stmR n b k2 nv2 u2 V2 no2 x (tlO (tlN V2 E noo x)) = .inr (nv2, e, nv2 + 1, u2 + bs.length, vtS V2 nv2 x bs, no2 ||| bit) from (if_pos hw).trans ((if_neg h3).trans (by rw [hst]))]
          exact (stR_hi hb (Nat.le_refl _) h6 hst).1
    · rw [show stmR n b k2 nv2 u2 V2 no2 x (tlO (tlN V2 E noo x)) = .inr (x, skW n b k2, nv2, u2, V2, no2) from if_neg hw]
      exact hs.2
/-- one object more, on the reference's side -/
theorem bsY_obj {Y Y' : wd_Y} {n : Nat} {b : Nat → Int32} {k noo : Nat} {E : Nat → Nat → Int32} {nv u : Nat} {V : VT} {sy : Nat} (hB : bsY Y n b (k, noo, E, nv, u, V, sy)) {r3 : RR} (hF : obGY Y Y' n b nv u V noo E k r3) (hup : rdV n r3) : ∃ k1, Y'.1 6 = nI k1 ∧ k1 ≤ n ∧ bsY (upd Y'.1 6 (nI (skW n b k1)), Y'.2) n b (nxS n b k noo E nv u V sy r3) ∧ (nxS n b k noo E nv u V sy r3).1 = skW n b k1 := by
  obtain ⟨f1, f2, f3, f4, f5, f6⟩ := hF
  rcases r3 with ⟨c, p, no⟩ | ⟨y, k', nv', u', V', no⟩
  · have hp : p ≤ n := hup
    have hne := neE_bd f1.2.2.2.1 (n - p) p (by omega)
    exact ⟨neE b (n - p) p, f6.1, hne.2, ⟨f1, rfl, f5, vsY_ar f6.2 rfl rfl (fun _ _ _ => rfl) rfl, f2.trans hB.2.2.2.2⟩, rfl⟩
  · exact ⟨k', f6.1, hup, ⟨f1, rfl, f5, vsY_ar f6.2 rfl rfl (fun _ _ _ => rfl) rfl, f2.trans hB.2.2.2.2⟩, rfl⟩
theorem prW_th0 {n : Nat} {b : Nat → Int32} (hb : ∀ k, n ≤ k → b k = -1) {p : Nat} (hp : p ≤ n) : prW n b st_0 p = match thW n b p with
    | none => none
    | some t => if wdA b st_0 t = true then some t else none := prW_eq hb (x := 111) (r := [98, 106]) rfl (by decide) hp
section C92
variable {l : Launch} {D : va_G} {cA : Nat → ClassId} {ad : Nat → Nat} {fm : Value}
def tyQ (Y : wd_Y) (C : wd_C) (og : Nat → Int64) (n : Nat) (b : Nat → Int32) (s' : TS) (vr : Option Value) (w' : am_W) : Prop := vr = some (.int (nI s'.2.1)) ∧ ∃ Y' : wd_Y, w' = wd C Y' og ∧ bsY Y' n b s' ∧ Y'.1 0 = Y.1 0 ∧ wrY Y Y'
def tyP (l : Launch) (D : va_G) (cA : Nat → ClassId) (ad : Nat → Nat) (fm : Value) (d n : Nat) (b : Nat → Int32) (C : wd_C) (og : Nat → Int64) (s s' : TS) : Prop := ∀ (Y : wd_Y), bsY Y n b s → s.1 ≤ n → ∀ post : Option Value → am_W → Prop, (∀ vr w', tyQ Y C og n b s' vr w' → post vr w') → am_Rn l D cA ad fm (d + 9) m_M_read (wd C Y og).length post (34, [some (.ref 19), none], [], wd C Y og)
set_option maxHeartbeats 4000000 in
set_option maxRecDepth 100000 in
theorem tyr_0 (d : Nat) (n : Nat) (b : Nat → Int32) (C : wd_C) (og : Nat → Int64) : Tp0 n (tyP l D cA ad fm d n b C og) := by
  intro k noo E nv u V sy hnk Y hB hkn post hp
  have hkn : k ≤ n := hkn
  have hT : tpY Y n b := hB.1
  have h6 : Y.1 6 = nI k := hB.2.1
  have hO : obY Y noo E := hB.2.2.1
  have hsy : Y.1 3 = nI sy := hB.2.2.2.2
  have hn := hT.2.1
  have hn20 := hO.2.1
  refine am_steps_r ok_M_read 5 (q' := (bif decide ((Y.1 1) ≤ (Y.1 6)) then 124 else 45, [some (.ref 19), none], [], wd C Y og)) rfl ?_
  rw [show (Y.1 6 : Int32) = nI k from h6]
  rw [show (Y.1 1 : Int32) = nI n from hT.1]
  refine am_br_r (fun h_1 => ?_) (fun h_1 => ?_)
  · skip
    have h_1 : n ≤ k := (nI_leI (show n < 2 ^ 31 by omega) (show k < 2 ^ 31 by omega)).mp h_1
    refine am_steps_r ok_M_read 2 (q' := (128, [some (.ref 19), none], [.int (Y.1 2)], wd C Y og)) rfl ?_
    rw [show (Y.1 2 : Int32) = nI noo from hO.1]
    refine am_iret_r ok_M_read rfl rfl rfl ?_
    exact hp _ _ ⟨rfl, Y, rfl, hB, rfl, ⟨rfl, rfl, rfl, rfl, rfl, rfl, rfl⟩⟩
  · skip
    have h_1 : ¬ n ≤ k := fun z => h_1 ((nI_leI (show n < 2 ^ 31 by omega) (show k < 2 ^ 31 by omega)).mpr z)
    exfalso; omega
set_option maxHeartbeats 4000000 in
set_option maxRecDepth 100000 in
theorem tyr_1 (d : Nat) (n : Nat) (b : Nat → Int32) (C : wd_C) (og : Nat → Int64) : Tp1 n b (tyP l D cA ad fm d n b C og) := by
  intro k noo E nv u V sy s' hkl hno hP Y hB hkn post hp
  have hkn : k ≤ n := hkn
  have hT : tpY Y n b := hB.1
  have h6 : Y.1 6 = nI k := hB.2.1
  have hO : obY Y noo E := hB.2.2.1
  have hsy : Y.1 3 = nI sy := hB.2.2.2.2
  have hn := hT.2.1
  have hn20 := hO.2.1
  refine am_steps_r ok_M_read 5 (q' := (bif decide ((Y.1 1) ≤ (Y.1 6)) then 124 else 45, [some (.ref 19), none], [], wd C Y og)) rfl ?_
  rw [show (Y.1 6 : Int32) = nI k from h6]
  rw [show (Y.1 1 : Int32) = nI n from hT.1]
  refine am_br_r (fun h_1 => ?_) (fun h_1 => ?_)
  · skip
    have h_1 : n ≤ k := (nI_leI (show n < 2 ^ 31 by omega) (show k < 2 ^ 31 by omega)).mp h_1
    exfalso; omega
  · skip
    have h_1 : ¬ n ≤ k := fun z => h_1 ((nI_leI (show n < 2 ^ 31 by omega) (show k < 2 ^ 31 by omega)).mpr z)
    refine am_steps_r ok_M_read 4 (q' := (bif decide (20 ≤ (Y.1 2)) then 65 else 54, [some (.ref 19), none], [], wd C Y og)) rfl ?_
    rw [show (Y.1 2 : Int32) = nI noo from hO.1]
    refine am_br_r (fun h_2 => ?_) (fun h_2 => ?_)
    · skip
      have h_2 : 20 ≤ noo := (nI_leI (show 20 < 2 ^ 31 by omega) (show noo < 2 ^ 31 by omega)).mp h_2
      have h_noo : ¬ noo < 20 := by omega
      refine am_steps_r ok_M_read 21 (q' := (115, [some (.ref 19), some (.int (-1))], [.int ((Y.1 6) + 1), .ref 19, .ref 19], wd C (upd (upd Y.1 3 ((Y.1 3) + 1)) 6 ((Y.1 6) + 1), Y.2) og)) rfl ?_
      rw [show (Y.1 3 : Int32) = nI sy from hsy]
      rw [show ((nI sy) + 1 : Int32) = nI (sy + 1) from nI_add sy 1]
      rw [show (Y.1 6 : Int32) = nI k from h6]
      rw [show ((nI k) + 1 : Int32) = nI (k + 1) from nI_add k 1]
      refine am_callV_r (As := [.int (nI (k + 1))]) (rest := [.ref 19]) ok_M_read rfl rfl ok_M_behindWhite oi_M_behindWhite lk_6_127 (Or.inl ⟨_, _, _, rfl, rfl, rfl⟩) rfl rfl (Nat.le_of_ble_eq_true rfl) (c_M_behindWhite _ C (upd (upd Y.1 3 (nI (sy + 1))) 6 (nI (k + 1)), Y.2) og n b (show tpY (upd (upd Y.1 3 (nI (sy + 1))) 6 (nI (k + 1)), Y.2) n b from hT) (k + 1) (by omega)) ?_
      rintro v_ w_ ⟨rfl, rfl⟩ -
      refine am_eq_r (q' := (118, [some (.ref 19), some (.int (-1))], [.int (nI (skW n b (k + 1))), .ref 19], wd C (upd (upd Y.1 3 (nI (sy + 1))) 6 (nI (k + 1)), Y.2) og)) rfl ?_
      refine am_steps_r ok_M_read 2 (q' := (34, [some (.ref 19), some (.int (-1))], [], wd C (upd (upd Y.1 3 (nI (sy + 1))) 6 (nI (skW n b (k + 1))), Y.2) og)) rfl ?_
      refine am_drop_r [1] (L' := [some (.ref 19), none]) rfl ?_
      refine hP (upd (upd Y.1 3 (nI (sy + 1))) 6 (nI (skW n b (k + 1))), Y.2) ⟨hT, rfl, hO, vsY_ar hB.2.2.2.1 rfl rfl (fun _ _ _ => rfl) rfl, rfl⟩ (skW_le n b (show k + 1 ≤ n by omega)).2 post (fun vr w' hw => hp vr w' ?_)
      obtain ⟨q1, Y3, q2, q3, q4, q5⟩ := hw
      exact ⟨q1, Y3, q2, q3, q4, wrY_tr (show wrY Y (upd (upd Y.1 3 (nI (sy + 1))) 6 (nI (skW n b (k + 1))), Y.2) from ⟨rfl, rfl, rfl, rfl, rfl, rfl, rfl⟩) q5⟩
    · skip
      have h_2 : ¬ 20 ≤ noo := fun z => h_2 ((nI_leI (show 20 < 2 ^ 31 by omega) (show noo < 2 ^ 31 by omega)).mpr z)
      have h_noo : noo < 20 := by omega
      refine am_steps_r ok_M_read 3 (q' := (59, [some (.ref 19), none], [.int (Y.1 6), .ref 19], wd C Y og)) rfl ?_
      rw [show (Y.1 6 : Int32) = nI k from h6]
      refine am_callV_r (As := [.int (nI k)]) (rest := []) ok_M_read rfl rfl ok_M_thirdWord oi_M_thirdWord lk_6_188 (Or.inl ⟨_, _, _, rfl, rfl, rfl⟩) rfl rfl (Nat.le_of_ble_eq_true rfl) (c_M_thirdWord _ C Y og n b hT k (by omega)) ?_
      rintro v_ w_ ⟨rfl, rfl⟩ -
      have hpr := hno h_noo
      rw [prW_th0 hT.2.2.2.1 (by omega)] at hpr
      rcases hth : thW n b k with _ | t
      · skip
        refine am_eq_r (q' := (62, [some (.ref 19), none], [.int (-1)], wd C Y og)) rfl ?_
        refine am_steps_r ok_M_read 21 (q' := (115, [some (.ref 19), some (.int (-1))], [.int ((Y.1 6) + 1), .ref 19, .ref 19], wd C (upd (upd Y.1 3 ((Y.1 3) + 1)) 6 ((Y.1 6) + 1), Y.2) og)) rfl ?_
        rw [show (Y.1 3 : Int32) = nI sy from hsy]
        rw [show ((nI sy) + 1 : Int32) = nI (sy + 1) from nI_add sy 1]
        rw [show (Y.1 6 : Int32) = nI k from h6]
        rw [show ((nI k) + 1 : Int32) = nI (k + 1) from nI_add k 1]
        refine am_callV_r (As := [.int (nI (k + 1))]) (rest := [.ref 19]) ok_M_read rfl rfl ok_M_behindWhite oi_M_behindWhite lk_6_127 (Or.inl ⟨_, _, _, rfl, rfl, rfl⟩) rfl rfl (Nat.le_of_ble_eq_true rfl) (c_M_behindWhite _ C (upd (upd Y.1 3 (nI (sy + 1))) 6 (nI (k + 1)), Y.2) og n b (show tpY (upd (upd Y.1 3 (nI (sy + 1))) 6 (nI (k + 1)), Y.2) n b from hT) (k + 1) (by omega)) ?_
        rintro v_ w_ ⟨rfl, rfl⟩ -
        refine am_eq_r (q' := (118, [some (.ref 19), some (.int (-1))], [.int (nI (skW n b (k + 1))), .ref 19], wd C (upd (upd Y.1 3 (nI (sy + 1))) 6 (nI (k + 1)), Y.2) og)) rfl ?_
        refine am_steps_r ok_M_read 2 (q' := (34, [some (.ref 19), some (.int (-1))], [], wd C (upd (upd Y.1 3 (nI (sy + 1))) 6 (nI (skW n b (k + 1))), Y.2) og)) rfl ?_
        refine am_drop_r [1] (L' := [some (.ref 19), none]) rfl ?_
        refine hP (upd (upd Y.1 3 (nI (sy + 1))) 6 (nI (skW n b (k + 1))), Y.2) ⟨hT, rfl, hO, vsY_ar hB.2.2.2.1 rfl rfl (fun _ _ _ => rfl) rfl, rfl⟩ (skW_le n b (show k + 1 ≤ n by omega)).2 post (fun vr w' hw => hp vr w' ?_)
        obtain ⟨q1, Y3, q2, q3, q4, q5⟩ := hw
        exact ⟨q1, Y3, q2, q3, q4, wrY_tr (show wrY Y (upd (upd Y.1 3 (nI (sy + 1))) 6 (nI (skW n b (k + 1))), Y.2) from ⟨rfl, rfl, rfl, rfl, rfl, rfl, rfl⟩) q5⟩
      · skip
        have htn : t ≤ n := thW_le (by omega) hth
        rw [hth] at hpr
        refine am_eq_r (q' := (62, [some (.ref 19), none], [.int (nI t)], wd C Y og)) rfl ?_
        refine am_steps_r ok_M_read 5 (q' := (bif decide ((nI t) = (-1)) then 89 else 72, [some (.ref 19), some (.int (nI t))], [], wd C Y og)) rfl ?_
        refine am_br_r (fun h_5 => ?_) (fun h_5 => ?_)
        · skip
          exact absurd h_5 (nI_nm (show t < 2 ^ 31 by omega))
        · skip
          refine am_steps_r ok_M_read 3 (q' := (75, [some (.ref 19), some (.int (nI t))], [.int 3, .int (nI t), .ref 19], wd C Y og)) rfl ?_
          refine am_callV_r (As := [.int (nI t), .int 3]) (rest := []) ok_M_read rfl rfl ok_M_isWord oi_M_isWord lk_6_182 (Or.inl ⟨_, _, _, rfl, rfl, rfl⟩) rfl rfl (Nat.le_of_ble_eq_true rfl) (c_M_isWord_3 _ C Y og n b hT t (by omega)) ?_
          rintro v_ w_ ⟨rfl, rfl⟩ -
          refine am_eq_r (q' := (78, [some (.ref 19), some (.int (nI t))], [.int (bz (wdA b st_0 t))], wd C Y og)) rfl ?_
          refine am_steps_r ok_M_read 1 (q' := (bif decide ((bz (wdA b st_0 t)) = 0) then 89 else 81, [some (.ref 19), some (.int (nI t))], [], wd C Y og)) rfl ?_
          refine am_bz_r (fun h_7 => ?_) (fun h_7 => ?_)
          · skip
            rw [show (match some t with | none => (none : Option Nat) | some t => if wdA b st_0 t = true then some t else none) = some t from if_pos h_7] at hpr
            exact absurd hpr (by simp)
          · skip
            refine am_steps_r ok_M_read 16 (q' := (115, [some (.ref 19), some (.int (nI t))], [.int ((Y.1 6) + 1), .ref 19, .ref 19], wd C (upd (upd Y.1 3 ((Y.1 3) + 1)) 6 ((Y.1 6) + 1), Y.2) og)) rfl ?_
            rw [show (Y.1 3 : Int32) = nI sy from hsy]
            rw [show ((nI sy) + 1 : Int32) = nI (sy + 1) from nI_add sy 1]
            rw [show (Y.1 6 : Int32) = nI k from h6]
            rw [show ((nI k) + 1 : Int32) = nI (k + 1) from nI_add k 1]
            refine am_callV_r (As := [.int (nI (k + 1))]) (rest := [.ref 19]) ok_M_read rfl rfl ok_M_behindWhite oi_M_behindWhite lk_6_127 (Or.inl ⟨_, _, _, rfl, rfl, rfl⟩) rfl rfl (Nat.le_of_ble_eq_true rfl) (c_M_behindWhite _ C (upd (upd Y.1 3 (nI (sy + 1))) 6 (nI (k + 1)), Y.2) og n b (show tpY (upd (upd Y.1 3 (nI (sy + 1))) 6 (nI (k + 1)), Y.2) n b from hT) (k + 1) (by omega)) ?_
            rintro v_ w_ ⟨rfl, rfl⟩ -
            refine am_eq_r (q' := (118, [some (.ref 19), some (.int (nI t))], [.int (nI (skW n b (k + 1))), .ref 19], wd C (upd (upd Y.1 3 (nI (sy + 1))) 6 (nI (k + 1)), Y.2) og)) rfl ?_
            refine am_steps_r ok_M_read 2 (q' := (34, [some (.ref 19), some (.int (nI t))], [], wd C (upd (upd Y.1 3 (nI (sy + 1))) 6 (nI (skW n b (k + 1))), Y.2) og)) rfl ?_
            refine am_drop_r [1] (L' := [some (.ref 19), none]) rfl ?_
            refine hP (upd (upd Y.1 3 (nI (sy + 1))) 6 (nI (skW n b (k + 1))), Y.2) ⟨hT, rfl, hO, vsY_ar hB.2.2.2.1 rfl rfl (fun _ _ _ => rfl) rfl, rfl⟩ (skW_le n b (show k + 1 ≤ n by omega)).2 post (fun vr w' hw => hp vr w' ?_)
            obtain ⟨q1, Y3, q2, q3, q4, q5⟩ := hw
            exact ⟨q1, Y3, q2, q3, q4, wrY_tr (show wrY Y (upd (upd Y.1 3 (nI (sy + 1))) 6 (nI (skW n b (k + 1))), Y.2) from ⟨rfl, rfl, rfl, rfl, rfl, rfl, rfl⟩) q5⟩
set_option maxHeartbeats 4000000 in
set_option maxRecDepth 100000 in
theorem tyr_2 (d : Nat) (n : Nat) (b : Nat → Int32) (C : wd_C) (og : Nat → Int64) : Tp2 n b (tyP l D cA ad fm d n b C og) := by
  intro k noo E nv u V sy s' t r hkl hnoo hpr ht3 hkt hgd hob hR hfx hP Y hB hkn post hp
  have hkn : k ≤ n := hkn
  have hpr2 := hpr
  rw [prW_th0 hB.1.2.2.2.1 hkn] at hpr2
  obtain ⟨hth, hwt⟩ : thW n b k = some t ∧ wdA b st_0 t = true := by
    rcases hq : thW n b k with _ | t2
    · rw [hq] at hpr2; cases hpr2
    · rw [hq] at hpr2
      by_cases hw : wdA b st_0 t2 = true
      · rw [show (match some t2 with | none => (none : Option Nat) | some t => if wdA b st_0 t = true then some t else none) = some t2 from if_pos hw] at hpr2; cases hpr2; exact ⟨rfl, hw⟩
      · rw [show (match some t2 with | none => (none : Option Nat) | some t => if wdA b st_0 t = true then some t else none) = none from if_neg hw] at hpr2; cases hpr2
  have hT : tpY Y n b := hB.1
  have h6 : Y.1 6 = nI k := hB.2.1
  have hO : obY Y noo E := hB.2.2.1
  have hsy : Y.1 3 = nI sy := hB.2.2.2.2
  have hn := hT.2.1
  have hn20 := hO.2.1
  refine am_steps_r ok_M_read 5 (q' := (bif decide ((Y.1 1) ≤ (Y.1 6)) then 124 else 45, [some (.ref 19), none], [], wd C Y og)) rfl ?_
  rw [show (Y.1 6 : Int32) = nI k from h6]
  rw [show (Y.1 1 : Int32) = nI n from hT.1]
  refine am_br_r (fun h_1 => ?_) (fun h_1 => ?_)
  · skip
    have h_1 : n ≤ k := (nI_leI (show n < 2 ^ 31 by omega) (show k < 2 ^ 31 by omega)).mp h_1
    exfalso; omega
  · skip
    have h_1 : ¬ n ≤ k := fun z => h_1 ((nI_leI (show n < 2 ^ 31 by omega) (show k < 2 ^ 31 by omega)).mpr z)
    refine am_steps_r ok_M_read 4 (q' := (bif decide (20 ≤ (Y.1 2)) then 65 else 54, [some (.ref 19), none], [], wd C Y og)) rfl ?_
    rw [show (Y.1 2 : Int32) = nI noo from hO.1]
    refine am_br_r (fun h_2 => ?_) (fun h_2 => ?_)
    · skip
      have h_2 : 20 ≤ noo := (nI_leI (show 20 < 2 ^ 31 by omega) (show noo < 2 ^ 31 by omega)).mp h_2
      exfalso; omega
    · skip
      have h_2 : ¬ 20 ≤ noo := fun z => h_2 ((nI_leI (show 20 < 2 ^ 31 by omega) (show noo < 2 ^ 31 by omega)).mpr z)
      refine am_steps_r ok_M_read 3 (q' := (59, [some (.ref 19), none], [.int (Y.1 6), .ref 19], wd C Y og)) rfl ?_
      rw [show (Y.1 6 : Int32) = nI k from h6]
      refine am_callV_r (As := [.int (nI k)]) (rest := []) ok_M_read rfl rfl ok_M_thirdWord oi_M_thirdWord lk_6_188 (Or.inl ⟨_, _, _, rfl, rfl, rfl⟩) rfl rfl (Nat.le_of_ble_eq_true rfl) (c_M_thirdWord _ C Y og n b hT k (by omega)) ?_
      rintro v_ w_ ⟨rfl, rfl⟩ -
      rw [hth]
      refine am_eq_r (q' := (62, [some (.ref 19), none], [.int (nI t)], wd C Y og)) rfl ?_
      refine am_steps_r ok_M_read 5 (q' := (bif decide ((nI t) = (-1)) then 89 else 72, [some (.ref 19), some (.int (nI t))], [], wd C Y og)) rfl ?_
      refine am_br_r (fun h_3 => ?_) (fun h_3 => ?_)
      · skip
        exact absurd h_3 (nI_nm (show t < 2 ^ 31 by omega))
      · skip
        refine am_steps_r ok_M_read 3 (q' := (75, [some (.ref 19), some (.int (nI t))], [.int 3, .int (nI t), .ref 19], wd C Y og)) rfl ?_
        refine am_callV_r (As := [.int (nI t), .int 3]) (rest := []) ok_M_read rfl rfl ok_M_isWord oi_M_isWord lk_6_182 (Or.inl ⟨_, _, _, rfl, rfl, rfl⟩) rfl rfl (Nat.le_of_ble_eq_true rfl) (c_M_isWord_3 _ C Y og n b hT t (by omega)) ?_
        rintro v_ w_ ⟨rfl, rfl⟩ -
        refine am_eq_r (q' := (78, [some (.ref 19), some (.int (nI t))], [.int (bz (wdA b st_0 t))], wd C Y og)) rfl ?_
        refine am_steps_r ok_M_read 1 (q' := (bif decide ((bz (wdA b st_0 t)) = 0) then 89 else 81, [some (.ref 19), some (.int (nI t))], [], wd C Y og)) rfl ?_
        refine am_bz_r (fun h_5 => ?_) (fun h_5 => ?_)
        · skip
          refine am_steps_r ok_M_read 2 (q' := (83, [some (.ref 19), some (.int (nI t))], [.int (nI t), .ref 19], wd C Y og)) rfl ?_
          refine am_callV_r (As := [.int (nI t)]) (rest := []) ok_M_read rfl rfl ok_M_readObject oi_M_readObject lk_6_260 (Or.inl ⟨_, _, _, rfl, rfl, rfl⟩) rfl rfl (Nat.le_of_ble_eq_true rfl) (c_M_readObject _ C Y og n b k noo E nv u V sy hB hnoo t hpr ht3 hkt hgd hob r hR hfx) ?_
          rintro v_ w_ ⟨rfl, Y2, rfl, hF⟩ -
          obtain ⟨k1, e6, hk1, hB2, hs1⟩ := bsY_obj hB hF (fin_up hT.2.2.2.1 hR hfx)
          have hT := hF.1
          refine am_eq_r (q' := (86, [some (.ref 19), some (.int (nI t))], [], wd C Y2 og)) rfl ?_
          refine am_steps_r ok_M_read 5 (q' := (115, [some (.ref 19), some (.int (nI t))], [.int (Y2.1 6), .ref 19, .ref 19], wd C Y2 og)) rfl ?_
          rw [show (Y2.1 6 : Int32) = nI k1 from e6]
          refine am_callV_r (As := [.int (nI k1)]) (rest := [.ref 19]) ok_M_read rfl rfl ok_M_behindWhite oi_M_behindWhite lk_6_127 (Or.inl ⟨_, _, _, rfl, rfl, rfl⟩) rfl rfl (Nat.le_of_ble_eq_true rfl) (c_M_behindWhite _ C Y2 og n b (show tpY Y2 n b from hT) k1 (by omega)) ?_
          rintro v_ w_ ⟨rfl, rfl⟩ -
          refine am_eq_r (q' := (118, [some (.ref 19), some (.int (nI t))], [.int (nI (skW n b k1)), .ref 19], wd C Y2 og)) rfl ?_
          refine am_steps_r ok_M_read 2 (q' := (34, [some (.ref 19), some (.int (nI t))], [], wd C (upd Y2.1 6 (nI (skW n b k1)), Y2.2) og)) rfl ?_
          refine am_drop_r [1] (L' := [some (.ref 19), none]) rfl ?_
          refine hP (upd Y2.1 6 (nI (skW n b k1)), Y2.2) hB2 (by rw [hs1]; exact (skW_le n b hk1).2) post (fun vr w' hw => hp vr w' ?_)
          obtain ⟨q1, Y3, q2, q3, q4, q5⟩ := hw
          exact ⟨q1, Y3, q2, q3, q4.trans hF.2.2.1, wrY_tr (show wrY Y (upd Y2.1 6 (nI (skW n b k1)), Y2.2) from hF.2.2.2.1) q5⟩
        · skip
          rw [hwt] at h_5
          cases h_5
set_option maxHeartbeats 4000000 in
set_option maxRecDepth 100000 in
theorem c_M_read (d : Nat) (C : wd_C) (Y : wd_Y) (og : Nat → Int64) (n : Nat) (b : Nat → Int32) (hT : tpY Y n b) (E0 : Nat → Nat → Int32) (V0 : VT) (s' : TS) (hTp : Tp n b (skW n b 0, 0, E0, 0, 0, V0, 0) s') : am_Mt l D cA ad fm (d + 9) m_M_read [.ref 19] (wd C Y og) (fun vr w' => vr = some (.int (nI s'.2.1)) ∧ ∃ Y' : wd_Y, w' = wd C Y' og ∧ bsY Y' n b s' ∧ Y'.1 0 = 0 ∧ wrY Y Y') := by
  have hn := hT.2.1
  refine am_mt ok_M_read (by simp [am_arg, Value.category, m_M_read, am_ml]) ?_
  refine am_eq_r (q' := (0, [some (.ref 19), none], [], wd C Y og)) rfl ?_
  refine am_steps_r ok_M_read 18 (q' := (28, [some (.ref 19), none], [.int 0, .ref 19, .ref 19], wd C (upd (upd (upd (upd (upd Y.1 0 0) 2 0) 3 0) 4 0) 5 0, Y.2) og)) rfl ?_
  refine am_callV_r (As := [.int 0]) (rest := [.ref 19]) ok_M_read rfl rfl ok_M_behindWhite oi_M_behindWhite lk_6_127 (Or.inl ⟨_, _, _, rfl, rfl, rfl⟩) rfl rfl (Nat.le_of_ble_eq_true rfl) (c_M_behindWhite _ C (upd (upd (upd (upd (upd Y.1 0 0) 2 0) 3 0) 4 0) 5 0, Y.2) og n b (show tpY (upd (upd (upd (upd (upd Y.1 0 0) 2 0) 3 0) 4 0) 5 0, Y.2) n b from hT) 0 (by omega)) ?_
  rintro v_ w_ ⟨rfl, rfl⟩ -
  refine am_eq_r (q' := (31, [some (.ref 19), none], [.int (nI (skW n b 0)), .ref 19], wd C (upd (upd (upd (upd (upd Y.1 0 0) 2 0) 3 0) 4 0) 5 0, Y.2) og)) rfl ?_
  refine am_steps_r ok_M_read 1 (q' := (34, [some (.ref 19), none], [], wd C (upd (upd (upd (upd (upd (upd Y.1 0 0) 2 0) 3 0) 4 0) 5 0) 6 (nI (skW n b 0)), Y.2) og)) rfl ?_
  refine am_eq_r (q' := (34, [some (.ref 19), none], [], wd C (upd (upd (upd (upd (upd (upd Y.1 0 0) 2 0) 3 0) 4 0) 5 0) 6 (nI (skW n b 0)), Y.2) og)) rfl ?_
  have hsk := skW_le n b (Nat.zero_le n)
  refine hTp (tyP l D cA ad fm d n b C og) ⟨tyr_0 d n b C og, tyr_1 d n b C og, tyr_2 d n b C og⟩ (upd (upd (upd (upd (upd (upd Y.1 0 0) 2 0) 3 0) 4 0) 5 0) 6 (nI (skW n b 0)), Y.2) ⟨hT, rfl, ⟨rfl, Nat.zero_le _, fun i hi => absurd hi (Nat.not_lt_zero _)⟩, ⟨⟨rfl, Nat.zero_le _, rfl, Nat.zero_le _⟩, fun v hv => absurd hv (Nat.not_lt_zero _)⟩, rfl⟩ hsk.2 _ (fun vr w' hw => ?_)
  obtain ⟨q1, Y3, q2, q3, q4, q5⟩ := hw
  exact ⟨q1, Y3, q2, q3, q4, ⟨q5.1, q5.2.1, q5.2.2.1, q5.2.2.2.1, q5.2.2.2.2.1, q5.2.2.2.2.2.1, q5.2.2.2.2.2.2⟩⟩
end C92
