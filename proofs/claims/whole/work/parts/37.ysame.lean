/-! the reference: values alike, keys; printed by wip/gen/g37.py -/
section C37
variable {l : Launch} {D : va_G} {cA : Nat → ClassId} {ad : Nat → Nat} {fm : Value}
set_option maxHeartbeats 4000000 in
set_option maxRecDepth 100000 in
theorem lp_M_areSame_19 (d : Nat) (C : wd_C) (Y : wd_Y) (og : Nat → Int64) (nv u : Nat) (hV : vsy Y nv u) (v w : Nat) (hv : v < nv) (hw : w < nv) (b1 b2 : List Int32) (hb1 : ybt Y u b1 v) (hb2 : ybt Y u b2 w) (he : b1.length = b2.length) : ∀ (fu : Nat) (post : Option Value → am_W → Prop) (j : Nat), (j ≤ b1.length) →  post (some (.int (bz (decide (b1.drop j = b2.drop j))))) (wd C Y og) → b1.length - j < fu → am_Rn l D cA ad fm (d + 0) m_M_areSame (wd C Y og).length post (19, [some (.ref 19), some (.int (nI v)), some (.int (nI w)), some (.int (nI j))], [], wd C Y og) := by
  intro fu
  induction fu with
  | zero => intro post j hj hp hfu; exact absurd hfu (Nat.not_lt_zero _)
  | succ fu ih =>
    intro post j hj hp hfu
    have hv1 := hV.2.1
    have hv2 := hV.2.2.2
    obtain ⟨s1, a1, a2, a3, a4⟩ := hb1
    obtain ⟨s2, c1, c2, c3, c4⟩ := hb2
    refine am_steps_r ok_M_areSame 4 (q' := (25, [some (.ref 19), some (.int (nI v)), some (.int (nI w)), some (.int (nI j))], [.int (nI v), .ref 29, .int (nI j)], wd C Y og)) rfl ?_
    refine am_iald_r ok_M_areSame rfl (w := wd C Y og) (f := Y.2.1 8) rfl rfl (pk_in v 300 (by omega)) ?_
    rw [nI_clamp (show v < 2 ^ 31 by omega)]
    rw [a2]
    refine am_steps_r ok_M_areSame 1 (q' := (bif decide ((nI b1.length) ≤ (nI j)) then 66 else 29, [some (.ref 19), some (.int (nI v)), some (.int (nI w)), some (.int (nI j))], [], wd C Y og)) rfl ?_
    refine am_br_r (fun h_1 => ?_) (fun h_1 => ?_)
    · skip
      have h_1 : b1.length ≤ j := (nI_leI (show b1.length < 2 ^ 31 by omega) (show j < 2 ^ 31 by omega)).mp h_1
      refine am_steps_r ok_M_areSame 1 (q' := (67, [some (.ref 19), some (.int (nI v)), some (.int (nI w)), some (.int (nI j))], [.int 1], wd C Y og)) rfl ?_
      refine am_zret_r ok_M_areSame rfl rfl rfl rfl ?_
      rw [decide_eq_true (dr_end (b1 := b1) (b2 := b2) (j := j) (by omega) (by omega))] at hp
      exact hp
    · skip
      have h_1 : ¬ b1.length ≤ j := fun z => h_1 ((nI_leI (show b1.length < 2 ^ 31 by omega) (show j < 2 ^ 31 by omega)).mpr z)
      refine am_steps_r ok_M_areSame 5 (q' := (38, [some (.ref 19), some (.int (nI v)), some (.int (nI w)), some (.int (nI j))], [.int (nI v), .ref 28, .ref 30], wd C Y og)) rfl ?_
      refine am_iald_r ok_M_areSame rfl (w := wd C Y og) (f := Y.2.1 7) rfl rfl (pk_in v 300 (by omega)) ?_
      rw [nI_clamp (show v < 2 ^ 31 by omega)]
      rw [a1]
      refine am_steps_r ok_M_areSame 2 (q' := (41, [some (.ref 19), some (.int (nI v)), some (.int (nI w)), some (.int (nI j))], [.int ((nI s1) + (nI j)), .ref 30], wd C Y og)) rfl ?_
      rw [show ((nI s1) + (nI j) : Int32) = nI (s1 + j) from nI_add s1 j]
      refine am_iald_r ok_M_areSame rfl (w := wd C Y og) (f := Y.2.1 9) rfl rfl (pk_in (s1 + j) 2000 (by omega)) ?_
      rw [nI_clamp (show (s1 + j) < 2 ^ 31 by omega)]
      refine am_steps_r ok_M_areSame 5 (q' := (51, [some (.ref 19), some (.int (nI v)), some (.int (nI w)), some (.int (nI j))], [.int (nI w), .ref 28, .ref 30, .int (Y.2.1 9 (s1 + j))], wd C Y og)) rfl ?_
      refine am_iald_r ok_M_areSame rfl (w := wd C Y og) (f := Y.2.1 7) rfl rfl (pk_in w 300 (by omega)) ?_
      rw [nI_clamp (show w < 2 ^ 31 by omega)]
      rw [c1]
      refine am_steps_r ok_M_areSame 2 (q' := (54, [some (.ref 19), some (.int (nI v)), some (.int (nI w)), some (.int (nI j))], [.int ((nI s2) + (nI j)), .ref 30, .int (Y.2.1 9 (s1 + j))], wd C Y og)) rfl ?_
      rw [show ((nI s2) + (nI j) : Int32) = nI (s2 + j) from nI_add s2 j]
      refine am_iald_r ok_M_areSame rfl (w := wd C Y og) (f := Y.2.1 9) rfl rfl (pk_in (s2 + j) 2000 (by omega)) ?_
      rw [nI_clamp (show (s2 + j) < 2 ^ 31 by omega)]
      refine am_steps_r ok_M_areSame 1 (q' := (bif decide ((Y.2.1 9 (s1 + j)) = (Y.2.1 9 (s2 + j))) then 60 else 58, [some (.ref 19), some (.int (nI v)), some (.int (nI w)), some (.int (nI j))], [], wd C Y og)) rfl ?_
      refine am_br_r (fun h_2 => ?_) (fun h_2 => ?_)
      · skip
        refine am_steps_r ok_M_areSame 2 (q' := (19, [some (.ref 19), some (.int (nI v)), some (.int (nI w)), some (.int ((nI j) + 1))], [], wd C Y og)) rfl ?_
        rw [show ((nI j) + 1 : Int32) = nI (j + 1) from nI_add j 1]
        refine ih post (j + 1) (by omega) ?_ (by omega)
        rw [a4 j (by omega), c4 j (by omega)] at h_2
        rw [show decide (b1.drop j = b2.drop j) = decide (b1.drop (j + 1) = b2.drop (j + 1)) from decide_eq_decide.mpr ((dr_eq (by omega) (by omega)).trans ⟨fun z => z.2, fun z => ⟨by rw [gD_in (bs := b1) (e' := 0) (by omega), gD_in (bs := b2) (e' := 0) (by omega)]; exact h_2, z⟩⟩)] at hp
        exact hp
      · skip
        refine am_steps_r ok_M_areSame 1 (q' := (59, [some (.ref 19), some (.int (nI v)), some (.int (nI w)), some (.int (nI j))], [.int 0], wd C Y og)) rfl ?_
        refine am_zret_r ok_M_areSame rfl rfl rfl rfl ?_
        rw [a4 j (by omega), c4 j (by omega)] at h_2
        rw [decide_eq_false (fun z => h_2 (by rw [gD_in (bs := b1) (e := 0) (e' := -1) (by omega), gD_in (bs := b2) (e := 0) (e' := -1) (by omega)]; exact ((dr_eq (by omega) (by omega)).mp z).1))] at hp
        exact hp
set_option maxHeartbeats 4000000 in
set_option maxRecDepth 100000 in
theorem c_M_areSame (d : Nat) (C : wd_C) (Y : wd_Y) (og : Nat → Int64) (nv u : Nat) (hV : vsy Y nv u) (v w : Nat) (hv : v < nv) (hw : w < nv) (b1 b2 : List Int32) (hb1 : ybt Y u b1 v) (hb2 : ybt Y u b2 w)  : am_Mt l D cA ad fm (d + 0) m_M_areSame [.ref 19, .int (nI v), .int (nI w)] (wd C Y og) (fun vr w' => vr = some (.int (bz (decide (b1 = b2)))) ∧ w' = wd C Y og) := by
  have hv1 := hV.2.1
  have hv2 := hV.2.2.2
  obtain ⟨s1, a1, a2, a3, a4⟩ := hb1
  obtain ⟨s2, c1, c2, c3, c4⟩ := hb2
  refine am_mt ok_M_areSame (by simp [am_arg, Value.category, m_M_areSame, am_ml]) ?_
  refine am_eq_r (q' := (0, [some (.ref 19), some (.int (nI v)), some (.int (nI w)), none], [], wd C Y og)) rfl ?_
  refine am_steps_r ok_M_areSame 3 (q' := (5, [some (.ref 19), some (.int (nI v)), some (.int (nI w)), none], [.int (nI v), .ref 29], wd C Y og)) rfl ?_
  refine am_iald_r ok_M_areSame rfl (w := wd C Y og) (f := Y.2.1 8) rfl rfl (pk_in v 300 (by omega)) ?_
  rw [nI_clamp (show v < 2 ^ 31 by omega)]
  rw [a2]
  refine am_steps_r ok_M_areSame 3 (q' := (11, [some (.ref 19), some (.int (nI v)), some (.int (nI w)), none], [.int (nI w), .ref 29, .int (nI b1.length)], wd C Y og)) rfl ?_
  refine am_iald_r ok_M_areSame rfl (w := wd C Y og) (f := Y.2.1 8) rfl rfl (pk_in w 300 (by omega)) ?_
  rw [nI_clamp (show w < 2 ^ 31 by omega)]
  rw [c2]
  refine am_steps_r ok_M_areSame 1 (q' := (bif decide ((nI b1.length) = (nI b2.length)) then 17 else 15, [some (.ref 19), some (.int (nI v)), some (.int (nI w)), none], [], wd C Y og)) rfl ?_
  refine am_br_r (fun h_1 => ?_) (fun h_1 => ?_)
  · skip
    have h_1 : b1.length = b2.length := (nI_eq (show b1.length < 2 ^ 31 by omega) (show b2.length < 2 ^ 31 by omega)).mp h_1
    refine am_steps_r ok_M_areSame 2 (q' := (19, [some (.ref 19), some (.int (nI v)), some (.int (nI w)), some (.int 0)], [], wd C Y og)) rfl ?_
    exact lp_M_areSame_19 d C Y og nv u hV v w hv hw b1 b2 ⟨s1, a1, a2, a3, a4⟩ ⟨s2, c1, c2, c3, c4⟩ h_1 (b1.length + 1) _ 0 (Nat.zero_le _) ⟨rfl, rfl⟩ (by omega)
  · skip
    have h_1 : ¬ b1.length = b2.length := fun z => h_1 ((nI_eq (show b1.length < 2 ^ 31 by omega) (show b2.length < 2 ^ 31 by omega)).mpr z)
    refine am_steps_r ok_M_areSame 1 (q' := (16, [some (.ref 19), some (.int (nI v)), some (.int (nI w)), none], [.int 0], wd C Y og)) rfl ?_
    refine am_zret_r ok_M_areSame rfl rfl rfl rfl ?_
    exact ⟨by rw [decide_eq_false (fun z => h_1 (by rw [z]))]; rfl, rfl⟩
end C37
