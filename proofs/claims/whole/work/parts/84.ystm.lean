/-! the reference reads a stream: its end; printed by wip/gen/g84.py -/
section C84
variable {l : Launch} {D : va_G} {cA : Nat → ClassId} {ad : Nat → Nat} {fm : Value}
set_option maxHeartbeats 2000000 in
set_option maxRecDepth 100000 in
theorem lp_M_readStream_471 (d : Nat) (C : wd_C) (og : Nat → Int64) (n : Nat) (b : Nat → Int32) (Y0 : wd_Y) (hT0 : tpY Y0 n b) (nv u : Nat) (V : VT) (hok : vok nv V) (dc w : Nat) (hdc : dc < nv) (hfr : fre nv V dc) (tl : Int64) (f : Nat) (huf : u ≤ f) (no2 : Int32) (len y : Nat) (hfl : f + len ≤ n) (hl4 : len ≤ 400) (xx : Int32)  : ∀ (fu : Nat) (post : Option Value → am_W → Prop) (Y : wd_Y) (i : Nat), (smE Y0 Y nv u V no2) → (Y.1 10 = nI len) → (∀ j, j < i → Y.2.1 10 j = b (f + j)) → (i ≤ len) → (∀ w', (∃ Y' : wd_Y, w' = wd C Y' og ∧ ryI Y' n b y (nv + 1) (u + len) (vtS V nv dc (tpL b f len)) no2 ∧ fY Y0 Y' nv) → post (some (.int (nI nv))) w') → len - i < fu → am_Rn l D cA ad fm (d + 2) m_M_readStream (wd C Y og).length post (471, [some (.ref 19), some (.int (nI dc)), some (.int (nI w)), some (.int (nI nv)), none, some (.int (nI f)), some (.long tl), none, some (.int xx), some (.int (nI y)), some (.int (nI i))], [], wd C Y og) := by
  intro fu
  induction fu with
  | zero => intro post Y i hE hg10 hsc hi hpo hfu; exact absurd hfu (Nat.not_lt_zero _)
  | succ fu ih =>
    intro post Y i hE hg10 hsc hi hpo hfu
    have hT := tpY_f hT0 hE.2.1
    have hn := hT.2.1
    have hnv := hE.1.1.2.1
    have hap : (yKeep Y nv u len).2.1 3 nv = -1 := by have h9 := (hE.1.2 nv (by omega)).2.2.2.2.1; rw [vtLeaf_ks] at h9; exact h9
    refine am_steps_r ok_M_readStream 4 (q' := (bif decide ((Y.1 10) ≤ (nI i)) then 503 else 480, [some (.ref 19), some (.int (nI dc)), some (.int (nI w)), some (.int (nI nv)), none, some (.int (nI f)), some (.long tl), none, some (.int xx), some (.int (nI y)), some (.int (nI i))], [], wd C Y og)) rfl ?_
    rw [show (Y.1 10 : Int32) = nI len from hg10]
    refine am_br_r (fun h_1 => ?_) (fun h_1 => ?_)
    · skip
      have h_1 : len ≤ i := (nI_leI (show len < 2 ^ 31 by omega) (show i < 2 ^ 31 by omega)).mp h_1
      refine am_steps_r ok_M_readStream 3 (q' := (506, [some (.ref 19), some (.int (nI dc)), some (.int (nI w)), some (.int (nI nv)), none, some (.int (nI f)), some (.long tl), none, some (.int xx), some (.int (nI y)), some (.int (nI i))], [.int (nI w), .int (nI nv), .ref 19], wd C Y og)) rfl ?_
      refine am_callV_r (As := [.int (nI nv), .int (nI w)]) (rest := []) ok_M_readStream rfl rfl ok_M_keepBytes oi_M_keepBytes lk_6_161 (Or.inl ⟨_, _, _, rfl, rfl, rfl⟩) rfl rfl (Nat.le_of_ble_eq_true rfl) (c_M_keepBytes _ C Y og (nv + 1) u hE.1.1 nv len (by omega) hg10 (by omega) (by omega) (nI w)) ?_
      rintro v_ w_ ⟨rfl, rfl⟩ -
      refine am_eq_r (q' := (509, [some (.ref 19), some (.int (nI dc)), some (.int (nI w)), some (.int (nI nv)), none, some (.int (nI f)), some (.long tl), none, some (.int xx), some (.int (nI y)), some (.int (nI i))], [.int 1], wd C (yKeep Y nv u len) og)) rfl ?_
      refine am_steps_r ok_M_readStream 4 (q' := (517, [some (.ref 19), some (.int (nI dc)), some (.int (nI w)), some (.int (nI nv)), none, some (.int (nI f)), some (.long tl), none, some (.int xx), some (.int (nI y)), some (.int (nI i))], [.int (nI dc), .int (nI nv), .ref 19], wd C (yKeep Y nv u len) og)) rfl ?_
      refine am_callV_r (As := [.int (nI nv), .int (nI dc)]) (rest := []) ok_M_readStream rfl rfl ok_M_append oi_M_append lk_6_200 (Or.inl ⟨_, _, _, rfl, rfl, rfl⟩) rfl rfl (Nat.le_of_ble_eq_true rfl) (c_M_append_n _ C (yKeep Y nv u len) og nv dc (by omega) (by omega) hap) ?_
      rintro v_ w_ ⟨rfl, rfl⟩ -
      refine am_eq_r (q' := (520, [some (.ref 19), some (.int (nI dc)), some (.int (nI w)), some (.int (nI nv)), none, some (.int (nI f)), some (.long tl), none, some (.int xx), some (.int (nI y)), some (.int (nI i))], [], wd C (yApp (yKeep Y nv u len) nv dc none) og)) rfl ?_
      refine am_steps_r ok_M_readStream 4 (q' := (527, [some (.ref 19), some (.int (nI dc)), some (.int (nI w)), some (.int (nI nv)), none, some (.int (nI f)), some (.long tl), none, some (.int xx), some (.int (nI y)), some (.int (nI i))], [.int (nI nv)], wd C (upd ((yApp (yKeep Y nv u len) nv dc none).1) 6 (nI y), (yApp (yKeep Y nv u len) nv dc none).2) og)) rfl ?_
      refine am_iret_r ok_M_readStream rfl rfl rfl ?_
      have e : i = len := by omega
      subst e
      exact hpo _ ⟨_, rfl, syQ_ok hT0 hok hE hsc (by omega) hdc hfr y⟩
    · skip
      have h_1 : ¬ len ≤ i := fun z => h_1 ((nI_leI (show len < 2 ^ 31 by omega) (show i < 2 ^ 31 by omega)).mpr z)
      have hrd := hT.2.2.1 (f + i) (by omega)
      refine am_steps_r ok_M_readStream 8 (q' := (495, [some (.ref 19), some (.int (nI dc)), some (.int (nI w)), some (.int (nI nv)), none, some (.int (nI f)), some (.long tl), none, some (.int xx), some (.int (nI y)), some (.int (nI i))], [.int ((nI f) + (nI i)), .ref 20, .int (nI i), .ref 31], wd C Y og)) rfl ?_
      rw [show ((nI f) + (nI i) : Int32) = nI (f + i) from nI_add f i]
      refine am_iald_r ok_M_readStream rfl (w := wd C Y og) (f := Y.2.1 0) rfl rfl (pk_in (f + i) 1600 (by omega)) ?_
      rw [nI_clamp (show (f + i) < 2 ^ 31 by omega)]
      rw [hrd]
      refine am_iast_r ok_M_readStream rfl (w := wd C Y og) (f := Y.2.1 10) rfl rfl (pk_in i 420 (by omega)) ?_
      rw [nI_clamp (show i < 2 ^ 31 by omega)]
      refine am_eq_r (q' := (497, [some (.ref 19), some (.int (nI dc)), some (.int (nI w)), some (.int (nI nv)), none, some (.int (nI f)), some (.long tl), none, some (.int xx), some (.int (nI y)), some (.int (nI i))], [], wd C (Y.1, wd_u Y.2.1 10 (upd (Y.2.1 10) i (b (f + i))), Y.2.2) og)) rfl ?_
      refine am_steps_r ok_M_readStream 2 (q' := (471, [some (.ref 19), some (.int (nI dc)), some (.int (nI w)), some (.int (nI nv)), none, some (.int (nI f)), some (.long tl), none, some (.int xx), some (.int (nI y)), some (.int ((nI i) + 1))], [], wd C (Y.1, wd_u Y.2.1 10 (upd (Y.2.1 10) i (b (f + i))), Y.2.2) og)) rfl ?_
      rw [show ((nI i) + 1 : Int32) = nI (i + 1) from nI_add i 1]
      refine ih post (Y.1, wd_u Y.2.1 10 (upd (Y.2.1 10) i (b (f + i))), Y.2.2) (i + 1) ⟨vsY_ar hE.1 rfl rfl (fun j h1 h2 => wd_u_ne (by omega)) rfl, hE.2.1, hE.2.2.1, hE.2.2.2.1, hE.2.2.2.2⟩ hg10 (fun j hj => ?_) (by omega) hpo (by omega)
      show upd (Y.2.1 10) i (b (f + i)) j = _
      by_cases e : j = i
      · rw [e, upd, if_pos rfl]
      · rw [upd, if_neg e]; exact hsc j (by omega)
set_option maxHeartbeats 2000000 in
set_option maxRecDepth 100000 in
theorem tl_M_readStream_431 (d : Nat) (C : wd_C) (og : Nat → Int64) (n : Nat) (b : Nat → Int32) (Y0 : wd_Y) (hT0 : tpY Y0 n b) (nv u : Nat) (V : VT) (hok : vok nv V) (dc w : Nat) (hdc : dc < nv) (hfr : fre nv V dc) (tl : Int64) (f : Nat) (huf : u ≤ f) (Y : wd_Y) (no bit : Int32) (hE : smE Y0 Y nv u V (no ||| bit)) (len y : Nat) (hfl : f + len ≤ n) (post : Option Value → am_W → Prop) (hpo : ∀ vr w', syQ Y0 C og n b nv u V no dc (stE b w f len y bit) vr w' → post vr w') : am_Rn l D cA ad fm (d + 2) m_M_readStream (wd C Y og).length post (431, [some (.ref 19), some (.int (nI dc)), some (.int (nI w)), some (.int (nI nv)), none, some (.int (nI f)), some (.long tl), none, some (.int (nI (f + len))), some (.int (nI y)), none], [], wd C Y og) := by
  have hT := tpY_f hT0 hE.2.1
  have hn := hT.2.1
  have hnv := hE.1.1.2.1
  refine am_steps_r ok_M_readStream 3 (q' := (bif decide ((nI (f + len)) = (-1)) then 448 else 437, [some (.ref 19), some (.int (nI dc)), some (.int (nI w)), some (.int (nI nv)), none, some (.int (nI f)), some (.long tl), none, some (.int (nI (f + len))), some (.int (nI y)), none], [], wd C Y og)) rfl ?_
  refine am_br_r (fun h_1 => ?_) (fun h_1 => ?_)
  · skip
    exact absurd h_1 (nI_nm (show (f + len) < 2 ^ 31 by omega))
  · skip
    refine am_steps_r ok_M_readStream 5 (q' := (bif decide (((nI (f + len)) - (nI f)) ≤ 400) then 459 else 448, [some (.ref 19), some (.int (nI dc)), some (.int (nI w)), some (.int (nI nv)), none, some (.int (nI f)), some (.long tl), none, some (.int (nI (f + len))), some (.int (nI y)), none], [], wd C Y og)) rfl ?_
    rw [show ((nI (f + len)) - (nI f) : Int32) = nI len from by rw [pk_sub (by omega)]; congr 1; omega]
    refine am_br_r (fun h_2 => ?_) (fun h_2 => ?_)
    · skip
      have h_2 : len ≤ 400 := (nI_leI (show len < 2 ^ 31 by omega) (show 400 < 2 ^ 31 by omega)).mp h_2
      refine am_steps_r ok_M_readStream 7 (q' := (471, [some (.ref 19), some (.int (nI dc)), some (.int (nI w)), some (.int (nI nv)), none, some (.int (nI f)), some (.long tl), none, some (.int (nI (f + len))), some (.int (nI y)), some (.int 0)], [], wd C (upd Y.1 10 ((nI (f + len)) - (nI f)), Y.2) og)) rfl ?_
      rw [show ((nI (f + len)) - (nI f) : Int32) = nI len from by rw [pk_sub (by omega)]; congr 1; omega]
      refine am_eq_r (q' := (471, [some (.ref 19), some (.int (nI dc)), some (.int (nI w)), some (.int (nI nv)), none, some (.int (nI f)), some (.long tl), none, some (.int (nI (f + len))), some (.int (nI y)), some (.int (nI 0))], [], wd C (upd Y.1 10 (nI len), Y.2) og)) rfl ?_
      refine lp_M_readStream_471 d C og n b Y0 hT0 nv u V hok dc w hdc hfr tl f huf (no ||| bit) len y hfl (by omega) _ 402 _ (upd Y.1 10 (nI len), Y.2) 0 hE rfl (fun j hj => absurd hj (Nat.not_lt_zero _)) (by omega) (fun w' hw => ?_) (by omega)
      obtain ⟨Y1, e1, h1, h2⟩ := hw
      refine hpo _ _ ?_
      rw [stE, if_neg (by omega)]
      exact ⟨rfl, Y1, e1, by rw [tpL_len]; exact h1, h2⟩
    · skip
      have h_2 : ¬ len ≤ 400 := fun z => h_2 ((nI_leI (show len < 2 ^ 31 by omega) (show 400 < 2 ^ 31 by omega)).mpr z)
      refine am_steps_r ok_M_readStream 3 (q' := (452, [some (.ref 19), some (.int (nI dc)), some (.int (nI w)), some (.int (nI nv)), none, some (.int (nI f)), some (.long tl), none, some (.int (nI (f + len))), some (.int (nI y)), none], [.int (nI w), .int 8, .ref 19], wd C Y og)) rfl ?_
      refine am_callV_r (As := [.int 8, .int (nI w)]) (rest := []) ok_M_readStream rfl rfl ok_M_fails oi_M_fails lk_6_139 (Or.inl ⟨_, _, _, rfl, rfl, rfl⟩) rfl rfl (Nat.le_of_ble_eq_true rfl) (c_M_fails _ C Y og 8 (nI w)) ?_
      rintro v_ w_ ⟨rfl, rfl⟩ -
      refine am_eq_r (q' := (455, [some (.ref 19), some (.int (nI dc)), some (.int (nI w)), some (.int (nI nv)), none, some (.int (nI f)), some (.long tl), none, some (.int (nI (f + len))), some (.int (nI y)), none], [.int 0], wd C (upd (upd Y.1 7 8) 8 (nI w), Y.2) og)) rfl ?_
      refine am_steps_r ok_M_readStream 2 (q' := (458, [some (.ref 19), some (.int (nI dc)), some (.int (nI w)), some (.int (nI nv)), none, some (.int (nI f)), some (.long tl), none, some (.int (nI (f + len))), some (.int (nI y)), some (.int 0)], [.int (-1)], wd C (upd (upd Y.1 7 8) 8 (nI w), Y.2) og)) rfl ?_
      refine am_iret_r ok_M_readStream rfl rfl rfl ?_
      refine hpo _ _ ?_
      rw [stE, if_pos (by omega)]
      exact syQ_bad hE 8 w
set_option maxHeartbeats 2000000 in
set_option maxRecDepth 100000 in
theorem tl_M_readStream_431n (d : Nat) (C : wd_C) (og : Nat → Int64) (n : Nat) (b : Nat → Int32) (Y0 : wd_Y) (hT0 : tpY Y0 n b) (nv u : Nat) (V : VT) (hok : vok nv V) (dc w : Nat) (hdc : dc < nv) (hfr : fre nv V dc) (tl : Int64) (f : Nat) (huf : u ≤ f) (Y : wd_Y) (no bit : Int32) (hE : smE Y0 Y nv u V (no ||| bit)) (yy : Int32) (post : Option Value → am_W → Prop) (hpo : ∀ vr w', syQ Y0 C og n b nv u V no dc (.inl (8, w, bit)) vr w' → post vr w') : am_Rn l D cA ad fm (d + 2) m_M_readStream (wd C Y og).length post (431, [some (.ref 19), some (.int (nI dc)), some (.int (nI w)), some (.int (nI nv)), none, some (.int (nI f)), some (.long tl), none, some (.int (-1)), some (.int yy), none], [], wd C Y og) := by
  have hT := tpY_f hT0 hE.2.1
  have hn := hT.2.1
  refine am_steps_r ok_M_readStream 6 (q' := (452, [some (.ref 19), some (.int (nI dc)), some (.int (nI w)), some (.int (nI nv)), none, some (.int (nI f)), some (.long tl), none, some (.int (-1)), some (.int yy), none], [.int (nI w), .int 8, .ref 19], wd C Y og)) rfl ?_
  refine am_callV_r (As := [.int 8, .int (nI w)]) (rest := []) ok_M_readStream rfl rfl ok_M_fails oi_M_fails lk_6_139 (Or.inl ⟨_, _, _, rfl, rfl, rfl⟩) rfl rfl (Nat.le_of_ble_eq_true rfl) (c_M_fails _ C Y og 8 (nI w)) ?_
  rintro v_ w_ ⟨rfl, rfl⟩ -
  refine am_eq_r (q' := (455, [some (.ref 19), some (.int (nI dc)), some (.int (nI w)), some (.int (nI nv)), none, some (.int (nI f)), some (.long tl), none, some (.int (-1)), some (.int yy), none], [.int 0], wd C (upd (upd Y.1 7 8) 8 (nI w), Y.2) og)) rfl ?_
  refine am_steps_r ok_M_readStream 2 (q' := (458, [some (.ref 19), some (.int (nI dc)), some (.int (nI w)), some (.int (nI nv)), none, some (.int (nI f)), some (.long tl), none, some (.int (-1)), some (.int yy), some (.int 0)], [.int (-1)], wd C (upd (upd Y.1 7 8) 8 (nI w), Y.2) og)) rfl ?_
  refine am_iret_r ok_M_readStream rfl rfl rfl ?_
  exact hpo _ _ (syQ_bad hE 8 w)
end C84
