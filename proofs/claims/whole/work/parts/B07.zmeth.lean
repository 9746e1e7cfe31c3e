/-! the law's wrappers; printed by wip/gen/gB07.py -/
theorem zx_cl : (Cond.classLink (pr_cn 10) 13 tr_A) ∈ lw_g ∧ (Cond.classLink (pr_cn 10) 19 tr_X) ∈ lw_g := ⟨List.mem_filter.mpr (by decide +kernel), List.mem_filter.mpr (by decide +kernel)⟩
section C107Z
variable {l : Launch} {D : va_G} {cA : Nat → ClassId} {ad : Nat → Nat} {fm : Value}
set_option maxHeartbeats 4000000 in
set_option maxRecDepth 100000 in
theorem z_feed (base d : Nat) (C : wd_C) (Y : wd_Y) (og : Nat → Int64) (x : Int32) (B : Int64) (r : Int32) (PP : wd_C → Prop) (hMt : am_Mt l D cA ad fm d m_S_feed [.ref 0, .int x, .long B] (wd C Y og) (fun vr w' => vr = some (.int r) ∧ ∃ C', w' = wd C' Y og ∧ PP C')) : am_Mz l D cA ad fm base (d + 1) m_Z_feed [(0, 11, 14, 13)] [.ref 0, .int x, .long B, .ref 37] (wd C Y og) (fun vr w' => vr = some (.int 0) ∧ ∃ C', w' = wd C' Y (vp_updL og 0 (r.toInt64)) ∧ PP C') := by
  refine am_mz td_Z_feed (by decide) rfl (by simp [am_arg, Value.category, m_Z_feed, am_ml]) ?_
  refine am_eq_r (q' := (0, [some (.ref 0), some (.int x), some (.long B), none, some (.ref 37), none], [], wd C Y og)) rfl ?_
  refine am_steps_z td_Z_feed 5 (q' := (6, [some (.ref 0), some (.int x), some (.long B), none, some (.ref 37), none], [.long B, .int x, .ref 0, .int 0, .ref 37], wd C Y og)) rfl ?_
  refine am_callV_z (As := [.int x, .long B]) (rest := [.int 0, .ref 37]) td_Z_feed rfl rfl ok_S_feed oi_S_feed lk_10_7 (Or.inl ⟨_, _, _, rfl, rfl, rfl⟩) rfl rfl (Nat.le_of_ble_eq_true rfl) hMt ?_
  rintro v_ w_ ⟨rfl, C9, rfl, hq⟩ -
  refine am_eq_r (q' := (9, [some (.ref 0), some (.int x), some (.long B), none, some (.ref 37), none], [.int r, .int 0, .ref 37], wd C9 Y og)) rfl ?_
  refine am_steps_z td_Z_feed 1 (q' := (10, [some (.ref 0), some (.int x), some (.long B), none, some (.ref 37), none], [.long r.toInt64, .int 0, .ref 37], wd C9 Y og)) rfl ?_
  refine am_last_z td_Z_feed rfl (w := wd C9 Y og) (f := og) rfl rfl (pk_in 0 1 (by omega)) ?_
  refine am_eq_r (q' := (11, [some (.ref 0), some (.int x), some (.long B), none, some (.ref 37), none], [], wd C9 Y (vp_updL og 0 r.toInt64))) rfl ?_
  refine am_steps_z td_Z_feed 2 (q' := (19, [some (.ref 0), some (.int x), some (.long B), none, some (.ref 37), none], [.int 0], wd C9 Y (vp_updL og 0 r.toInt64))) rfl ?_
  refine am_iret_z td_Z_feed rfl rfl rfl ?_
  exact ⟨rfl, C9, rfl, hq⟩
set_option maxHeartbeats 1000000 in
theorem zx_feed (base d : Nat) (hd9 : 10 ≤ d) (C : wd_C) (Y : wd_Y) (og : Nat → Int64) (x : Int32) (B : Int64) (hMx : am_Mx l D cA ad fm m_S_feed tr_A [.ref 0, .int x, .long B] (wd C Y og)) : am_Mz l D cA ad fm base d m_Z_feed [(0, 11, 14, 13)] [.ref 0, .int x, .long B, .ref 37] (wd C Y og) (fun vr w' => vr = some (.int 1) ∧ w' = wd C Y og) := by
  refine am_mzx td_Z_feed (by decide) rfl (by simp [am_arg, Value.category, m_Z_feed, am_ml]) ?_
  intro p e s m below meth c ls y9 hX htS htB ht9 hy1 hy2 hy3 hy4 hret hlk hl hP hD
  have h1 := td_Z_feed
  have hx := hX.1
  have hb := hX.2.1
  have hls := hl.1
  refine lv_aload hx hb (h1 _ _ (rfl : am_tb m_Z_feed 0 = some (.aload 4, 2))) (lv_at hl 3 rfl) ?_
  refine lv_iconst hx hb (h1 _ _ (rfl : am_tb m_Z_feed 2 = some (.iconst 0, 1))) (v := 0) rfl ?_
  refine lv_aload_n hx hb (h1 _ _ (rfl : am_tb m_Z_feed 3 = some (.aload_n 0, 1))) rfl (lv_at hl 0 rfl) ?_
  refine lv_iload_n hx hb (h1 _ _ (rfl : am_tb m_Z_feed 4 = some (.iload_n 1, 1))) rfl (lv_at hl 1 rfl) ?_
  refine lv_lload_n hx hb (h1 _ _ (rfl : am_tb m_Z_feed 5 = some (.lload_n 2, 1))) rfl (lv_at hl 2 rfl) ?_
  refine tr_try (As := [.int x, .long B]) (rest := [.int 0, .ref 37]) (w := wd C Y og) hX (h1 _ _ (rfl : am_tb m_Z_feed 6 = some (.invokevirtual 7, 3))) ok_S_feed oi_S_feed lk_10_7 (Or.inl ⟨_, _, _, rfl, rfl, rfl⟩) hMx rfl rfl (by show 9 ≤ d; omega) (by show 400 ≤ 40 * d; omega) ⟨Nat.le_refl 1, Nat.le_refl 6⟩ (Nat.le_of_ble_eq_true rfl) hP hD hls htS htB y9 ht9 (by simp [covers, hy1, hy2]) (by rw [hy4]; decide) (by rw [hy4]; exact zx_cl.1) (by simp [tr_dc]) ?_
  intro H1 hz1 hq1
  rw [hy3]
  refine lv_astore hx hb (h1 _ _ (rfl : am_tb m_Z_feed 14 = some (.astore 5, 2))) hl (by decide) rfl ?_
  intro ls2 hl2
  refine lv_iconst hx hb (h1 _ _ (rfl : am_tb m_Z_feed 16 = some (.iconst 1, 1))) (v := 1) rfl ?_
  refine W.iret hx hb hret (fun t ht' hW => ⟨some (.int 1), wd C Y og, rfl, ⟨rfl, rfl⟩, rfl, ?_, hD, ?_⟩) (fun q hq => by cases hq) (h1 _ _ (rfl : am_tb m_Z_feed 17 = some (.ireturn, 1))) hlk
  · rw [ht']; exact hP.kept (fun k q hk => hq1 q.1 ((hP k q hk).lt))
  · exact ⟨by rw [ht']; exact hz1, fun q h2 h3 => by rw [ht']; exact hq1 q h2⟩
set_option maxHeartbeats 4000000 in
set_option maxRecDepth 100000 in
theorem z_object (base d : Nat) (C : wd_C) (Y : wd_Y) (og : Nat → Int64) (x : Int32) (y : Int32) (r : Int32) (PP : wd_C → Prop) (hMt : am_Mt l D cA ad fm d m_S_object [.ref 0, .int x, .int y] (wd C Y og) (fun vr w' => vr = some (.int r) ∧ ∃ C', w' = wd C' Y og ∧ PP C')) : am_Mz l D cA ad fm base (d + 1) m_Z_object [(0, 10, 13, 19)] [.ref 0, .int x, .int y, .ref 37] (wd C Y og) (fun vr w' => vr = some (.int 0) ∧ ∃ C', w' = wd C' Y (vp_updL og 0 (r.toInt64)) ∧ PP C') := by
  refine am_mz td_Z_object (by decide) rfl (by simp [am_arg, Value.category, m_Z_object, am_ml]) ?_
  refine am_eq_r (q' := (0, [some (.ref 0), some (.int x), some (.int y), some (.ref 37), none], [], wd C Y og)) rfl ?_
  refine am_steps_z td_Z_object 5 (q' := (5, [some (.ref 0), some (.int x), some (.int y), some (.ref 37), none], [.int y, .int x, .ref 0, .int 0, .ref 37], wd C Y og)) rfl ?_
  refine am_callV_z (As := [.int x, .int y]) (rest := [.int 0, .ref 37]) td_Z_object rfl rfl ok_S_object oi_S_object lk_10_15 (Or.inl ⟨_, _, _, rfl, rfl, rfl⟩) rfl rfl (Nat.le_of_ble_eq_true rfl) hMt ?_
  rintro v_ w_ ⟨rfl, C9, rfl, hq⟩ -
  refine am_eq_r (q' := (8, [some (.ref 0), some (.int x), some (.int y), some (.ref 37), none], [.int r, .int 0, .ref 37], wd C9 Y og)) rfl ?_
  refine am_steps_z td_Z_object 1 (q' := (9, [some (.ref 0), some (.int x), some (.int y), some (.ref 37), none], [.long r.toInt64, .int 0, .ref 37], wd C9 Y og)) rfl ?_
  refine am_last_z td_Z_object rfl (w := wd C9 Y og) (f := og) rfl rfl (pk_in 0 1 (by omega)) ?_
  refine am_eq_r (q' := (10, [some (.ref 0), some (.int x), some (.int y), some (.ref 37), none], [], wd C9 Y (vp_updL og 0 r.toInt64))) rfl ?_
  refine am_steps_z td_Z_object 2 (q' := (18, [some (.ref 0), some (.int x), some (.int y), some (.ref 37), none], [.int 0], wd C9 Y (vp_updL og 0 r.toInt64))) rfl ?_
  refine am_iret_z td_Z_object rfl rfl rfl ?_
  exact ⟨rfl, C9, rfl, hq⟩
set_option maxHeartbeats 1000000 in
theorem zx_object (base d : Nat) (hd9 : 10 ≤ d) (C : wd_C) (Y : wd_Y) (og : Nat → Int64) (x : Int32) (y : Int32) (hMx : am_Mx l D cA ad fm m_S_object tr_X [.ref 0, .int x, .int y] (wd C Y og)) : am_Mz l D cA ad fm base d m_Z_object [(0, 10, 13, 19)] [.ref 0, .int x, .int y, .ref 37] (wd C Y og) (fun vr w' => vr = some (.int 1) ∧ w' = wd C Y og) := by
  refine am_mzx td_Z_object (by decide) rfl (by simp [am_arg, Value.category, m_Z_object, am_ml]) ?_
  intro p e s m below meth c ls y9 hX htS htB ht9 hy1 hy2 hy3 hy4 hret hlk hl hP hD
  have h1 := td_Z_object
  have hx := hX.1
  have hb := hX.2.1
  have hls := hl.1
  refine lv_aload_n hx hb (h1 _ _ (rfl : am_tb m_Z_object 0 = some (.aload_n 3, 1))) rfl (lv_at hl 3 rfl) ?_
  refine lv_iconst hx hb (h1 _ _ (rfl : am_tb m_Z_object 1 = some (.iconst 0, 1))) (v := 0) rfl ?_
  refine lv_aload_n hx hb (h1 _ _ (rfl : am_tb m_Z_object 2 = some (.aload_n 0, 1))) rfl (lv_at hl 0 rfl) ?_
  refine lv_iload_n hx hb (h1 _ _ (rfl : am_tb m_Z_object 3 = some (.iload_n 1, 1))) rfl (lv_at hl 1 rfl) ?_
  refine lv_iload_n hx hb (h1 _ _ (rfl : am_tb m_Z_object 4 = some (.iload_n 2, 1))) rfl (lv_at hl 2 rfl) ?_
  refine tr_try (As := [.int x, .int y]) (rest := [.int 0, .ref 37]) (w := wd C Y og) hX (h1 _ _ (rfl : am_tb m_Z_object 5 = some (.invokevirtual 15, 3))) ok_S_object oi_S_object lk_10_15 (Or.inl ⟨_, _, _, rfl, rfl, rfl⟩) hMx rfl rfl (by show 9 ≤ d; omega) (by show 400 ≤ 40 * d; omega) ⟨Nat.le_refl 1, Nat.le_refl 6⟩ (Nat.le_of_ble_eq_true rfl) hP hD hls htS htB y9 ht9 (by simp [covers, hy1, hy2]) (by rw [hy4]; decide) (by rw [hy4]; exact zx_cl.2) (by simp [tr_dc]) ?_
  intro H1 hz1 hq1
  rw [hy3]
  refine lv_astore hx hb (h1 _ _ (rfl : am_tb m_Z_object 13 = some (.astore 4, 2))) hl (by decide) rfl ?_
  intro ls2 hl2
  refine lv_iconst hx hb (h1 _ _ (rfl : am_tb m_Z_object 15 = some (.iconst 1, 1))) (v := 1) rfl ?_
  refine W.iret hx hb hret (fun t ht' hW => ⟨some (.int 1), wd C Y og, rfl, ⟨rfl, rfl⟩, rfl, ?_, hD, ?_⟩) (fun q hq => by cases hq) (h1 _ _ (rfl : am_tb m_Z_object 16 = some (.ireturn, 1))) hlk
  · rw [ht']; exact hP.kept (fun k q hk => hq1 q.1 ((hP k q hk).lt))
  · exact ⟨by rw [ht']; exact hz1, fun q h2 h3 => by rw [ht']; exact hq1 q h2⟩
set_option maxHeartbeats 4000000 in
set_option maxRecDepth 100000 in
theorem z_value (base d : Nat) (C : wd_C) (Y : wd_Y) (og : Nat → Int64) (x : Int32) (y : Int32) (r : Int32) (PP : wd_C → Prop) (hMt : am_Mt l D cA ad fm d m_S_value [.ref 0, .int x, .int y] (wd C Y og) (fun vr w' => vr = some (.int r) ∧ ∃ C', w' = wd C' Y og ∧ PP C')) : am_Mz l D cA ad fm base (d + 1) m_Z_value [(0, 10, 13, 19)] [.ref 0, .int x, .int y, .ref 37] (wd C Y og) (fun vr w' => vr = some (.int 0) ∧ ∃ C', w' = wd C' Y (vp_updL og 0 (r.toInt64)) ∧ PP C') := by
  refine am_mz td_Z_value (by decide) rfl (by simp [am_arg, Value.category, m_Z_value, am_ml]) ?_
  refine am_eq_r (q' := (0, [some (.ref 0), some (.int x), some (.int y), some (.ref 37), none], [], wd C Y og)) rfl ?_
  refine am_steps_z td_Z_value 5 (q' := (5, [some (.ref 0), some (.int x), some (.int y), some (.ref 37), none], [.int y, .int x, .ref 0, .int 0, .ref 37], wd C Y og)) rfl ?_
  refine am_callV_z (As := [.int x, .int y]) (rest := [.int 0, .ref 37]) td_Z_value rfl rfl ok_S_value oi_S_value lk_10_21 (Or.inl ⟨_, _, _, rfl, rfl, rfl⟩) rfl rfl (Nat.le_of_ble_eq_true rfl) hMt ?_
  rintro v_ w_ ⟨rfl, C9, rfl, hq⟩ -
  refine am_eq_r (q' := (8, [some (.ref 0), some (.int x), some (.int y), some (.ref 37), none], [.int r, .int 0, .ref 37], wd C9 Y og)) rfl ?_
  refine am_steps_z td_Z_value 1 (q' := (9, [some (.ref 0), some (.int x), some (.int y), some (.ref 37), none], [.long r.toInt64, .int 0, .ref 37], wd C9 Y og)) rfl ?_
  refine am_last_z td_Z_value rfl (w := wd C9 Y og) (f := og) rfl rfl (pk_in 0 1 (by omega)) ?_
  refine am_eq_r (q' := (10, [some (.ref 0), some (.int x), some (.int y), some (.ref 37), none], [], wd C9 Y (vp_updL og 0 r.toInt64))) rfl ?_
  refine am_steps_z td_Z_value 2 (q' := (18, [some (.ref 0), some (.int x), some (.int y), some (.ref 37), none], [.int 0], wd C9 Y (vp_updL og 0 r.toInt64))) rfl ?_
  refine am_iret_z td_Z_value rfl rfl rfl ?_
  exact ⟨rfl, C9, rfl, hq⟩
set_option maxHeartbeats 1000000 in
theorem zx_value (base d : Nat) (hd9 : 10 ≤ d) (C : wd_C) (Y : wd_Y) (og : Nat → Int64) (x : Int32) (y : Int32) (hMx : am_Mx l D cA ad fm m_S_value tr_X [.ref 0, .int x, .int y] (wd C Y og)) : am_Mz l D cA ad fm base d m_Z_value [(0, 10, 13, 19)] [.ref 0, .int x, .int y, .ref 37] (wd C Y og) (fun vr w' => vr = some (.int 1) ∧ w' = wd C Y og) := by
  refine am_mzx td_Z_value (by decide) rfl (by simp [am_arg, Value.category, m_Z_value, am_ml]) ?_
  intro p e s m below meth c ls y9 hX htS htB ht9 hy1 hy2 hy3 hy4 hret hlk hl hP hD
  have h1 := td_Z_value
  have hx := hX.1
  have hb := hX.2.1
  have hls := hl.1
  refine lv_aload_n hx hb (h1 _ _ (rfl : am_tb m_Z_value 0 = some (.aload_n 3, 1))) rfl (lv_at hl 3 rfl) ?_
  refine lv_iconst hx hb (h1 _ _ (rfl : am_tb m_Z_value 1 = some (.iconst 0, 1))) (v := 0) rfl ?_
  refine lv_aload_n hx hb (h1 _ _ (rfl : am_tb m_Z_value 2 = some (.aload_n 0, 1))) rfl (lv_at hl 0 rfl) ?_
  refine lv_iload_n hx hb (h1 _ _ (rfl : am_tb m_Z_value 3 = some (.iload_n 1, 1))) rfl (lv_at hl 1 rfl) ?_
  refine lv_iload_n hx hb (h1 _ _ (rfl : am_tb m_Z_value 4 = some (.iload_n 2, 1))) rfl (lv_at hl 2 rfl) ?_
  refine tr_try (As := [.int x, .int y]) (rest := [.int 0, .ref 37]) (w := wd C Y og) hX (h1 _ _ (rfl : am_tb m_Z_value 5 = some (.invokevirtual 21, 3))) ok_S_value oi_S_value lk_10_21 (Or.inl ⟨_, _, _, rfl, rfl, rfl⟩) hMx rfl rfl (by show 9 ≤ d; omega) (by show 400 ≤ 40 * d; omega) ⟨Nat.le_refl 1, Nat.le_refl 6⟩ (Nat.le_of_ble_eq_true rfl) hP hD hls htS htB y9 ht9 (by simp [covers, hy1, hy2]) (by rw [hy4]; decide) (by rw [hy4]; exact zx_cl.2) (by simp [tr_dc]) ?_
  intro H1 hz1 hq1
  rw [hy3]
  refine lv_astore hx hb (h1 _ _ (rfl : am_tb m_Z_value 13 = some (.astore 4, 2))) hl (by decide) rfl ?_
  intro ls2 hl2
  refine lv_iconst hx hb (h1 _ _ (rfl : am_tb m_Z_value 15 = some (.iconst 1, 1))) (v := 1) rfl ?_
  refine W.iret hx hb hret (fun t ht' hW => ⟨some (.int 1), wd C Y og, rfl, ⟨rfl, rfl⟩, rfl, ?_, hD, ?_⟩) (fun q hq => by cases hq) (h1 _ _ (rfl : am_tb m_Z_value 16 = some (.ireturn, 1))) hlk
  · rw [ht']; exact hP.kept (fun k q hk => hq1 q.1 ((hP k q hk).lt))
  · exact ⟨by rw [ht']; exact hz1, fun q h2 h3 => by rw [ht']; exact hq1 q h2⟩
set_option maxHeartbeats 4000000 in
set_option maxRecDepth 100000 in
theorem z_number (base d : Nat) (C : wd_C) (Y : wd_Y) (og : Nat → Int64) (x : Int32) (r : Int64) (PP : wd_C → Prop) (hMt : am_Mt l D cA ad fm d m_S_number [.ref 0, .int x] (wd C Y og) (fun vr w' => vr = some (.long r) ∧ ∃ C', w' = wd C' Y og ∧ PP C')) : am_Mz l D cA ad fm base (d + 1) m_Z_number [(0, 8, 11, 19)] [.ref 0, .int x, .ref 37] (wd C Y og) (fun vr w' => vr = some (.int 0) ∧ ∃ C', w' = wd C' Y (vp_updL og 0 r) ∧ PP C') := by
  refine am_mz td_Z_number (by decide) rfl (by simp [am_arg, Value.category, m_Z_number, am_ml]) ?_
  refine am_eq_r (q' := (0, [some (.ref 0), some (.int x), some (.ref 37), none], [], wd C Y og)) rfl ?_
  refine am_steps_z td_Z_number 4 (q' := (4, [some (.ref 0), some (.int x), some (.ref 37), none], [.int x, .ref 0, .int 0, .ref 37], wd C Y og)) rfl ?_
  refine am_callV_z (As := [.int x]) (rest := [.int 0, .ref 37]) td_Z_number rfl rfl ok_S_number oi_S_number lk_10_24 (Or.inl ⟨_, _, _, rfl, rfl, rfl⟩) rfl rfl (Nat.le_of_ble_eq_true rfl) hMt ?_
  rintro v_ w_ ⟨rfl, C9, rfl, hq⟩ -
  refine am_eq_r (q' := (7, [some (.ref 0), some (.int x), some (.ref 37), none], [.long r, .int 0, .ref 37], wd C9 Y og)) rfl ?_
  refine am_last_z td_Z_number rfl (w := wd C9 Y og) (f := og) rfl rfl (pk_in 0 1 (by omega)) ?_
  refine am_eq_r (q' := (8, [some (.ref 0), some (.int x), some (.ref 37), none], [], wd C9 Y (vp_updL og 0 r))) rfl ?_
  refine am_steps_z td_Z_number 2 (q' := (15, [some (.ref 0), some (.int x), some (.ref 37), none], [.int 0], wd C9 Y (vp_updL og 0 r))) rfl ?_
  refine am_iret_z td_Z_number rfl rfl rfl ?_
  exact ⟨rfl, C9, rfl, hq⟩
set_option maxHeartbeats 1000000 in
theorem zx_number (base d : Nat) (hd9 : 10 ≤ d) (C : wd_C) (Y : wd_Y) (og : Nat → Int64) (x : Int32) (hMx : am_Mx l D cA ad fm m_S_number tr_X [.ref 0, .int x] (wd C Y og)) : am_Mz l D cA ad fm base d m_Z_number [(0, 8, 11, 19)] [.ref 0, .int x, .ref 37] (wd C Y og) (fun vr w' => vr = some (.int 1) ∧ w' = wd C Y og) := by
  refine am_mzx td_Z_number (by decide) rfl (by simp [am_arg, Value.category, m_Z_number, am_ml]) ?_
  intro p e s m below meth c ls y9 hX htS htB ht9 hy1 hy2 hy3 hy4 hret hlk hl hP hD
  have h1 := td_Z_number
  have hx := hX.1
  have hb := hX.2.1
  have hls := hl.1
  refine lv_aload_n hx hb (h1 _ _ (rfl : am_tb m_Z_number 0 = some (.aload_n 2, 1))) rfl (lv_at hl 2 rfl) ?_
  refine lv_iconst hx hb (h1 _ _ (rfl : am_tb m_Z_number 1 = some (.iconst 0, 1))) (v := 0) rfl ?_
  refine lv_aload_n hx hb (h1 _ _ (rfl : am_tb m_Z_number 2 = some (.aload_n 0, 1))) rfl (lv_at hl 0 rfl) ?_
  refine lv_iload_n hx hb (h1 _ _ (rfl : am_tb m_Z_number 3 = some (.iload_n 1, 1))) rfl (lv_at hl 1 rfl) ?_
  refine tr_try (As := [.int x]) (rest := [.int 0, .ref 37]) (w := wd C Y og) hX (h1 _ _ (rfl : am_tb m_Z_number 4 = some (.invokevirtual 24, 3))) ok_S_number oi_S_number lk_10_24 (Or.inl ⟨_, _, _, rfl, rfl, rfl⟩) hMx rfl rfl (by show 9 ≤ d; omega) (by show 400 ≤ 40 * d; omega) ⟨Nat.le_refl 1, Nat.le_refl 6⟩ (Nat.le_of_ble_eq_true rfl) hP hD hls htS htB y9 ht9 (by simp [covers, hy1, hy2]) (by rw [hy4]; decide) (by rw [hy4]; exact zx_cl.2) (by simp [tr_dc]) ?_
  intro H1 hz1 hq1
  rw [hy3]
  refine lv_astore_n hx hb (h1 _ _ (rfl : am_tb m_Z_number 11 = some (.astore_n 3, 1))) rfl hl (by decide) rfl ?_
  intro ls2 hl2
  refine lv_iconst hx hb (h1 _ _ (rfl : am_tb m_Z_number 12 = some (.iconst 1, 1))) (v := 1) rfl ?_
  refine W.iret hx hb hret (fun t ht' hW => ⟨some (.int 1), wd C Y og, rfl, ⟨rfl, rfl⟩, rfl, ?_, hD, ?_⟩) (fun q hq => by cases hq) (h1 _ _ (rfl : am_tb m_Z_number 13 = some (.ireturn, 1))) hlk
  · rw [ht']; exact hP.kept (fun k q hk => hq1 q.1 ((hP k q hk).lt))
  · exact ⟨by rw [ht']; exact hz1, fun q h2 h3 => by rw [ht']; exact hq1 q h2⟩
set_option maxHeartbeats 4000000 in
set_option maxRecDepth 100000 in
theorem z_byteOf (base d : Nat) (C : wd_C) (Y : wd_Y) (og : Nat → Int64) (x : Int32) (y : Int32) (r : Int32) (PP : wd_C → Prop) (hMt : am_Mt l D cA ad fm d m_S_byteOf [.ref 0, .int x, .int y] (wd C Y og) (fun vr w' => vr = some (.int r) ∧ ∃ C', w' = wd C' Y og ∧ PP C')) : am_Mz l D cA ad fm base (d + 1) m_Z_byteOf [(0, 10, 13, 19)] [.ref 0, .int x, .int y, .ref 37] (wd C Y og) (fun vr w' => vr = some (.int 0) ∧ ∃ C', w' = wd C' Y (vp_updL og 0 (r.toInt64)) ∧ PP C') := by
  refine am_mz td_Z_byteOf (by decide) rfl (by simp [am_arg, Value.category, m_Z_byteOf, am_ml]) ?_
  refine am_eq_r (q' := (0, [some (.ref 0), some (.int x), some (.int y), some (.ref 37), none], [], wd C Y og)) rfl ?_
  refine am_steps_z td_Z_byteOf 5 (q' := (5, [some (.ref 0), some (.int x), some (.int y), some (.ref 37), none], [.int y, .int x, .ref 0, .int 0, .ref 37], wd C Y og)) rfl ?_
  refine am_callV_z (As := [.int x, .int y]) (rest := [.int 0, .ref 37]) td_Z_byteOf rfl rfl ok_S_byteOf oi_S_byteOf lk_10_28 (Or.inl ⟨_, _, _, rfl, rfl, rfl⟩) rfl rfl (Nat.le_of_ble_eq_true rfl) hMt ?_
  rintro v_ w_ ⟨rfl, C9, rfl, hq⟩ -
  refine am_eq_r (q' := (8, [some (.ref 0), some (.int x), some (.int y), some (.ref 37), none], [.int r, .int 0, .ref 37], wd C9 Y og)) rfl ?_
  refine am_steps_z td_Z_byteOf 1 (q' := (9, [some (.ref 0), some (.int x), some (.int y), some (.ref 37), none], [.long r.toInt64, .int 0, .ref 37], wd C9 Y og)) rfl ?_
  refine am_last_z td_Z_byteOf rfl (w := wd C9 Y og) (f := og) rfl rfl (pk_in 0 1 (by omega)) ?_
  refine am_eq_r (q' := (10, [some (.ref 0), some (.int x), some (.int y), some (.ref 37), none], [], wd C9 Y (vp_updL og 0 r.toInt64))) rfl ?_
  refine am_steps_z td_Z_byteOf 2 (q' := (18, [some (.ref 0), some (.int x), some (.int y), some (.ref 37), none], [.int 0], wd C9 Y (vp_updL og 0 r.toInt64))) rfl ?_
  refine am_iret_z td_Z_byteOf rfl rfl rfl ?_
  exact ⟨rfl, C9, rfl, hq⟩
set_option maxHeartbeats 1000000 in
theorem zx_byteOf (base d : Nat) (hd9 : 10 ≤ d) (C : wd_C) (Y : wd_Y) (og : Nat → Int64) (x : Int32) (y : Int32) (hMx : am_Mx l D cA ad fm m_S_byteOf tr_X [.ref 0, .int x, .int y] (wd C Y og)) : am_Mz l D cA ad fm base d m_Z_byteOf [(0, 10, 13, 19)] [.ref 0, .int x, .int y, .ref 37] (wd C Y og) (fun vr w' => vr = some (.int 1) ∧ w' = wd C Y og) := by
  refine am_mzx td_Z_byteOf (by decide) rfl (by simp [am_arg, Value.category, m_Z_byteOf, am_ml]) ?_
  intro p e s m below meth c ls y9 hX htS htB ht9 hy1 hy2 hy3 hy4 hret hlk hl hP hD
  have h1 := td_Z_byteOf
  have hx := hX.1
  have hb := hX.2.1
  have hls := hl.1
  refine lv_aload_n hx hb (h1 _ _ (rfl : am_tb m_Z_byteOf 0 = some (.aload_n 3, 1))) rfl (lv_at hl 3 rfl) ?_
  refine lv_iconst hx hb (h1 _ _ (rfl : am_tb m_Z_byteOf 1 = some (.iconst 0, 1))) (v := 0) rfl ?_
  refine lv_aload_n hx hb (h1 _ _ (rfl : am_tb m_Z_byteOf 2 = some (.aload_n 0, 1))) rfl (lv_at hl 0 rfl) ?_
  refine lv_iload_n hx hb (h1 _ _ (rfl : am_tb m_Z_byteOf 3 = some (.iload_n 1, 1))) rfl (lv_at hl 1 rfl) ?_
  refine lv_iload_n hx hb (h1 _ _ (rfl : am_tb m_Z_byteOf 4 = some (.iload_n 2, 1))) rfl (lv_at hl 2 rfl) ?_
  refine tr_try (As := [.int x, .int y]) (rest := [.int 0, .ref 37]) (w := wd C Y og) hX (h1 _ _ (rfl : am_tb m_Z_byteOf 5 = some (.invokevirtual 28, 3))) ok_S_byteOf oi_S_byteOf lk_10_28 (Or.inl ⟨_, _, _, rfl, rfl, rfl⟩) hMx rfl rfl (by show 9 ≤ d; omega) (by show 400 ≤ 40 * d; omega) ⟨Nat.le_refl 1, Nat.le_refl 6⟩ (Nat.le_of_ble_eq_true rfl) hP hD hls htS htB y9 ht9 (by simp [covers, hy1, hy2]) (by rw [hy4]; decide) (by rw [hy4]; exact zx_cl.2) (by simp [tr_dc]) ?_
  intro H1 hz1 hq1
  rw [hy3]
  refine lv_astore hx hb (h1 _ _ (rfl : am_tb m_Z_byteOf 13 = some (.astore 4, 2))) hl (by decide) rfl ?_
  intro ls2 hl2
  refine lv_iconst hx hb (h1 _ _ (rfl : am_tb m_Z_byteOf 15 = some (.iconst 1, 1))) (v := 1) rfl ?_
  refine W.iret hx hb hret (fun t ht' hW => ⟨some (.int 1), wd C Y og, rfl, ⟨rfl, rfl⟩, rfl, ?_, hD, ?_⟩) (fun q hq => by cases hq) (h1 _ _ (rfl : am_tb m_Z_byteOf 16 = some (.ireturn, 1))) hlk
  · rw [ht']; exact hP.kept (fun k q hk => hq1 q.1 ((hP k q hk).lt))
  · exact ⟨by rw [ht']; exact hz1, fun q h2 h3 => by rw [ht']; exact hq1 q h2⟩
set_option maxHeartbeats 4000000 in
set_option maxRecDepth 100000 in
theorem z_child (base d : Nat) (C : wd_C) (Y : wd_Y) (og : Nat → Int64) (x : Int32) (y : Int32) (r : Int32) (PP : wd_C → Prop) (hMt : am_Mt l D cA ad fm d m_S_child [.ref 0, .int x, .int y] (wd C Y og) (fun vr w' => vr = some (.int r) ∧ ∃ C', w' = wd C' Y og ∧ PP C')) : am_Mz l D cA ad fm base (d + 1) m_Z_child [(0, 10, 13, 19)] [.ref 0, .int x, .int y, .ref 37] (wd C Y og) (fun vr w' => vr = some (.int 0) ∧ ∃ C', w' = wd C' Y (vp_updL og 0 (r.toInt64)) ∧ PP C') := by
  refine am_mz td_Z_child (by decide) rfl (by simp [am_arg, Value.category, m_Z_child, am_ml]) ?_
  refine am_eq_r (q' := (0, [some (.ref 0), some (.int x), some (.int y), some (.ref 37), none], [], wd C Y og)) rfl ?_
  refine am_steps_z td_Z_child 5 (q' := (5, [some (.ref 0), some (.int x), some (.int y), some (.ref 37), none], [.int y, .int x, .ref 0, .int 0, .ref 37], wd C Y og)) rfl ?_
  refine am_callV_z (As := [.int x, .int y]) (rest := [.int 0, .ref 37]) td_Z_child rfl rfl ok_S_child oi_S_child lk_10_31 (Or.inl ⟨_, _, _, rfl, rfl, rfl⟩) rfl rfl (Nat.le_of_ble_eq_true rfl) hMt ?_
  rintro v_ w_ ⟨rfl, C9, rfl, hq⟩ -
  refine am_eq_r (q' := (8, [some (.ref 0), some (.int x), some (.int y), some (.ref 37), none], [.int r, .int 0, .ref 37], wd C9 Y og)) rfl ?_
  refine am_steps_z td_Z_child 1 (q' := (9, [some (.ref 0), some (.int x), some (.int y), some (.ref 37), none], [.long r.toInt64, .int 0, .ref 37], wd C9 Y og)) rfl ?_
  refine am_last_z td_Z_child rfl (w := wd C9 Y og) (f := og) rfl rfl (pk_in 0 1 (by omega)) ?_
  refine am_eq_r (q' := (10, [some (.ref 0), some (.int x), some (.int y), some (.ref 37), none], [], wd C9 Y (vp_updL og 0 r.toInt64))) rfl ?_
  refine am_steps_z td_Z_child 2 (q' := (18, [some (.ref 0), some (.int x), some (.int y), some (.ref 37), none], [.int 0], wd C9 Y (vp_updL og 0 r.toInt64))) rfl ?_
  refine am_iret_z td_Z_child rfl rfl rfl ?_
  exact ⟨rfl, C9, rfl, hq⟩
set_option maxHeartbeats 1000000 in
theorem zx_child (base d : Nat) (hd9 : 10 ≤ d) (C : wd_C) (Y : wd_Y) (og : Nat → Int64) (x : Int32) (y : Int32) (hMx : am_Mx l D cA ad fm m_S_child tr_X [.ref 0, .int x, .int y] (wd C Y og)) : am_Mz l D cA ad fm base d m_Z_child [(0, 10, 13, 19)] [.ref 0, .int x, .int y, .ref 37] (wd C Y og) (fun vr w' => vr = some (.int 1) ∧ w' = wd C Y og) := by
  refine am_mzx td_Z_child (by decide) rfl (by simp [am_arg, Value.category, m_Z_child, am_ml]) ?_
  intro p e s m below meth c ls y9 hX htS htB ht9 hy1 hy2 hy3 hy4 hret hlk hl hP hD
  have h1 := td_Z_child
  have hx := hX.1
  have hb := hX.2.1
  have hls := hl.1
  refine lv_aload_n hx hb (h1 _ _ (rfl : am_tb m_Z_child 0 = some (.aload_n 3, 1))) rfl (lv_at hl 3 rfl) ?_
  refine lv_iconst hx hb (h1 _ _ (rfl : am_tb m_Z_child 1 = some (.iconst 0, 1))) (v := 0) rfl ?_
  refine lv_aload_n hx hb (h1 _ _ (rfl : am_tb m_Z_child 2 = some (.aload_n 0, 1))) rfl (lv_at hl 0 rfl) ?_
  refine lv_iload_n hx hb (h1 _ _ (rfl : am_tb m_Z_child 3 = some (.iload_n 1, 1))) rfl (lv_at hl 1 rfl) ?_
  refine lv_iload_n hx hb (h1 _ _ (rfl : am_tb m_Z_child 4 = some (.iload_n 2, 1))) rfl (lv_at hl 2 rfl) ?_
  refine tr_try (As := [.int x, .int y]) (rest := [.int 0, .ref 37]) (w := wd C Y og) hX (h1 _ _ (rfl : am_tb m_Z_child 5 = some (.invokevirtual 31, 3))) ok_S_child oi_S_child lk_10_31 (Or.inl ⟨_, _, _, rfl, rfl, rfl⟩) hMx rfl rfl (by show 9 ≤ d; omega) (by show 400 ≤ 40 * d; omega) ⟨Nat.le_refl 1, Nat.le_refl 6⟩ (Nat.le_of_ble_eq_true rfl) hP hD hls htS htB y9 ht9 (by simp [covers, hy1, hy2]) (by rw [hy4]; decide) (by rw [hy4]; exact zx_cl.2) (by simp [tr_dc]) ?_
  intro H1 hz1 hq1
  rw [hy3]
  refine lv_astore hx hb (h1 _ _ (rfl : am_tb m_Z_child 13 = some (.astore 4, 2))) hl (by decide) rfl ?_
  intro ls2 hl2
  refine lv_iconst hx hb (h1 _ _ (rfl : am_tb m_Z_child 15 = some (.iconst 1, 1))) (v := 1) rfl ?_
  refine W.iret hx hb hret (fun t ht' hW => ⟨some (.int 1), wd C Y og, rfl, ⟨rfl, rfl⟩, rfl, ?_, hD, ?_⟩) (fun q hq => by cases hq) (h1 _ _ (rfl : am_tb m_Z_child 16 = some (.ireturn, 1))) hlk
  · rw [ht']; exact hP.kept (fun k q hk => hq1 q.1 ((hP k q hk).lt))
  · exact ⟨by rw [ht']; exact hz1, fun q h2 h3 => by rw [ht']; exact hq1 q h2⟩
set_option maxHeartbeats 4000000 in
set_option maxRecDepth 100000 in
theorem z_lookup (base d : Nat) (C : wd_C) (Y : wd_Y) (og : Nat → Int64) (x : Int32) (y : Int32) (r : Int32) (PP : wd_C → Prop) (hMt : am_Mt l D cA ad fm d m_S_lookup [.ref 0, .int x, .int y] (wd C Y og) (fun vr w' => vr = some (.int r) ∧ ∃ C', w' = wd C' Y og ∧ PP C')) : am_Mz l D cA ad fm base (d + 1) m_Z_lookup [(0, 10, 13, 19)] [.ref 0, .int x, .int y, .ref 37] (wd C Y og) (fun vr w' => vr = some (.int 0) ∧ ∃ C', w' = wd C' Y (vp_updL og 0 (r.toInt64)) ∧ PP C') := by
  refine am_mz td_Z_lookup (by decide) rfl (by simp [am_arg, Value.category, m_Z_lookup, am_ml]) ?_
  refine am_eq_r (q' := (0, [some (.ref 0), some (.int x), some (.int y), some (.ref 37), none], [], wd C Y og)) rfl ?_
  refine am_steps_z td_Z_lookup 5 (q' := (5, [some (.ref 0), some (.int x), some (.int y), some (.ref 37), none], [.int y, .int x, .ref 0, .int 0, .ref 37], wd C Y og)) rfl ?_
  refine am_callV_z (As := [.int x, .int y]) (rest := [.int 0, .ref 37]) td_Z_lookup rfl rfl ok_S_lookup oi_S_lookup lk_10_34 (Or.inl ⟨_, _, _, rfl, rfl, rfl⟩) rfl rfl (Nat.le_of_ble_eq_true rfl) hMt ?_
  rintro v_ w_ ⟨rfl, C9, rfl, hq⟩ -
  refine am_eq_r (q' := (8, [some (.ref 0), some (.int x), some (.int y), some (.ref 37), none], [.int r, .int 0, .ref 37], wd C9 Y og)) rfl ?_
  refine am_steps_z td_Z_lookup 1 (q' := (9, [some (.ref 0), some (.int x), some (.int y), some (.ref 37), none], [.long r.toInt64, .int 0, .ref 37], wd C9 Y og)) rfl ?_
  refine am_last_z td_Z_lookup rfl (w := wd C9 Y og) (f := og) rfl rfl (pk_in 0 1 (by omega)) ?_
  refine am_eq_r (q' := (10, [some (.ref 0), some (.int x), some (.int y), some (.ref 37), none], [], wd C9 Y (vp_updL og 0 r.toInt64))) rfl ?_
  refine am_steps_z td_Z_lookup 2 (q' := (18, [some (.ref 0), some (.int x), some (.int y), some (.ref 37), none], [.int 0], wd C9 Y (vp_updL og 0 r.toInt64))) rfl ?_
  refine am_iret_z td_Z_lookup rfl rfl rfl ?_
  exact ⟨rfl, C9, rfl, hq⟩
set_option maxHeartbeats 1000000 in
theorem zx_lookup (base d : Nat) (hd9 : 10 ≤ d) (C : wd_C) (Y : wd_Y) (og : Nat → Int64) (x : Int32) (y : Int32) (hMx : am_Mx l D cA ad fm m_S_lookup tr_X [.ref 0, .int x, .int y] (wd C Y og)) : am_Mz l D cA ad fm base d m_Z_lookup [(0, 10, 13, 19)] [.ref 0, .int x, .int y, .ref 37] (wd C Y og) (fun vr w' => vr = some (.int 1) ∧ w' = wd C Y og) := by
  refine am_mzx td_Z_lookup (by decide) rfl (by simp [am_arg, Value.category, m_Z_lookup, am_ml]) ?_
  intro p e s m below meth c ls y9 hX htS htB ht9 hy1 hy2 hy3 hy4 hret hlk hl hP hD
  have h1 := td_Z_lookup
  have hx := hX.1
  have hb := hX.2.1
  have hls := hl.1
  refine lv_aload_n hx hb (h1 _ _ (rfl : am_tb m_Z_lookup 0 = some (.aload_n 3, 1))) rfl (lv_at hl 3 rfl) ?_
  refine lv_iconst hx hb (h1 _ _ (rfl : am_tb m_Z_lookup 1 = some (.iconst 0, 1))) (v := 0) rfl ?_
  refine lv_aload_n hx hb (h1 _ _ (rfl : am_tb m_Z_lookup 2 = some (.aload_n 0, 1))) rfl (lv_at hl 0 rfl) ?_
  refine lv_iload_n hx hb (h1 _ _ (rfl : am_tb m_Z_lookup 3 = some (.iload_n 1, 1))) rfl (lv_at hl 1 rfl) ?_
  refine lv_iload_n hx hb (h1 _ _ (rfl : am_tb m_Z_lookup 4 = some (.iload_n 2, 1))) rfl (lv_at hl 2 rfl) ?_
  refine tr_try (As := [.int x, .int y]) (rest := [.int 0, .ref 37]) (w := wd C Y og) hX (h1 _ _ (rfl : am_tb m_Z_lookup 5 = some (.invokevirtual 34, 3))) ok_S_lookup oi_S_lookup lk_10_34 (Or.inl ⟨_, _, _, rfl, rfl, rfl⟩) hMx rfl rfl (by show 9 ≤ d; omega) (by show 400 ≤ 40 * d; omega) ⟨Nat.le_refl 1, Nat.le_refl 6⟩ (Nat.le_of_ble_eq_true rfl) hP hD hls htS htB y9 ht9 (by simp [covers, hy1, hy2]) (by rw [hy4]; decide) (by rw [hy4]; exact zx_cl.2) (by simp [tr_dc]) ?_
  intro H1 hz1 hq1
  rw [hy3]
  refine lv_astore hx hb (h1 _ _ (rfl : am_tb m_Z_lookup 13 = some (.astore 4, 2))) hl (by decide) rfl ?_
  intro ls2 hl2
  refine lv_iconst hx hb (h1 _ _ (rfl : am_tb m_Z_lookup 15 = some (.iconst 1, 1))) (v := 1) rfl ?_
  refine W.iret hx hb hret (fun t ht' hW => ⟨some (.int 1), wd C Y og, rfl, ⟨rfl, rfl⟩, rfl, ?_, hD, ?_⟩) (fun q hq => by cases hq) (h1 _ _ (rfl : am_tb m_Z_lookup 16 = some (.ireturn, 1))) hlk
  · rw [ht']; exact hP.kept (fun k q hk => hq1 q.1 ((hP k q hk).lt))
  · exact ⟨by rw [ht']; exact hz1, fun q h2 h3 => by rw [ht']; exact hq1 q h2⟩
set_option maxHeartbeats 4000000 in
set_option maxRecDepth 100000 in
theorem z_write (base d : Nat) (C : wd_C) (Y : wd_Y) (og : Nat → Int64) (x : Int32) (y : Int32) (z : Int32) (r : Int32) (PP : wd_C → Prop) (hMt : am_Mt l D cA ad fm d m_S_write [.ref 0, .int x, .int y, .int z] (wd C Y og) (fun vr w' => vr = some (.int r) ∧ ∃ C', w' = wd C' Y og ∧ PP C')) : am_Mz l D cA ad fm base (d + 1) m_Z_write [(0, 12, 15, 19)] [.ref 0, .int x, .int y, .int z, .ref 37] (wd C Y og) (fun vr w' => vr = some (.int 0) ∧ ∃ C', w' = wd C' Y (vp_updL og 0 (r.toInt64)) ∧ PP C') := by
  refine am_mz td_Z_write (by decide) rfl (by simp [am_arg, Value.category, m_Z_write, am_ml]) ?_
  refine am_eq_r (q' := (0, [some (.ref 0), some (.int x), some (.int y), some (.int z), some (.ref 37), none], [], wd C Y og)) rfl ?_
  refine am_steps_z td_Z_write 6 (q' := (7, [some (.ref 0), some (.int x), some (.int y), some (.int z), some (.ref 37), none], [.int z, .int y, .int x, .ref 0, .int 0, .ref 37], wd C Y og)) rfl ?_
  refine am_callV_z (As := [.int x, .int y, .int z]) (rest := [.int 0, .ref 37]) td_Z_write rfl rfl ok_S_write oi_S_write lk_10_37 (Or.inl ⟨_, _, _, rfl, rfl, rfl⟩) rfl rfl (Nat.le_of_ble_eq_true rfl) hMt ?_
  rintro v_ w_ ⟨rfl, C9, rfl, hq⟩ -
  refine am_eq_r (q' := (10, [some (.ref 0), some (.int x), some (.int y), some (.int z), some (.ref 37), none], [.int r, .int 0, .ref 37], wd C9 Y og)) rfl ?_
  refine am_steps_z td_Z_write 1 (q' := (11, [some (.ref 0), some (.int x), some (.int y), some (.int z), some (.ref 37), none], [.long r.toInt64, .int 0, .ref 37], wd C9 Y og)) rfl ?_
  refine am_last_z td_Z_write rfl (w := wd C9 Y og) (f := og) rfl rfl (pk_in 0 1 (by omega)) ?_
  refine am_eq_r (q' := (12, [some (.ref 0), some (.int x), some (.int y), some (.int z), some (.ref 37), none], [], wd C9 Y (vp_updL og 0 r.toInt64))) rfl ?_
  refine am_steps_z td_Z_write 2 (q' := (20, [some (.ref 0), some (.int x), some (.int y), some (.int z), some (.ref 37), none], [.int 0], wd C9 Y (vp_updL og 0 r.toInt64))) rfl ?_
  refine am_iret_z td_Z_write rfl rfl rfl ?_
  exact ⟨rfl, C9, rfl, hq⟩
set_option maxHeartbeats 1000000 in
theorem zx_write (base d : Nat) (hd9 : 10 ≤ d) (C : wd_C) (Y : wd_Y) (og : Nat → Int64) (x : Int32) (y : Int32) (z : Int32) (hMx : am_Mx l D cA ad fm m_S_write tr_X [.ref 0, .int x, .int y, .int z] (wd C Y og)) : am_Mz l D cA ad fm base d m_Z_write [(0, 12, 15, 19)] [.ref 0, .int x, .int y, .int z, .ref 37] (wd C Y og) (fun vr w' => vr = some (.int 1) ∧ w' = wd C Y og) := by
  refine am_mzx td_Z_write (by decide) rfl (by simp [am_arg, Value.category, m_Z_write, am_ml]) ?_
  intro p e s m below meth c ls y9 hX htS htB ht9 hy1 hy2 hy3 hy4 hret hlk hl hP hD
  have h1 := td_Z_write
  have hx := hX.1
  have hb := hX.2.1
  have hls := hl.1
  refine lv_aload hx hb (h1 _ _ (rfl : am_tb m_Z_write 0 = some (.aload 4, 2))) (lv_at hl 4 rfl) ?_
  refine lv_iconst hx hb (h1 _ _ (rfl : am_tb m_Z_write 2 = some (.iconst 0, 1))) (v := 0) rfl ?_
  refine lv_aload_n hx hb (h1 _ _ (rfl : am_tb m_Z_write 3 = some (.aload_n 0, 1))) rfl (lv_at hl 0 rfl) ?_
  refine lv_iload_n hx hb (h1 _ _ (rfl : am_tb m_Z_write 4 = some (.iload_n 1, 1))) rfl (lv_at hl 1 rfl) ?_
  refine lv_iload_n hx hb (h1 _ _ (rfl : am_tb m_Z_write 5 = some (.iload_n 2, 1))) rfl (lv_at hl 2 rfl) ?_
  refine lv_iload_n hx hb (h1 _ _ (rfl : am_tb m_Z_write 6 = some (.iload_n 3, 1))) rfl (lv_at hl 3 rfl) ?_
  refine tr_try (As := [.int x, .int y, .int z]) (rest := [.int 0, .ref 37]) (w := wd C Y og) hX (h1 _ _ (rfl : am_tb m_Z_write 7 = some (.invokevirtual 37, 3))) ok_S_write oi_S_write lk_10_37 (Or.inl ⟨_, _, _, rfl, rfl, rfl⟩) hMx rfl rfl (by show 9 ≤ d; omega) (by show 400 ≤ 40 * d; omega) ⟨Nat.le_refl 1, Nat.le_refl 6⟩ (Nat.le_of_ble_eq_true rfl) hP hD hls htS htB y9 ht9 (by simp [covers, hy1, hy2]) (by rw [hy4]; decide) (by rw [hy4]; exact zx_cl.2) (by simp [tr_dc]) ?_
  intro H1 hz1 hq1
  rw [hy3]
  refine lv_astore hx hb (h1 _ _ (rfl : am_tb m_Z_write 15 = some (.astore 5, 2))) hl (by decide) rfl ?_
  intro ls2 hl2
  refine lv_iconst hx hb (h1 _ _ (rfl : am_tb m_Z_write 17 = some (.iconst 1, 1))) (v := 1) rfl ?_
  refine W.iret hx hb hret (fun t ht' hW => ⟨some (.int 1), wd C Y og, rfl, ⟨rfl, rfl⟩, rfl, ?_, hD, ?_⟩) (fun q hq => by cases hq) (h1 _ _ (rfl : am_tb m_Z_write 18 = some (.ireturn, 1))) hlk
  · rw [ht']; exact hP.kept (fun k q hk => hq1 q.1 ((hP k q hk).lt))
  · exact ⟨by rw [ht']; exact hz1, fun q h2 h3 => by rw [ht']; exact hq1 q h2⟩
set_option maxHeartbeats 4000000 in
set_option maxRecDepth 100000 in
theorem z_told (base d : Nat) (C : wd_C) (Y : wd_Y) (og : Nat → Int64) (x : Int32) (r : Int32) (PP : wd_C → Prop) (hMt : am_Mt l D cA ad fm d m_S_told [.ref 0, .int x] (wd C Y og) (fun vr w' => vr = some (.int r) ∧ ∃ C', w' = wd C' Y og ∧ PP C')) : am_Mz l D cA ad fm base (d + 1) m_Z_told [(0, 9, 12, 19)] [.ref 0, .int x, .ref 37] (wd C Y og) (fun vr w' => vr = some (.int 0) ∧ ∃ C', w' = wd C' Y (vp_updL og 0 (r.toInt64)) ∧ PP C') := by
  refine am_mz td_Z_told (by decide) rfl (by simp [am_arg, Value.category, m_Z_told, am_ml]) ?_
  refine am_eq_r (q' := (0, [some (.ref 0), some (.int x), some (.ref 37), none], [], wd C Y og)) rfl ?_
  refine am_steps_z td_Z_told 4 (q' := (4, [some (.ref 0), some (.int x), some (.ref 37), none], [.int x, .ref 0, .int 0, .ref 37], wd C Y og)) rfl ?_
  refine am_callV_z (As := [.int x]) (rest := [.int 0, .ref 37]) td_Z_told rfl rfl ok_S_told oi_S_told lk_10_41 (Or.inl ⟨_, _, _, rfl, rfl, rfl⟩) rfl rfl (Nat.le_of_ble_eq_true rfl) hMt ?_
  rintro v_ w_ ⟨rfl, C9, rfl, hq⟩ -
  refine am_eq_r (q' := (7, [some (.ref 0), some (.int x), some (.ref 37), none], [.int r, .int 0, .ref 37], wd C9 Y og)) rfl ?_
  refine am_steps_z td_Z_told 1 (q' := (8, [some (.ref 0), some (.int x), some (.ref 37), none], [.long r.toInt64, .int 0, .ref 37], wd C9 Y og)) rfl ?_
  refine am_last_z td_Z_told rfl (w := wd C9 Y og) (f := og) rfl rfl (pk_in 0 1 (by omega)) ?_
  refine am_eq_r (q' := (9, [some (.ref 0), some (.int x), some (.ref 37), none], [], wd C9 Y (vp_updL og 0 r.toInt64))) rfl ?_
  refine am_steps_z td_Z_told 2 (q' := (16, [some (.ref 0), some (.int x), some (.ref 37), none], [.int 0], wd C9 Y (vp_updL og 0 r.toInt64))) rfl ?_
  refine am_iret_z td_Z_told rfl rfl rfl ?_
  exact ⟨rfl, C9, rfl, hq⟩
set_option maxHeartbeats 1000000 in
theorem zx_told (base d : Nat) (hd9 : 10 ≤ d) (C : wd_C) (Y : wd_Y) (og : Nat → Int64) (x : Int32) (hMx : am_Mx l D cA ad fm m_S_told tr_X [.ref 0, .int x] (wd C Y og)) : am_Mz l D cA ad fm base d m_Z_told [(0, 9, 12, 19)] [.ref 0, .int x, .ref 37] (wd C Y og) (fun vr w' => vr = some (.int 1) ∧ w' = wd C Y og) := by
  refine am_mzx td_Z_told (by decide) rfl (by simp [am_arg, Value.category, m_Z_told, am_ml]) ?_
  intro p e s m below meth c ls y9 hX htS htB ht9 hy1 hy2 hy3 hy4 hret hlk hl hP hD
  have h1 := td_Z_told
  have hx := hX.1
  have hb := hX.2.1
  have hls := hl.1
  refine lv_aload_n hx hb (h1 _ _ (rfl : am_tb m_Z_told 0 = some (.aload_n 2, 1))) rfl (lv_at hl 2 rfl) ?_
  refine lv_iconst hx hb (h1 _ _ (rfl : am_tb m_Z_told 1 = some (.iconst 0, 1))) (v := 0) rfl ?_
  refine lv_aload_n hx hb (h1 _ _ (rfl : am_tb m_Z_told 2 = some (.aload_n 0, 1))) rfl (lv_at hl 0 rfl) ?_
  refine lv_iload_n hx hb (h1 _ _ (rfl : am_tb m_Z_told 3 = some (.iload_n 1, 1))) rfl (lv_at hl 1 rfl) ?_
  refine tr_try (As := [.int x]) (rest := [.int 0, .ref 37]) (w := wd C Y og) hX (h1 _ _ (rfl : am_tb m_Z_told 4 = some (.invokevirtual 41, 3))) ok_S_told oi_S_told lk_10_41 (Or.inl ⟨_, _, _, rfl, rfl, rfl⟩) hMx rfl rfl (by show 9 ≤ d; omega) (by show 400 ≤ 40 * d; omega) ⟨Nat.le_refl 1, Nat.le_refl 6⟩ (Nat.le_of_ble_eq_true rfl) hP hD hls htS htB y9 ht9 (by simp [covers, hy1, hy2]) (by rw [hy4]; decide) (by rw [hy4]; exact zx_cl.2) (by simp [tr_dc]) ?_
  intro H1 hz1 hq1
  rw [hy3]
  refine lv_astore_n hx hb (h1 _ _ (rfl : am_tb m_Z_told 12 = some (.astore_n 3, 1))) rfl hl (by decide) rfl ?_
  intro ls2 hl2
  refine lv_iconst hx hb (h1 _ _ (rfl : am_tb m_Z_told 13 = some (.iconst 1, 1))) (v := 1) rfl ?_
  refine W.iret hx hb hret (fun t ht' hW => ⟨some (.int 1), wd C Y og, rfl, ⟨rfl, rfl⟩, rfl, ?_, hD, ?_⟩) (fun q hq => by cases hq) (h1 _ _ (rfl : am_tb m_Z_told 14 = some (.ireturn, 1))) hlk
  · rw [ht']; exact hP.kept (fun k q hk => hq1 q.1 ((hP k q hk).lt))
  · exact ⟨by rw [ht']; exact hz1, fun q h2 h3 => by rw [ht']; exact hq1 q h2⟩
end C107Z
