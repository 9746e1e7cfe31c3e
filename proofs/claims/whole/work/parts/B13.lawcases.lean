/-! the law's cases; printed by wip/gen/gB13.py -/
set_option maxRecDepth 100000 in
theorem zw_feed : am_cz m_Z_feed [(0, 11, 14, 13)] ∈ lw_g ∧ am_stat m_Z_feed ∧ Cond.initialized (am_y m_Z_feed).cls ∈ lw_g ∧ ((am_y m_Z_feed).cls ≠ "java/lang/invoke/MethodHandle" ∧ (am_y m_Z_feed).cls ≠ "java/lang/invoke/VarHandle" ∧ (parseMethodDescriptor (am_y m_Z_feed).desc).map (fun d => d.parameters.length) = some (am_np m_Z_feed)) ∧ am_ml m_Z_feed ≤ 21 := ⟨am_in 748 rfl rfl, am_in 747 (by decide +kernel) rfl, am_in 96 (by decide +kernel) rfl, ⟨by decide, by decide, by decide +kernel⟩, by decide⟩
set_option maxRecDepth 100000 in
theorem zw_object : am_cz m_Z_object [(0, 10, 13, 19)] ∈ lw_g ∧ am_stat m_Z_object ∧ Cond.initialized (am_y m_Z_object).cls ∈ lw_g ∧ ((am_y m_Z_object).cls ≠ "java/lang/invoke/MethodHandle" ∧ (am_y m_Z_object).cls ≠ "java/lang/invoke/VarHandle" ∧ (parseMethodDescriptor (am_y m_Z_object).desc).map (fun d => d.parameters.length) = some (am_np m_Z_object)) ∧ am_ml m_Z_object ≤ 21 := ⟨am_in 822 rfl rfl, am_in 821 (by decide +kernel) rfl, am_in 96 (by decide +kernel) rfl, ⟨by decide, by decide, by decide +kernel⟩, by decide⟩
set_option maxRecDepth 100000 in
theorem zw_value : am_cz m_Z_value [(0, 10, 13, 19)] ∈ lw_g ∧ am_stat m_Z_value ∧ Cond.initialized (am_y m_Z_value).cls ∈ lw_g ∧ ((am_y m_Z_value).cls ≠ "java/lang/invoke/MethodHandle" ∧ (am_y m_Z_value).cls ≠ "java/lang/invoke/VarHandle" ∧ (parseMethodDescriptor (am_y m_Z_value).desc).map (fun d => d.parameters.length) = some (am_np m_Z_value)) ∧ am_ml m_Z_value ≤ 21 := ⟨am_in 848 rfl rfl, am_in 847 (by decide +kernel) rfl, am_in 96 (by decide +kernel) rfl, ⟨by decide, by decide, by decide +kernel⟩, by decide⟩
set_option maxRecDepth 100000 in
theorem zw_number : am_cz m_Z_number [(0, 8, 11, 19)] ∈ lw_g ∧ am_stat m_Z_number ∧ Cond.initialized (am_y m_Z_number).cls ∈ lw_g ∧ ((am_y m_Z_number).cls ≠ "java/lang/invoke/MethodHandle" ∧ (am_y m_Z_number).cls ≠ "java/lang/invoke/VarHandle" ∧ (parseMethodDescriptor (am_y m_Z_number).desc).map (fun d => d.parameters.length) = some (am_np m_Z_number)) ∧ am_ml m_Z_number ≤ 21 := ⟨am_in 863 rfl rfl, am_in 862 (by decide +kernel) rfl, am_in 96 (by decide +kernel) rfl, ⟨by decide, by decide, by decide +kernel⟩, by decide⟩
set_option maxRecDepth 100000 in
theorem zw_byteOf : am_cz m_Z_byteOf [(0, 10, 13, 19)] ∈ lw_g ∧ am_stat m_Z_byteOf ∧ Cond.initialized (am_y m_Z_byteOf).cls ∈ lw_g ∧ ((am_y m_Z_byteOf).cls ≠ "java/lang/invoke/MethodHandle" ∧ (am_y m_Z_byteOf).cls ≠ "java/lang/invoke/VarHandle" ∧ (parseMethodDescriptor (am_y m_Z_byteOf).desc).map (fun d => d.parameters.length) = some (am_np m_Z_byteOf)) ∧ am_ml m_Z_byteOf ≤ 21 := ⟨am_in 872 rfl rfl, am_in 871 (by decide +kernel) rfl, am_in 96 (by decide +kernel) rfl, ⟨by decide, by decide, by decide +kernel⟩, by decide⟩
set_option maxRecDepth 100000 in
theorem zw_child : am_cz m_Z_child [(0, 10, 13, 19)] ∈ lw_g ∧ am_stat m_Z_child ∧ Cond.initialized (am_y m_Z_child).cls ∈ lw_g ∧ ((am_y m_Z_child).cls ≠ "java/lang/invoke/MethodHandle" ∧ (am_y m_Z_child).cls ≠ "java/lang/invoke/VarHandle" ∧ (parseMethodDescriptor (am_y m_Z_child).desc).map (fun d => d.parameters.length) = some (am_np m_Z_child)) ∧ am_ml m_Z_child ≤ 21 := ⟨am_in 880 rfl rfl, am_in 879 (by decide +kernel) rfl, am_in 96 (by decide +kernel) rfl, ⟨by decide, by decide, by decide +kernel⟩, by decide⟩
set_option maxRecDepth 100000 in
theorem zw_lookup : am_cz m_Z_lookup [(0, 10, 13, 19)] ∈ lw_g ∧ am_stat m_Z_lookup ∧ Cond.initialized (am_y m_Z_lookup).cls ∈ lw_g ∧ ((am_y m_Z_lookup).cls ≠ "java/lang/invoke/MethodHandle" ∧ (am_y m_Z_lookup).cls ≠ "java/lang/invoke/VarHandle" ∧ (parseMethodDescriptor (am_y m_Z_lookup).desc).map (fun d => d.parameters.length) = some (am_np m_Z_lookup)) ∧ am_ml m_Z_lookup ≤ 21 := ⟨am_in 892 rfl rfl, am_in 891 (by decide +kernel) rfl, am_in 96 (by decide +kernel) rfl, ⟨by decide, by decide, by decide +kernel⟩, by decide⟩
set_option maxRecDepth 100000 in
theorem zw_write : am_cz m_Z_write [(0, 12, 15, 19)] ∈ lw_g ∧ am_stat m_Z_write ∧ Cond.initialized (am_y m_Z_write).cls ∈ lw_g ∧ ((am_y m_Z_write).cls ≠ "java/lang/invoke/MethodHandle" ∧ (am_y m_Z_write).cls ≠ "java/lang/invoke/VarHandle" ∧ (parseMethodDescriptor (am_y m_Z_write).desc).map (fun d => d.parameters.length) = some (am_np m_Z_write)) ∧ am_ml m_Z_write ≤ 21 := ⟨am_in 903 rfl rfl, am_in 902 (by decide +kernel) rfl, am_in 96 (by decide +kernel) rfl, ⟨by decide, by decide, by decide +kernel⟩, by decide⟩
set_option maxRecDepth 100000 in
theorem zw_told : am_cz m_Z_told [(0, 9, 12, 19)] ∈ lw_g ∧ am_stat m_Z_told ∧ Cond.initialized (am_y m_Z_told).cls ∈ lw_g ∧ ((am_y m_Z_told).cls ≠ "java/lang/invoke/MethodHandle" ∧ (am_y m_Z_told).cls ≠ "java/lang/invoke/VarHandle" ∧ (parseMethodDescriptor (am_y m_Z_told).desc).map (fun d => d.parameters.length) = some (am_np m_Z_told)) ∧ am_ml m_Z_told ≤ 21 := ⟨am_in 1021 rfl rfl, am_in 1020 (by decide +kernel) rfl, am_in 96 (by decide +kernel) rfl, ⟨by decide, by decide, by decide +kernel⟩, by decide⟩
section LWG
variable {D : va_G} {cA : Nat → ClassId} {ad : Nat → Nat} {fm : Value} {p : Program} {l : Launch} {e : Env} {s : State} {m : MethodId} {args : Array Value} {below : List Frame} {meth : Method} {c : Code} {cells slots : Nat} {Q : State → Prop} {base Ls : Nat} {xs : Nat → Int32} {C : wd_C} {Y : wd_Y} {og : Nat → Int64} {iv : Int32}
/-- what the law's loop stands on -/
def lwH (D : va_G) (cA : Nat → ClassId) (ad : Nat → Nat) (fm : Value) (p : Program) (l : Launch) (s : State) (m : MethodId) (args : Array Value) (c : Code) (base Ls : Nat) (xs : Nat → Int32) : Prop :=
  am_X D cA ad fm 10 code 8 p s m args c (am_A ad 38 s.heap.size) ∧ va_X (ad 40) Ls xs s s.heap ∧ ad 40 < s.heap.size ∧ ¬ am_A ad 38 s.heap.size (ad 40) ∧ l.flags = pinnedFlags ++ [noTraceFlag] ∧ (fm = .null ∨ fm = .ref 3000) ∧ tr_S s ∧ trB base s ∧ (∀ q, am_A ad 38 s.heap.size q → base ≤ q) ∧ base ≤ s.heap.size
abbrev lwG (D : va_G) (cA : Nat → ClassId) (ad : Nat → Nat) (p : Program) (l : Launch) (e : Env) (s : State) (m : MethodId) (args : Array Value) (below : List Frame) (meth : Method) (c : Code) (Q : State → Prop) (cells slots : Nat) (q : am_St) : Prop := am_G D cA ad (am_A ad 38 s.heap.size) p l e room_1 s m args below meth c 8 cells slots Q q
theorem gl_nz_679 (H : lwH D cA ad fm p l s m args c base Ls xs) {L : am_L} {S : List Value} {w : am_W} (x : Int32) (k : ∀ r : Bool, r = (!decide (x = 0)) → lwG D cA ad p l e s m args below meth c Q cells slots (687, L, .int (bz r) :: S, w)) : lwG D cA ad p l e s m args below meth c Q cells slots (679, L, .int x :: S, w) := by
  refine am_g_steps H.1 td_Z_law 1 (q' := (bif decide (x = 0) then 686 else 682, L, S, w)) rfl ?_
  refine gl_br (fun h => ?_) (fun h => ?_)
  · refine am_g_steps H.1 td_Z_law 1 (q' := (687, L, .int 0 :: S, w)) rfl ?_
    exact k false (by rw [decide_eq_true h]; rfl)
  · refine am_g_steps H.1 td_Z_law 2 (q' := (687, L, .int 1 :: S, w)) rfl ?_
    exact k true (by rw [decide_eq_false h]; rfl)
theorem gl_nz_693 (H : lwH D cA ad fm p l s m args c base Ls xs) {L : am_L} {S : List Value} {w : am_W} (x : Int32) (k : ∀ r : Bool, r = (!decide (x = 0)) → lwG D cA ad p l e s m args below meth c Q cells slots (701, L, .int (bz r) :: S, w)) : lwG D cA ad p l e s m args below meth c Q cells slots (693, L, .int x :: S, w) := by
  refine am_g_steps H.1 td_Z_law 1 (q' := (bif decide (x = 0) then 700 else 696, L, S, w)) rfl ?_
  refine gl_br (fun h => ?_) (fun h => ?_)
  · refine am_g_steps H.1 td_Z_law 1 (q' := (701, L, .int 0 :: S, w)) rfl ?_
    exact k false (by rw [decide_eq_true h]; rfl)
  · refine am_g_steps H.1 td_Z_law 2 (q' := (701, L, .int 1 :: S, w)) rfl ?_
    exact k true (by rw [decide_eq_false h]; rfl)
theorem gl_nz_720 (H : lwH D cA ad fm p l s m args c base Ls xs) {L : am_L} {S : List Value} {w : am_W} (x : Int32) (k : ∀ r : Bool, r = (!decide (x = 0)) → lwG D cA ad p l e s m args below meth c Q cells slots (728, L, .int (bz r) :: S, w)) : lwG D cA ad p l e s m args below meth c Q cells slots (720, L, .int x :: S, w) := by
  refine am_g_steps H.1 td_Z_law 1 (q' := (bif decide (x = 0) then 727 else 723, L, S, w)) rfl ?_
  refine gl_br (fun h => ?_) (fun h => ?_)
  · refine am_g_steps H.1 td_Z_law 1 (q' := (728, L, .int 0 :: S, w)) rfl ?_
    exact k false (by rw [decide_eq_true h]; rfl)
  · refine am_g_steps H.1 td_Z_law 2 (q' := (728, L, .int 1 :: S, w)) rfl ?_
    exact k true (by rw [decide_eq_false h]; rfl)
theorem gl_nz_734 (H : lwH D cA ad fm p l s m args c base Ls xs) {L : am_L} {S : List Value} {w : am_W} (x : Int32) (k : ∀ r : Bool, r = (!decide (x = 0)) → lwG D cA ad p l e s m args below meth c Q cells slots (742, L, .int (bz r) :: S, w)) : lwG D cA ad p l e s m args below meth c Q cells slots (734, L, .int x :: S, w) := by
  refine am_g_steps H.1 td_Z_law 1 (q' := (bif decide (x = 0) then 741 else 737, L, S, w)) rfl ?_
  refine gl_br (fun h => ?_) (fun h => ?_)
  · refine am_g_steps H.1 td_Z_law 1 (q' := (742, L, .int 0 :: S, w)) rfl ?_
    exact k false (by rw [decide_eq_true h]; rfl)
  · refine am_g_steps H.1 td_Z_law 2 (q' := (742, L, .int 1 :: S, w)) rfl ?_
    exact k true (by rw [decide_eq_false h]; rfl)
set_option maxHeartbeats 2000000 in
set_option maxRecDepth 100000 in
theorem lw_c_feed (H : lwH D cA ad fm p l s m args c base Ls xs) (I : lwV C Y) (i1 : vp_in (iv + 1) Ls) (i2 : vp_in (iv + 2) Ls) (i3 : vp_in (iv + 3) Ls) (hcs : cells + 1 ≤ 601024 ∧ slots + 6 ≤ 7293034) (k : ∀ C' Y' og', lwV C' Y' → lwG D cA ad p l e s m args below meth c Q (cells + 1) (slots + 6) (872, [some (.ref 40), some (.ref 0), some (.ref 19), some (.ref 37), some (.int iv), none, none, none], [], wd C' Y' og')) : lwG D cA ad p l e s m args below meth c Q cells slots (108, [some (.ref 40), some (.ref 0), some (.ref 19), some (.ref 37), some (.int iv), none, none, none], [], wd C Y og) := by
  refine am_g_steps H.1 td_Z_law 1 (q' := (109, [some (.ref 40), some (.ref 0), some (.ref 19), some (.ref 37), some (.int iv), none, none, none], [.ref 0], wd C Y og)) rfl ?_
  refine am_g_steps H.1 td_Z_law 4 (q' := (114, [some (.ref 40), some (.ref 0), some (.ref 19), some (.ref 37), some (.int iv), none, none, none], [.int (iv + 1), .ref 40, .ref 0], wd C Y og)) rfl ?_
  refine gl_sld H.1 H.2.1 H.2.2.1 H.2.2.2.1 i1 (td_Z_law _ _ rfl) ?_
  refine gl_eq (q' := (115, [some (.ref 40), some (.ref 0), some (.ref 19), some (.ref 37), some (.int iv), none, none, none], [.int (xs (iv + 1).toNatClampNeg), .ref 0], wd C Y og)) rfl ?_
  refine am_g_steps H.1 td_Z_law 4 (q' := (120, [some (.ref 40), some (.ref 0), some (.ref 19), some (.ref 37), some (.int iv), none, none, none], [.int (iv + 2), .ref 40, .int (xs (iv + 1).toNatClampNeg), .ref 0], wd C Y og)) rfl ?_
  refine gl_sld H.1 H.2.1 H.2.2.1 H.2.2.2.1 i2 (td_Z_law _ _ rfl) ?_
  refine gl_eq (q' := (121, [some (.ref 40), some (.ref 0), some (.ref 19), some (.ref 37), some (.int iv), none, none, none], [.int (xs (iv + 2).toNatClampNeg), .int (xs (iv + 1).toNatClampNeg), .ref 0], wd C Y og)) rfl ?_
  refine am_g_steps H.1 td_Z_law 7 (q' := (130, [some (.ref 40), some (.ref 0), some (.ref 19), some (.ref 37), some (.int iv), none, none, none], [.int (iv + 3), .ref 40, .long ((xs (iv + 2).toNatClampNeg).toInt64 <<< ((32 : Int32).toInt64 &&& 63)), .int (xs (iv + 1).toNatClampNeg), .ref 0], wd C Y og)) rfl ?_
  refine gl_sld H.1 H.2.1 H.2.2.1 H.2.2.2.1 i3 (td_Z_law _ _ rfl) ?_
  refine gl_eq (q' := (131, [some (.ref 40), some (.ref 0), some (.ref 19), some (.ref 37), some (.int iv), none, none, none], [.int (xs (iv + 3).toNatClampNeg), .long ((xs (iv + 2).toNatClampNeg).toInt64 <<< ((32 : Int32).toInt64 &&& 63)), .int (xs (iv + 1).toNatClampNeg), .ref 0], wd C Y og)) rfl ?_
  refine am_g_steps H.1 td_Z_law 4 (q' := (137, [some (.ref 40), some (.ref 0), some (.ref 19), some (.ref 37), some (.int iv), none, none, none], [.long ((xs (iv + 2).toNatClampNeg).toInt64 <<< ((32 : Int32).toInt64 &&& 63) ||| (xs (iv + 3).toNatClampNeg).toInt64 &&& 4294967295), .int (xs (iv + 1).toNatClampNeg), .ref 0], wd C Y og)) rfl ?_
  refine am_g_steps H.1 td_Z_law 1 (q' := (138, [some (.ref 40), some (.ref 0), some (.ref 19), some (.ref 37), some (.int iv), none, none, none], [.ref 37, .long ((xs (iv + 2).toNatClampNeg).toInt64 <<< ((32 : Int32).toInt64 &&& 63) ||| (xs (iv + 3).toNatClampNeg).toInt64 &&& 4294967295), .int (xs (iv + 1).toNatClampNeg), .ref 0], wd C Y og)) rfl ?_
  obtain ⟨k0, PC, hz, hm⟩ := p_feed (l := l) (D := D) (cA := cA) (ad := ad) (fm := fm) (base := base) (og := og) H.2.2.2.2.1 I (xs (iv + 1).toNatClampNeg) ((xs (iv + 2).toNatClampNeg).toInt64 <<< ((32 : Int32).toInt64 &&& 63) ||| (xs (iv + 3).toNatClampNeg).toInt64 &&& 4294967295)
  refine am_g_callZ (As := [.ref 0, .int (xs (iv + 1).toNatClampNeg), .long ((xs (iv + 2).toNatClampNeg).toInt64 <<< ((32 : Int32).toInt64 &&& 63) ||| (xs (iv + 3).toNatClampNeg).toInt64 &&& 4294967295), .ref 37]) (rest := []) (w := wd C Y og) H.1 (td_Z_law _ _ rfl) zw_feed.1 zw_feed.2.1 zw_feed.2.2.1 zw_feed.2.2.2.1 zw_feed.2.2.2.2 lk_10_51 hz rfl rfl (by decide) (by decide) hcs (Nat.zero_le _) H.2.2.2.2.2.2.1 H.2.2.2.2.2.2.2.1 H.2.2.2.2.2.2.2.2.1 H.2.2.2.2.2.2.2.2.2 ?_
  rintro v_ w_ ⟨rfl, C1, og1, rfl, hPC⟩ -
  refine gl_eq (q' := (141, [some (.ref 40), some (.ref 0), some (.ref 19), some (.ref 37), some (.int iv), none, none, none], [.int k0], wd C1 Y og1)) rfl ?_
  refine am_g_steps H.1 td_Z_law 2 (q' := (144, [some (.ref 40), some (.ref 0), some (.ref 19), some (.ref 37), some (.int iv), some (.int k0), none, none], [.ref 19], wd C1 Y og1)) rfl ?_
  refine am_g_steps H.1 td_Z_law 4 (q' := (149, [some (.ref 40), some (.ref 0), some (.ref 19), some (.ref 37), some (.int iv), some (.int k0), none, none], [.int (iv + 1), .ref 40, .ref 19], wd C1 Y og1)) rfl ?_
  refine gl_sld H.1 H.2.1 H.2.2.1 H.2.2.2.1 i1 (td_Z_law _ _ rfl) ?_
  refine gl_eq (q' := (150, [some (.ref 40), some (.ref 0), some (.ref 19), some (.ref 37), some (.int iv), some (.int k0), none, none], [.int (xs (iv + 1).toNatClampNeg), .ref 19], wd C1 Y og1)) rfl ?_
  refine am_g_steps H.1 td_Z_law 4 (q' := (155, [some (.ref 40), some (.ref 0), some (.ref 19), some (.ref 37), some (.int iv), some (.int k0), none, none], [.int (iv + 2), .ref 40, .int (xs (iv + 1).toNatClampNeg), .ref 19], wd C1 Y og1)) rfl ?_
  refine gl_sld H.1 H.2.1 H.2.2.1 H.2.2.2.1 i2 (td_Z_law _ _ rfl) ?_
  refine gl_eq (q' := (156, [some (.ref 40), some (.ref 0), some (.ref 19), some (.ref 37), some (.int iv), some (.int k0), none, none], [.int (xs (iv + 2).toNatClampNeg), .int (xs (iv + 1).toNatClampNeg), .ref 19], wd C1 Y og1)) rfl ?_
  refine am_g_steps H.1 td_Z_law 7 (q' := (165, [some (.ref 40), some (.ref 0), some (.ref 19), some (.ref 37), some (.int iv), some (.int k0), none, none], [.int (iv + 3), .ref 40, .long ((xs (iv + 2).toNatClampNeg).toInt64 <<< ((32 : Int32).toInt64 &&& 63)), .int (xs (iv + 1).toNatClampNeg), .ref 19], wd C1 Y og1)) rfl ?_
  refine gl_sld H.1 H.2.1 H.2.2.1 H.2.2.2.1 i3 (td_Z_law _ _ rfl) ?_
  refine gl_eq (q' := (166, [some (.ref 40), some (.ref 0), some (.ref 19), some (.ref 37), some (.int iv), some (.int k0), none, none], [.int (xs (iv + 3).toNatClampNeg), .long ((xs (iv + 2).toNatClampNeg).toInt64 <<< ((32 : Int32).toInt64 &&& 63)), .int (xs (iv + 1).toNatClampNeg), .ref 19], wd C1 Y og1)) rfl ?_
  refine am_g_steps H.1 td_Z_law 4 (q' := (172, [some (.ref 40), some (.ref 0), some (.ref 19), some (.ref 37), some (.int iv), some (.int k0), none, none], [.long ((xs (iv + 2).toNatClampNeg).toInt64 <<< ((32 : Int32).toInt64 &&& 63) ||| (xs (iv + 3).toNatClampNeg).toInt64 &&& 4294967295), .int (xs (iv + 1).toNatClampNeg), .ref 19], wd C1 Y og1)) rfl ?_
  refine am_g_callV (As := [.int (xs (iv + 1).toNatClampNeg), .long ((xs (iv + 2).toNatClampNeg).toInt64 <<< ((32 : Int32).toInt64 &&& 63) ||| (xs (iv + 3).toNatClampNeg).toInt64 &&& 4294967295)]) (a := 19) (rest := []) (w := wd C1 Y og1) H.1 (td_Z_law _ _ rfl) ok_M_feed oi_M_feed lk_10_56 (Or.inl ⟨_, _, _, rfl, rfl, rfl⟩) (hm C1 og1 hPC) rfl rfl (by decide) (by decide) hcs (Nat.zero_le _) ?_
  rintro v_ w_ ⟨b9, Y1, rfl, rfl, h0, hV, hog⟩ -
  refine gl_eq (q' := (175, [some (.ref 40), some (.ref 0), some (.ref 19), some (.ref 37), some (.int iv), some (.int k0), none, none], [.int b9], wd C1 Y1 og1)) rfl ?_
  refine am_g_steps H.1 td_Z_law 2 (q' := (178, [some (.ref 40), some (.ref 0), some (.ref 19), some (.ref 37), some (.int iv), some (.int k0), some (.int b9), none], [.ref 19], wd C1 Y1 og1)) rfl ?_
  refine am_g_callV (As := []) (a := 19) (rest := []) (w := wd C1 Y1 og1) H.1 (td_Z_law _ _ rfl) ok_M_thrown oi_M_thrown lk_10_57 (Or.inl ⟨_, _, _, rfl, rfl, rfl⟩) (c_M_thrown 40 C1 Y1 og1) rfl rfl (by decide) (by decide) hcs (Nat.zero_le _) ?_
  rintro v_ w_ ⟨rfl, rfl⟩ -
  rw [h0]
  refine gl_eq (q' := (181, [some (.ref 40), some (.ref 0), some (.ref 19), some (.ref 37), some (.int iv), some (.int k0), some (.int b9), none], [.int k0], wd C1 Y1 og1)) rfl ?_
  refine am_g_steps H.1 td_Z_law 1 (q' := (183, [some (.ref 40), some (.ref 0), some (.ref 19), some (.ref 37), some (.int iv), some (.int k0), some (.int b9), none], [.int k0, .int k0], wd C1 Y1 og1)) rfl ?_
  refine am_g_steps H.1 td_Z_law 1 (q' := (bif decide (k0 = k0) then 188 else 186, [some (.ref 40), some (.ref 0), some (.ref 19), some (.ref 37), some (.int iv), some (.int k0), some (.int b9), none], [], wd C1 Y1 og1)) rfl ?_
  refine gl_br (fun _ => ?_) (fun h => absurd rfl h)
  refine am_g_steps H.1 td_Z_law 1 (q' := (190, [some (.ref 40), some (.ref 0), some (.ref 19), some (.ref 37), some (.int iv), some (.int k0), some (.int b9), none], [.int k0], wd C1 Y1 og1)) rfl ?_
  have fin : lwG D cA ad p l e s m args below meth c Q (cells + 1) (slots + 6) (205, [some (.ref 40), some (.ref 0), some (.ref 19), some (.ref 37), some (.int iv), some (.int k0), some (.int b9), none], [], wd C1 Y1 og1) := by
    refine am_g_steps H.1 td_Z_law 1 (q' := (872, [some (.ref 40), some (.ref 0), some (.ref 19), some (.ref 37), some (.int iv), some (.int k0), some (.int b9), none], [], wd C1 Y1 og1)) rfl ?_
    refine am_g_less (L' := [some (.ref 40), some (.ref 0), some (.ref 19), some (.ref 37), some (.int iv), none, none, none]) (fun k9 v9 h9 => ?_) (k C1 Y1 og1 hV)
    rcases k9 with _ | _ | _ | _ | _ | _ | _ | _ | k9 <;> first | exact h9 | (exact absurd h9 (by simp))
  refine am_g_steps H.1 td_Z_law 1 (q' := (bif decide (k0 = 0) then 193 else 205, [some (.ref 40), some (.ref 0), some (.ref 19), some (.ref 37), some (.int iv), some (.int k0), some (.int b9), none], [], wd C1 Y1 og1)) rfl ?_
  refine gl_br (fun hk0 => ?_) (fun _ => fin)
  refine am_g_steps H.1 td_Z_law 2 (q' := (195, [some (.ref 40), some (.ref 0), some (.ref 19), some (.ref 37), some (.int iv), some (.int k0), some (.int b9), none], [.int 0, .ref 37], wd C1 Y1 og1)) rfl ?_
  refine gl_lald (a := 37) (f := og1) (N := 1) H.1 rfl rfl (pk_in 0 1 (by omega)) (td_Z_law _ _ rfl) ?_
  refine gl_eq (q' := (196, [some (.ref 40), some (.ref 0), some (.ref 19), some (.ref 37), some (.int iv), some (.int k0), some (.int b9), none], [.long (og1 0)], wd C1 Y1 og1)) rfl ?_
  refine am_g_steps H.1 td_Z_law 2 (q' := (199, [some (.ref 40), some (.ref 0), some (.ref 19), some (.ref 37), some (.int iv), some (.int k0), some (.int b9), none], [.long b9.toInt64, .long (og1 0)], wd C1 Y1 og1)) rfl ?_
  refine am_g_steps H.1 td_Z_law 1 (q' := (200, [some (.ref 40), some (.ref 0), some (.ref 19), some (.ref 37), some (.int iv), some (.int k0), some (.int b9), none], [.int (lg_cmp (og1 0) b9.toInt64)], wd C1 Y1 og1)) rfl ?_
  refine am_g_steps H.1 td_Z_law 1 (q' := (bif decide (lg_cmp (og1 0) b9.toInt64 = 0) then 205 else 203, [some (.ref 40), some (.ref 0), some (.ref 19), some (.ref 37), some (.int iv), some (.int k0), some (.int b9), none], [], wd C1 Y1 og1)) rfl ?_
  exact gl_br (fun _ => fin) (fun h => absurd (cmp_0.mpr (hog hk0)) h)
set_option maxHeartbeats 2000000 in
set_option maxRecDepth 100000 in
theorem lw_c_wipe (H : lwH D cA ad fm p l s m args c base Ls xs) (I : lwV C Y) (i1 : vp_in (iv + 1) Ls) (i2 : vp_in (iv + 2) Ls) (i3 : vp_in (iv + 3) Ls) (hcs : cells + 1 ≤ 601024 ∧ slots + 6 ≤ 7293034) (k : ∀ C' Y' og', lwV C' Y' → lwG D cA ad p l e s m args below meth c Q (cells) (slots) (872, [some (.ref 40), some (.ref 0), some (.ref 19), some (.ref 37), some (.int iv), none, none, none], [], wd C' Y' og')) : lwG D cA ad p l e s m args below meth c Q cells slots (208, [some (.ref 40), some (.ref 0), some (.ref 19), some (.ref 37), some (.int iv), none, none, none], [], wd C Y og) := by
  refine am_g_steps H.1 td_Z_law 1 (q' := (209, [some (.ref 40), some (.ref 0), some (.ref 19), some (.ref 37), some (.int iv), none, none, none], [.ref 0], wd C Y og)) rfl ?_
  obtain ⟨PC, hz, hm⟩ := p_wipe (l := l) (D := D) (cA := cA) (ad := ad) (fm := fm) (og := og) I 
  refine am_g_callV (As := []) (a := 0) (rest := []) (w := wd C Y og) H.1 (td_Z_law _ _ rfl) ok_S_wipe oi_S_wipe lk_10_61 (Or.inl ⟨_, _, _, rfl, rfl, rfl⟩) hz rfl rfl (by decide) (by decide) ⟨by show cells ≤ 601024; omega, by show slots ≤ 7293034; omega⟩ (Nat.zero_le _) ?_
  rintro v_ w_ ⟨x9, C1, rfl, rfl, hPC⟩ -
  refine gl_eq (q' := (212, [some (.ref 40), some (.ref 0), some (.ref 19), some (.ref 37), some (.int iv), none, none, none], [.int x9], wd C1 Y og)) rfl ?_
  refine am_g_steps H.1 td_Z_law 1 (q' := (213, [some (.ref 40), some (.ref 0), some (.ref 19), some (.ref 37), some (.int iv), none, none, none], [.ref 19, .int x9], wd C1 Y og)) rfl ?_
  refine am_g_callV (As := []) (a := 19) (rest := [.int x9]) (w := wd C1 Y og) H.1 (td_Z_law _ _ rfl) ok_M_wipe oi_M_wipe lk_10_64 (Or.inl ⟨_, _, _, rfl, rfl, rfl⟩) (hm x9 C1 hPC) rfl rfl (by decide) (by decide) ⟨by show cells ≤ 601024; omega, by show slots ≤ 7293034; omega⟩ (Nat.le_of_ble_eq_true rfl) ?_
  rintro v_ w_ ⟨Y1, rfl, rfl, hV⟩ -
  refine gl_eq (q' := (216, [some (.ref 40), some (.ref 0), some (.ref 19), some (.ref 37), some (.int iv), none, none, none], [.int x9, .int x9], wd C1 Y1 og)) rfl ?_
  refine am_g_steps H.1 td_Z_law 1 (q' := (bif decide (x9 = x9) then 872 else 219, [some (.ref 40), some (.ref 0), some (.ref 19), some (.ref 37), some (.int iv), none, none, none], [], wd C1 Y1 og)) rfl ?_
  exact gl_br (fun _ => k C1 Y1 og hV) (fun h => absurd rfl h)
set_option maxHeartbeats 2000000 in
set_option maxRecDepth 100000 in
theorem lw_c_read (H : lwH D cA ad fm p l s m args c base Ls xs) (I : lwV C Y) (i1 : vp_in (iv + 1) Ls) (i2 : vp_in (iv + 2) Ls) (i3 : vp_in (iv + 3) Ls) (hcs : cells + 1 ≤ 601024 ∧ slots + 6 ≤ 7293034) (k : ∀ C' Y' og', lwV C' Y' → lwG D cA ad p l e s m args below meth c Q (cells) (slots) (872, [some (.ref 40), some (.ref 0), some (.ref 19), some (.ref 37), some (.int iv), none, none, none], [], wd C' Y' og')) : lwG D cA ad p l e s m args below meth c Q cells slots (221, [some (.ref 40), some (.ref 0), some (.ref 19), some (.ref 37), some (.int iv), none, none, none], [], wd C Y og) := by
  refine am_g_steps H.1 td_Z_law 1 (q' := (222, [some (.ref 40), some (.ref 0), some (.ref 19), some (.ref 37), some (.int iv), none, none, none], [.ref 0], wd C Y og)) rfl ?_
  obtain ⟨PC, hz, hm⟩ := p_read (l := l) (D := D) (cA := cA) (ad := ad) (fm := fm) (og := og) H.2.2.2.2.2.1 I 
  refine am_g_callV (As := []) (a := 0) (rest := []) (w := wd C Y og) H.1 (td_Z_law _ _ rfl) ok_S_read oi_S_read lk_10_65 (Or.inl ⟨_, _, _, rfl, rfl, rfl⟩) hz rfl rfl (by decide) (by decide) ⟨by show cells ≤ 601024; omega, by show slots ≤ 7293034; omega⟩ (Nat.zero_le _) ?_
  rintro v_ w_ ⟨x9, C1, rfl, rfl, hPC⟩ -
  refine gl_eq (q' := (225, [some (.ref 40), some (.ref 0), some (.ref 19), some (.ref 37), some (.int iv), none, none, none], [.int x9], wd C1 Y og)) rfl ?_
  refine am_g_steps H.1 td_Z_law 1 (q' := (226, [some (.ref 40), some (.ref 0), some (.ref 19), some (.ref 37), some (.int iv), none, none, none], [.ref 19, .int x9], wd C1 Y og)) rfl ?_
  refine am_g_callV (As := []) (a := 19) (rest := [.int x9]) (w := wd C1 Y og) H.1 (td_Z_law _ _ rfl) ok_M_read oi_M_read lk_10_68 (Or.inl ⟨_, _, _, rfl, rfl, rfl⟩) (hm x9 C1 hPC) rfl rfl (by decide) (by decide) ⟨by show cells ≤ 601024; omega, by show slots ≤ 7293034; omega⟩ (Nat.le_of_ble_eq_true rfl) ?_
  rintro v_ w_ ⟨Y1, rfl, rfl, hV⟩ -
  refine gl_eq (q' := (229, [some (.ref 40), some (.ref 0), some (.ref 19), some (.ref 37), some (.int iv), none, none, none], [.int x9, .int x9], wd C1 Y1 og)) rfl ?_
  refine am_g_steps H.1 td_Z_law 1 (q' := (bif decide (x9 = x9) then 872 else 232, [some (.ref 40), some (.ref 0), some (.ref 19), some (.ref 37), some (.int iv), none, none, none], [], wd C1 Y1 og)) rfl ?_
  exact gl_br (fun _ => k C1 Y1 og hV) (fun h => absurd rfl h)
set_option maxHeartbeats 2000000 in
set_option maxRecDepth 100000 in
theorem lw_c_object (H : lwH D cA ad fm p l s m args c base Ls xs) (I : lwV C Y) (i1 : vp_in (iv + 1) Ls) (i2 : vp_in (iv + 2) Ls) (i3 : vp_in (iv + 3) Ls) (hcs : cells + 1 ≤ 601024 ∧ slots + 6 ≤ 7293034) (k : ∀ C' Y' og', lwV C' Y' → lwG D cA ad p l e s m args below meth c Q (cells + 1) (slots + 6) (872, [some (.ref 40), some (.ref 0), some (.ref 19), some (.ref 37), some (.int iv), none, none, none], [], wd C' Y' og')) : lwG D cA ad p l e s m args below meth c Q cells slots (234, [some (.ref 40), some (.ref 0), some (.ref 19), some (.ref 37), some (.int iv), none, none, none], [], wd C Y og) := by
  refine am_g_steps H.1 td_Z_law 1 (q' := (235, [some (.ref 40), some (.ref 0), some (.ref 19), some (.ref 37), some (.int iv), none, none, none], [.ref 0], wd C Y og)) rfl ?_
  refine am_g_steps H.1 td_Z_law 4 (q' := (240, [some (.ref 40), some (.ref 0), some (.ref 19), some (.ref 37), some (.int iv), none, none, none], [.int (iv + 1), .ref 40, .ref 0], wd C Y og)) rfl ?_
  refine gl_sld H.1 H.2.1 H.2.2.1 H.2.2.2.1 i1 (td_Z_law _ _ rfl) ?_
  refine gl_eq (q' := (241, [some (.ref 40), some (.ref 0), some (.ref 19), some (.ref 37), some (.int iv), none, none, none], [.int (xs (iv + 1).toNatClampNeg), .ref 0], wd C Y og)) rfl ?_
  refine am_g_steps H.1 td_Z_law 4 (q' := (246, [some (.ref 40), some (.ref 0), some (.ref 19), some (.ref 37), some (.int iv), none, none, none], [.int (iv + 2), .ref 40, .int (xs (iv + 1).toNatClampNeg), .ref 0], wd C Y og)) rfl ?_
  refine gl_sld H.1 H.2.1 H.2.2.1 H.2.2.2.1 i2 (td_Z_law _ _ rfl) ?_
  refine gl_eq (q' := (247, [some (.ref 40), some (.ref 0), some (.ref 19), some (.ref 37), some (.int iv), none, none, none], [.int (xs (iv + 2).toNatClampNeg), .int (xs (iv + 1).toNatClampNeg), .ref 0], wd C Y og)) rfl ?_
  refine am_g_steps H.1 td_Z_law 1 (q' := (248, [some (.ref 40), some (.ref 0), some (.ref 19), some (.ref 37), some (.int iv), none, none, none], [.ref 37, .int (xs (iv + 2).toNatClampNeg), .int (xs (iv + 1).toNatClampNeg), .ref 0], wd C Y og)) rfl ?_
  obtain ⟨k0, PC, hz, hm⟩ := p_object (l := l) (D := D) (cA := cA) (ad := ad) (fm := fm) (base := base) (og := og) H.2.2.2.2.1 I (xs (iv + 1).toNatClampNeg) (xs (iv + 2).toNatClampNeg)
  refine am_g_callZ (As := [.ref 0, .int (xs (iv + 1).toNatClampNeg), .int (xs (iv + 2).toNatClampNeg), .ref 37]) (rest := []) (w := wd C Y og) H.1 (td_Z_law _ _ rfl) zw_object.1 zw_object.2.1 zw_object.2.2.1 zw_object.2.2.2.1 zw_object.2.2.2.2 lk_10_69 hz rfl rfl (by decide) (by decide) hcs (Nat.zero_le _) H.2.2.2.2.2.2.1 H.2.2.2.2.2.2.2.1 H.2.2.2.2.2.2.2.2.1 H.2.2.2.2.2.2.2.2.2 ?_
  rintro v_ w_ ⟨rfl, C1, og1, rfl, hPC⟩ -
  refine gl_eq (q' := (251, [some (.ref 40), some (.ref 0), some (.ref 19), some (.ref 37), some (.int iv), none, none, none], [.int k0], wd C1 Y og1)) rfl ?_
  refine am_g_steps H.1 td_Z_law 2 (q' := (254, [some (.ref 40), some (.ref 0), some (.ref 19), some (.ref 37), some (.int iv), some (.int k0), none, none], [.ref 19], wd C1 Y og1)) rfl ?_
  refine am_g_steps H.1 td_Z_law 4 (q' := (259, [some (.ref 40), some (.ref 0), some (.ref 19), some (.ref 37), some (.int iv), some (.int k0), none, none], [.int (iv + 1), .ref 40, .ref 19], wd C1 Y og1)) rfl ?_
  refine gl_sld H.1 H.2.1 H.2.2.1 H.2.2.2.1 i1 (td_Z_law _ _ rfl) ?_
  refine gl_eq (q' := (260, [some (.ref 40), some (.ref 0), some (.ref 19), some (.ref 37), some (.int iv), some (.int k0), none, none], [.int (xs (iv + 1).toNatClampNeg), .ref 19], wd C1 Y og1)) rfl ?_
  refine am_g_steps H.1 td_Z_law 4 (q' := (265, [some (.ref 40), some (.ref 0), some (.ref 19), some (.ref 37), some (.int iv), some (.int k0), none, none], [.int (iv + 2), .ref 40, .int (xs (iv + 1).toNatClampNeg), .ref 19], wd C1 Y og1)) rfl ?_
  refine gl_sld H.1 H.2.1 H.2.2.1 H.2.2.2.1 i2 (td_Z_law _ _ rfl) ?_
  refine gl_eq (q' := (266, [some (.ref 40), some (.ref 0), some (.ref 19), some (.ref 37), some (.int iv), some (.int k0), none, none], [.int (xs (iv + 2).toNatClampNeg), .int (xs (iv + 1).toNatClampNeg), .ref 19], wd C1 Y og1)) rfl ?_
  refine am_g_callV (As := [.int (xs (iv + 1).toNatClampNeg), .int (xs (iv + 2).toNatClampNeg)]) (a := 19) (rest := []) (w := wd C1 Y og1) H.1 (td_Z_law _ _ rfl) ok_M_object oi_M_object lk_10_72 (Or.inl ⟨_, _, _, rfl, rfl, rfl⟩) (hm C1 og1 hPC) rfl rfl (by decide) (by decide) hcs (Nat.zero_le _) ?_
  rintro v_ w_ ⟨b9, Y1, rfl, rfl, h0, hV, hog⟩ -
  refine gl_eq (q' := (269, [some (.ref 40), some (.ref 0), some (.ref 19), some (.ref 37), some (.int iv), some (.int k0), none, none], [.int b9], wd C1 Y1 og1)) rfl ?_
  refine am_g_steps H.1 td_Z_law 2 (q' := (272, [some (.ref 40), some (.ref 0), some (.ref 19), some (.ref 37), some (.int iv), some (.int k0), some (.int b9), none], [.ref 19], wd C1 Y1 og1)) rfl ?_
  refine am_g_callV (As := []) (a := 19) (rest := []) (w := wd C1 Y1 og1) H.1 (td_Z_law _ _ rfl) ok_M_thrown oi_M_thrown lk_10_57 (Or.inl ⟨_, _, _, rfl, rfl, rfl⟩) (c_M_thrown 40 C1 Y1 og1) rfl rfl (by decide) (by decide) hcs (Nat.zero_le _) ?_
  rintro v_ w_ ⟨rfl, rfl⟩ -
  rw [h0]
  refine gl_eq (q' := (275, [some (.ref 40), some (.ref 0), some (.ref 19), some (.ref 37), some (.int iv), some (.int k0), some (.int b9), none], [.int k0], wd C1 Y1 og1)) rfl ?_
  refine am_g_steps H.1 td_Z_law 1 (q' := (277, [some (.ref 40), some (.ref 0), some (.ref 19), some (.ref 37), some (.int iv), some (.int k0), some (.int b9), none], [.int k0, .int k0], wd C1 Y1 og1)) rfl ?_
  refine am_g_steps H.1 td_Z_law 1 (q' := (bif decide (k0 = k0) then 282 else 280, [some (.ref 40), some (.ref 0), some (.ref 19), some (.ref 37), some (.int iv), some (.int k0), some (.int b9), none], [], wd C1 Y1 og1)) rfl ?_
  refine gl_br (fun _ => ?_) (fun h => absurd rfl h)
  refine am_g_steps H.1 td_Z_law 1 (q' := (284, [some (.ref 40), some (.ref 0), some (.ref 19), some (.ref 37), some (.int iv), some (.int k0), some (.int b9), none], [.int k0], wd C1 Y1 og1)) rfl ?_
  have fin : lwG D cA ad p l e s m args below meth c Q (cells + 1) (slots + 6) (299, [some (.ref 40), some (.ref 0), some (.ref 19), some (.ref 37), some (.int iv), some (.int k0), some (.int b9), none], [], wd C1 Y1 og1) := by
    refine am_g_steps H.1 td_Z_law 1 (q' := (872, [some (.ref 40), some (.ref 0), some (.ref 19), some (.ref 37), some (.int iv), some (.int k0), some (.int b9), none], [], wd C1 Y1 og1)) rfl ?_
    refine am_g_less (L' := [some (.ref 40), some (.ref 0), some (.ref 19), some (.ref 37), some (.int iv), none, none, none]) (fun k9 v9 h9 => ?_) (k C1 Y1 og1 hV)
    rcases k9 with _ | _ | _ | _ | _ | _ | _ | _ | k9 <;> first | exact h9 | (exact absurd h9 (by simp))
  refine am_g_steps H.1 td_Z_law 1 (q' := (bif decide (k0 = 0) then 287 else 299, [some (.ref 40), some (.ref 0), some (.ref 19), some (.ref 37), some (.int iv), some (.int k0), some (.int b9), none], [], wd C1 Y1 og1)) rfl ?_
  refine gl_br (fun hk0 => ?_) (fun _ => fin)
  refine am_g_steps H.1 td_Z_law 2 (q' := (289, [some (.ref 40), some (.ref 0), some (.ref 19), some (.ref 37), some (.int iv), some (.int k0), some (.int b9), none], [.int 0, .ref 37], wd C1 Y1 og1)) rfl ?_
  refine gl_lald (a := 37) (f := og1) (N := 1) H.1 rfl rfl (pk_in 0 1 (by omega)) (td_Z_law _ _ rfl) ?_
  refine gl_eq (q' := (290, [some (.ref 40), some (.ref 0), some (.ref 19), some (.ref 37), some (.int iv), some (.int k0), some (.int b9), none], [.long (og1 0)], wd C1 Y1 og1)) rfl ?_
  refine am_g_steps H.1 td_Z_law 2 (q' := (293, [some (.ref 40), some (.ref 0), some (.ref 19), some (.ref 37), some (.int iv), some (.int k0), some (.int b9), none], [.long b9.toInt64, .long (og1 0)], wd C1 Y1 og1)) rfl ?_
  refine am_g_steps H.1 td_Z_law 1 (q' := (294, [some (.ref 40), some (.ref 0), some (.ref 19), some (.ref 37), some (.int iv), some (.int k0), some (.int b9), none], [.int (lg_cmp (og1 0) b9.toInt64)], wd C1 Y1 og1)) rfl ?_
  refine am_g_steps H.1 td_Z_law 1 (q' := (bif decide (lg_cmp (og1 0) b9.toInt64 = 0) then 299 else 297, [some (.ref 40), some (.ref 0), some (.ref 19), some (.ref 37), some (.int iv), some (.int k0), some (.int b9), none], [], wd C1 Y1 og1)) rfl ?_
  exact gl_br (fun _ => fin) (fun h => absurd (cmp_0.mpr (hog hk0)) h)
set_option maxHeartbeats 2000000 in
set_option maxRecDepth 100000 in
theorem lw_c_find (H : lwH D cA ad fm p l s m args c base Ls xs) (I : lwV C Y) (i1 : vp_in (iv + 1) Ls) (i2 : vp_in (iv + 2) Ls) (i3 : vp_in (iv + 3) Ls) (hcs : cells + 1 ≤ 601024 ∧ slots + 6 ≤ 7293034) (k : ∀ C' Y' og', lwV C' Y' → lwG D cA ad p l e s m args below meth c Q (cells) (slots) (872, [some (.ref 40), some (.ref 0), some (.ref 19), some (.ref 37), some (.int iv), none, none, none], [], wd C' Y' og')) : lwG D cA ad p l e s m args below meth c Q cells slots (302, [some (.ref 40), some (.ref 0), some (.ref 19), some (.ref 37), some (.int iv), none, none, none], [], wd C Y og) := by
  refine am_g_steps H.1 td_Z_law 1 (q' := (303, [some (.ref 40), some (.ref 0), some (.ref 19), some (.ref 37), some (.int iv), none, none, none], [.ref 0], wd C Y og)) rfl ?_
  refine am_g_steps H.1 td_Z_law 4 (q' := (308, [some (.ref 40), some (.ref 0), some (.ref 19), some (.ref 37), some (.int iv), none, none, none], [.int (iv + 1), .ref 40, .ref 0], wd C Y og)) rfl ?_
  refine gl_sld H.1 H.2.1 H.2.2.1 H.2.2.2.1 i1 (td_Z_law _ _ rfl) ?_
  refine gl_eq (q' := (309, [some (.ref 40), some (.ref 0), some (.ref 19), some (.ref 37), some (.int iv), none, none, none], [.int (xs (iv + 1).toNatClampNeg), .ref 0], wd C Y og)) rfl ?_
  refine am_g_steps H.1 td_Z_law 4 (q' := (314, [some (.ref 40), some (.ref 0), some (.ref 19), some (.ref 37), some (.int iv), none, none, none], [.int (iv + 2), .ref 40, .int (xs (iv + 1).toNatClampNeg), .ref 0], wd C Y og)) rfl ?_
  refine gl_sld H.1 H.2.1 H.2.2.1 H.2.2.2.1 i2 (td_Z_law _ _ rfl) ?_
  refine gl_eq (q' := (315, [some (.ref 40), some (.ref 0), some (.ref 19), some (.ref 37), some (.int iv), none, none, none], [.int (xs (iv + 2).toNatClampNeg), .int (xs (iv + 1).toNatClampNeg), .ref 0], wd C Y og)) rfl ?_
  obtain ⟨PC, hz, hm⟩ := p_find (l := l) (D := D) (cA := cA) (ad := ad) (fm := fm) (og := og) I (xs (iv + 1).toNatClampNeg) (xs (iv + 2).toNatClampNeg)
  refine am_g_callV (As := [.int (xs (iv + 1).toNatClampNeg), .int (xs (iv + 2).toNatClampNeg)]) (a := 0) (rest := []) (w := wd C Y og) H.1 (td_Z_law _ _ rfl) ok_S_find oi_S_find lk_10_73 (Or.inl ⟨_, _, _, rfl, rfl, rfl⟩) hz rfl rfl (by decide) (by decide) ⟨by show cells ≤ 601024; omega, by show slots ≤ 7293034; omega⟩ (Nat.zero_le _) ?_
  rintro v_ w_ ⟨x9, C1, rfl, rfl, hPC⟩ -
  refine gl_eq (q' := (318, [some (.ref 40), some (.ref 0), some (.ref 19), some (.ref 37), some (.int iv), none, none, none], [.int x9], wd C1 Y og)) rfl ?_
  refine am_g_steps H.1 td_Z_law 1 (q' := (319, [some (.ref 40), some (.ref 0), some (.ref 19), some (.ref 37), some (.int iv), none, none, none], [.ref 19, .int x9], wd C1 Y og)) rfl ?_
  refine am_g_steps H.1 td_Z_law 4 (q' := (324, [some (.ref 40), some (.ref 0), some (.ref 19), some (.ref 37), some (.int iv), none, none, none], [.int (iv + 1), .ref 40, .ref 19, .int x9], wd C1 Y og)) rfl ?_
  refine gl_sld H.1 H.2.1 H.2.2.1 H.2.2.2.1 i1 (td_Z_law _ _ rfl) ?_
  refine gl_eq (q' := (325, [some (.ref 40), some (.ref 0), some (.ref 19), some (.ref 37), some (.int iv), none, none, none], [.int (xs (iv + 1).toNatClampNeg), .ref 19, .int x9], wd C1 Y og)) rfl ?_
  refine am_g_steps H.1 td_Z_law 4 (q' := (330, [some (.ref 40), some (.ref 0), some (.ref 19), some (.ref 37), some (.int iv), none, none, none], [.int (iv + 2), .ref 40, .int (xs (iv + 1).toNatClampNeg), .ref 19, .int x9], wd C1 Y og)) rfl ?_
  refine gl_sld H.1 H.2.1 H.2.2.1 H.2.2.2.1 i2 (td_Z_law _ _ rfl) ?_
  refine gl_eq (q' := (331, [some (.ref 40), some (.ref 0), some (.ref 19), some (.ref 37), some (.int iv), none, none, none], [.int (xs (iv + 2).toNatClampNeg), .int (xs (iv + 1).toNatClampNeg), .ref 19, .int x9], wd C1 Y og)) rfl ?_
  refine am_g_callV (As := [.int (xs (iv + 1).toNatClampNeg), .int (xs (iv + 2).toNatClampNeg)]) (a := 19) (rest := [.int x9]) (w := wd C1 Y og) H.1 (td_Z_law _ _ rfl) ok_M_find oi_M_find lk_10_76 (Or.inl ⟨_, _, _, rfl, rfl, rfl⟩) (hm x9 C1 hPC) rfl rfl (by decide) (by decide) ⟨by show cells ≤ 601024; omega, by show slots ≤ 7293034; omega⟩ (Nat.le_of_ble_eq_true rfl) ?_
  rintro v_ w_ ⟨Y1, rfl, rfl, hV⟩ -
  refine gl_eq (q' := (334, [some (.ref 40), some (.ref 0), some (.ref 19), some (.ref 37), some (.int iv), none, none, none], [.int x9, .int x9], wd C1 Y1 og)) rfl ?_
  refine am_g_steps H.1 td_Z_law 1 (q' := (bif decide (x9 = x9) then 872 else 337, [some (.ref 40), some (.ref 0), some (.ref 19), some (.ref 37), some (.int iv), none, none, none], [], wd C1 Y1 og)) rfl ?_
  exact gl_br (fun _ => k C1 Y1 og hV) (fun h => absurd rfl h)
set_option maxHeartbeats 2000000 in
set_option maxRecDepth 100000 in
theorem lw_c_value (H : lwH D cA ad fm p l s m args c base Ls xs) (I : lwV C Y) (i1 : vp_in (iv + 1) Ls) (i2 : vp_in (iv + 2) Ls) (i3 : vp_in (iv + 3) Ls) (hcs : cells + 1 ≤ 601024 ∧ slots + 6 ≤ 7293034) (k : ∀ C' Y' og', lwV C' Y' → lwG D cA ad p l e s m args below meth c Q (cells + 1) (slots + 6) (872, [some (.ref 40), some (.ref 0), some (.ref 19), some (.ref 37), some (.int iv), none, none, none], [], wd C' Y' og')) : lwG D cA ad p l e s m args below meth c Q cells slots (339, [some (.ref 40), some (.ref 0), some (.ref 19), some (.ref 37), some (.int iv), none, none, none], [], wd C Y og) := by
  refine am_g_steps H.1 td_Z_law 1 (q' := (340, [some (.ref 40), some (.ref 0), some (.ref 19), some (.ref 37), some (.int iv), none, none, none], [.ref 0], wd C Y og)) rfl ?_
  refine am_g_steps H.1 td_Z_law 4 (q' := (345, [some (.ref 40), some (.ref 0), some (.ref 19), some (.ref 37), some (.int iv), none, none, none], [.int (iv + 1), .ref 40, .ref 0], wd C Y og)) rfl ?_
  refine gl_sld H.1 H.2.1 H.2.2.1 H.2.2.2.1 i1 (td_Z_law _ _ rfl) ?_
  refine gl_eq (q' := (346, [some (.ref 40), some (.ref 0), some (.ref 19), some (.ref 37), some (.int iv), none, none, none], [.int (xs (iv + 1).toNatClampNeg), .ref 0], wd C Y og)) rfl ?_
  refine am_g_steps H.1 td_Z_law 4 (q' := (351, [some (.ref 40), some (.ref 0), some (.ref 19), some (.ref 37), some (.int iv), none, none, none], [.int (iv + 2), .ref 40, .int (xs (iv + 1).toNatClampNeg), .ref 0], wd C Y og)) rfl ?_
  refine gl_sld H.1 H.2.1 H.2.2.1 H.2.2.2.1 i2 (td_Z_law _ _ rfl) ?_
  refine gl_eq (q' := (352, [some (.ref 40), some (.ref 0), some (.ref 19), some (.ref 37), some (.int iv), none, none, none], [.int (xs (iv + 2).toNatClampNeg), .int (xs (iv + 1).toNatClampNeg), .ref 0], wd C Y og)) rfl ?_
  refine am_g_steps H.1 td_Z_law 1 (q' := (353, [some (.ref 40), some (.ref 0), some (.ref 19), some (.ref 37), some (.int iv), none, none, none], [.ref 37, .int (xs (iv + 2).toNatClampNeg), .int (xs (iv + 1).toNatClampNeg), .ref 0], wd C Y og)) rfl ?_
  obtain ⟨k0, PC, hz, hm⟩ := p_value (l := l) (D := D) (cA := cA) (ad := ad) (fm := fm) (base := base) (og := og) H.2.2.2.2.1 I (xs (iv + 1).toNatClampNeg) (xs (iv + 2).toNatClampNeg)
  refine am_g_callZ (As := [.ref 0, .int (xs (iv + 1).toNatClampNeg), .int (xs (iv + 2).toNatClampNeg), .ref 37]) (rest := []) (w := wd C Y og) H.1 (td_Z_law _ _ rfl) zw_value.1 zw_value.2.1 zw_value.2.2.1 zw_value.2.2.2.1 zw_value.2.2.2.2 lk_10_77 hz rfl rfl (by decide) (by decide) hcs (Nat.zero_le _) H.2.2.2.2.2.2.1 H.2.2.2.2.2.2.2.1 H.2.2.2.2.2.2.2.2.1 H.2.2.2.2.2.2.2.2.2 ?_
  rintro v_ w_ ⟨rfl, C1, og1, rfl, hPC⟩ -
  refine gl_eq (q' := (356, [some (.ref 40), some (.ref 0), some (.ref 19), some (.ref 37), some (.int iv), none, none, none], [.int k0], wd C1 Y og1)) rfl ?_
  refine am_g_steps H.1 td_Z_law 2 (q' := (359, [some (.ref 40), some (.ref 0), some (.ref 19), some (.ref 37), some (.int iv), some (.int k0), none, none], [.ref 19], wd C1 Y og1)) rfl ?_
  refine am_g_steps H.1 td_Z_law 4 (q' := (364, [some (.ref 40), some (.ref 0), some (.ref 19), some (.ref 37), some (.int iv), some (.int k0), none, none], [.int (iv + 1), .ref 40, .ref 19], wd C1 Y og1)) rfl ?_
  refine gl_sld H.1 H.2.1 H.2.2.1 H.2.2.2.1 i1 (td_Z_law _ _ rfl) ?_
  refine gl_eq (q' := (365, [some (.ref 40), some (.ref 0), some (.ref 19), some (.ref 37), some (.int iv), some (.int k0), none, none], [.int (xs (iv + 1).toNatClampNeg), .ref 19], wd C1 Y og1)) rfl ?_
  refine am_g_steps H.1 td_Z_law 4 (q' := (370, [some (.ref 40), some (.ref 0), some (.ref 19), some (.ref 37), some (.int iv), some (.int k0), none, none], [.int (iv + 2), .ref 40, .int (xs (iv + 1).toNatClampNeg), .ref 19], wd C1 Y og1)) rfl ?_
  refine gl_sld H.1 H.2.1 H.2.2.1 H.2.2.2.1 i2 (td_Z_law _ _ rfl) ?_
  refine gl_eq (q' := (371, [some (.ref 40), some (.ref 0), some (.ref 19), some (.ref 37), some (.int iv), some (.int k0), none, none], [.int (xs (iv + 2).toNatClampNeg), .int (xs (iv + 1).toNatClampNeg), .ref 19], wd C1 Y og1)) rfl ?_
  refine am_g_callV (As := [.int (xs (iv + 1).toNatClampNeg), .int (xs (iv + 2).toNatClampNeg)]) (a := 19) (rest := []) (w := wd C1 Y og1) H.1 (td_Z_law _ _ rfl) ok_M_value oi_M_value lk_10_79 (Or.inl ⟨_, _, _, rfl, rfl, rfl⟩) (hm C1 og1 hPC) rfl rfl (by decide) (by decide) hcs (Nat.zero_le _) ?_
  rintro v_ w_ ⟨b9, Y1, rfl, rfl, h0, hV, hog⟩ -
  refine gl_eq (q' := (374, [some (.ref 40), some (.ref 0), some (.ref 19), some (.ref 37), some (.int iv), some (.int k0), none, none], [.int b9], wd C1 Y1 og1)) rfl ?_
  refine am_g_steps H.1 td_Z_law 2 (q' := (377, [some (.ref 40), some (.ref 0), some (.ref 19), some (.ref 37), some (.int iv), some (.int k0), some (.int b9), none], [.ref 19], wd C1 Y1 og1)) rfl ?_
  refine am_g_callV (As := []) (a := 19) (rest := []) (w := wd C1 Y1 og1) H.1 (td_Z_law _ _ rfl) ok_M_thrown oi_M_thrown lk_10_57 (Or.inl ⟨_, _, _, rfl, rfl, rfl⟩) (c_M_thrown 40 C1 Y1 og1) rfl rfl (by decide) (by decide) hcs (Nat.zero_le _) ?_
  rintro v_ w_ ⟨rfl, rfl⟩ -
  rw [h0]
  refine gl_eq (q' := (380, [some (.ref 40), some (.ref 0), some (.ref 19), some (.ref 37), some (.int iv), some (.int k0), some (.int b9), none], [.int k0], wd C1 Y1 og1)) rfl ?_
  refine am_g_steps H.1 td_Z_law 1 (q' := (382, [some (.ref 40), some (.ref 0), some (.ref 19), some (.ref 37), some (.int iv), some (.int k0), some (.int b9), none], [.int k0, .int k0], wd C1 Y1 og1)) rfl ?_
  refine am_g_steps H.1 td_Z_law 1 (q' := (bif decide (k0 = k0) then 387 else 385, [some (.ref 40), some (.ref 0), some (.ref 19), some (.ref 37), some (.int iv), some (.int k0), some (.int b9), none], [], wd C1 Y1 og1)) rfl ?_
  refine gl_br (fun _ => ?_) (fun h => absurd rfl h)
  refine am_g_steps H.1 td_Z_law 1 (q' := (389, [some (.ref 40), some (.ref 0), some (.ref 19), some (.ref 37), some (.int iv), some (.int k0), some (.int b9), none], [.int k0], wd C1 Y1 og1)) rfl ?_
  have fin : lwG D cA ad p l e s m args below meth c Q (cells + 1) (slots + 6) (404, [some (.ref 40), some (.ref 0), some (.ref 19), some (.ref 37), some (.int iv), some (.int k0), some (.int b9), none], [], wd C1 Y1 og1) := by
    refine am_g_steps H.1 td_Z_law 1 (q' := (872, [some (.ref 40), some (.ref 0), some (.ref 19), some (.ref 37), some (.int iv), some (.int k0), some (.int b9), none], [], wd C1 Y1 og1)) rfl ?_
    refine am_g_less (L' := [some (.ref 40), some (.ref 0), some (.ref 19), some (.ref 37), some (.int iv), none, none, none]) (fun k9 v9 h9 => ?_) (k C1 Y1 og1 hV)
    rcases k9 with _ | _ | _ | _ | _ | _ | _ | _ | k9 <;> first | exact h9 | (exact absurd h9 (by simp))
  refine am_g_steps H.1 td_Z_law 1 (q' := (bif decide (k0 = 0) then 392 else 404, [some (.ref 40), some (.ref 0), some (.ref 19), some (.ref 37), some (.int iv), some (.int k0), some (.int b9), none], [], wd C1 Y1 og1)) rfl ?_
  refine gl_br (fun hk0 => ?_) (fun _ => fin)
  refine am_g_steps H.1 td_Z_law 2 (q' := (394, [some (.ref 40), some (.ref 0), some (.ref 19), some (.ref 37), some (.int iv), some (.int k0), some (.int b9), none], [.int 0, .ref 37], wd C1 Y1 og1)) rfl ?_
  refine gl_lald (a := 37) (f := og1) (N := 1) H.1 rfl rfl (pk_in 0 1 (by omega)) (td_Z_law _ _ rfl) ?_
  refine gl_eq (q' := (395, [some (.ref 40), some (.ref 0), some (.ref 19), some (.ref 37), some (.int iv), some (.int k0), some (.int b9), none], [.long (og1 0)], wd C1 Y1 og1)) rfl ?_
  refine am_g_steps H.1 td_Z_law 2 (q' := (398, [some (.ref 40), some (.ref 0), some (.ref 19), some (.ref 37), some (.int iv), some (.int k0), some (.int b9), none], [.long b9.toInt64, .long (og1 0)], wd C1 Y1 og1)) rfl ?_
  refine am_g_steps H.1 td_Z_law 1 (q' := (399, [some (.ref 40), some (.ref 0), some (.ref 19), some (.ref 37), some (.int iv), some (.int k0), some (.int b9), none], [.int (lg_cmp (og1 0) b9.toInt64)], wd C1 Y1 og1)) rfl ?_
  refine am_g_steps H.1 td_Z_law 1 (q' := (bif decide (lg_cmp (og1 0) b9.toInt64 = 0) then 404 else 402, [some (.ref 40), some (.ref 0), some (.ref 19), some (.ref 37), some (.int iv), some (.int k0), some (.int b9), none], [], wd C1 Y1 og1)) rfl ?_
  exact gl_br (fun _ => fin) (fun h => absurd (cmp_0.mpr (hog hk0)) h)
set_option maxHeartbeats 2000000 in
set_option maxRecDepth 100000 in
theorem lw_c_number (H : lwH D cA ad fm p l s m args c base Ls xs) (I : lwV C Y) (i1 : vp_in (iv + 1) Ls) (i2 : vp_in (iv + 2) Ls) (i3 : vp_in (iv + 3) Ls) (hcs : cells + 1 ≤ 601024 ∧ slots + 6 ≤ 7293034) (k : ∀ C' Y' og', lwV C' Y' → lwG D cA ad p l e s m args below meth c Q (cells + 1) (slots + 6) (872, [some (.ref 40), some (.ref 0), some (.ref 19), some (.ref 37), some (.int iv), none, none, none], [], wd C' Y' og')) : lwG D cA ad p l e s m args below meth c Q cells slots (407, [some (.ref 40), some (.ref 0), some (.ref 19), some (.ref 37), some (.int iv), none, none, none], [], wd C Y og) := by
  refine am_g_steps H.1 td_Z_law 1 (q' := (408, [some (.ref 40), some (.ref 0), some (.ref 19), some (.ref 37), some (.int iv), none, none, none], [.ref 0], wd C Y og)) rfl ?_
  refine am_g_steps H.1 td_Z_law 4 (q' := (413, [some (.ref 40), some (.ref 0), some (.ref 19), some (.ref 37), some (.int iv), none, none, none], [.int (iv + 1), .ref 40, .ref 0], wd C Y og)) rfl ?_
  refine gl_sld H.1 H.2.1 H.2.2.1 H.2.2.2.1 i1 (td_Z_law _ _ rfl) ?_
  refine gl_eq (q' := (414, [some (.ref 40), some (.ref 0), some (.ref 19), some (.ref 37), some (.int iv), none, none, none], [.int (xs (iv + 1).toNatClampNeg), .ref 0], wd C Y og)) rfl ?_
  refine am_g_steps H.1 td_Z_law 1 (q' := (415, [some (.ref 40), some (.ref 0), some (.ref 19), some (.ref 37), some (.int iv), none, none, none], [.ref 37, .int (xs (iv + 1).toNatClampNeg), .ref 0], wd C Y og)) rfl ?_
  obtain ⟨k0, PC, hz, hm⟩ := p_number (l := l) (D := D) (cA := cA) (ad := ad) (fm := fm) (base := base) (og := og) H.2.2.2.2.1 I (xs (iv + 1).toNatClampNeg)
  refine am_g_callZ (As := [.ref 0, .int (xs (iv + 1).toNatClampNeg), .ref 37]) (rest := []) (w := wd C Y og) H.1 (td_Z_law _ _ rfl) zw_number.1 zw_number.2.1 zw_number.2.2.1 zw_number.2.2.2.1 zw_number.2.2.2.2 lk_10_80 hz rfl rfl (by decide) (by decide) hcs (Nat.zero_le _) H.2.2.2.2.2.2.1 H.2.2.2.2.2.2.2.1 H.2.2.2.2.2.2.2.2.1 H.2.2.2.2.2.2.2.2.2 ?_
  rintro v_ w_ ⟨rfl, C1, og1, rfl, hPC⟩ -
  refine gl_eq (q' := (418, [some (.ref 40), some (.ref 0), some (.ref 19), some (.ref 37), some (.int iv), none, none, none], [.int k0], wd C1 Y og1)) rfl ?_
  refine am_g_steps H.1 td_Z_law 2 (q' := (421, [some (.ref 40), some (.ref 0), some (.ref 19), some (.ref 37), some (.int iv), some (.int k0), none, none], [.ref 19], wd C1 Y og1)) rfl ?_
  refine am_g_steps H.1 td_Z_law 4 (q' := (426, [some (.ref 40), some (.ref 0), some (.ref 19), some (.ref 37), some (.int iv), some (.int k0), none, none], [.int (iv + 1), .ref 40, .ref 19], wd C1 Y og1)) rfl ?_
  refine gl_sld H.1 H.2.1 H.2.2.1 H.2.2.2.1 i1 (td_Z_law _ _ rfl) ?_
  refine gl_eq (q' := (427, [some (.ref 40), some (.ref 0), some (.ref 19), some (.ref 37), some (.int iv), some (.int k0), none, none], [.int (xs (iv + 1).toNatClampNeg), .ref 19], wd C1 Y og1)) rfl ?_
  refine am_g_callV (As := [.int (xs (iv + 1).toNatClampNeg)]) (a := 19) (rest := []) (w := wd C1 Y og1) H.1 (td_Z_law _ _ rfl) ok_M_number oi_M_number lk_10_83 (Or.inl ⟨_, _, _, rfl, rfl, rfl⟩) (hm C1 og1 hPC) rfl rfl (by decide) (by decide) hcs (Nat.zero_le _) ?_
  rintro v_ w_ ⟨b9, Y1, rfl, rfl, h0, hV, hog⟩ -
  refine gl_eq (q' := (430, [some (.ref 40), some (.ref 0), some (.ref 19), some (.ref 37), some (.int iv), some (.int k0), none, none], [.long b9], wd C1 Y1 og1)) rfl ?_
  refine am_g_steps H.1 td_Z_law 2 (q' := (433, [some (.ref 40), some (.ref 0), some (.ref 19), some (.ref 37), some (.int iv), some (.int k0), some (.long b9), none], [.ref 19], wd C1 Y1 og1)) rfl ?_
  refine am_g_callV (As := []) (a := 19) (rest := []) (w := wd C1 Y1 og1) H.1 (td_Z_law _ _ rfl) ok_M_thrown oi_M_thrown lk_10_57 (Or.inl ⟨_, _, _, rfl, rfl, rfl⟩) (c_M_thrown 40 C1 Y1 og1) rfl rfl (by decide) (by decide) hcs (Nat.zero_le _) ?_
  rintro v_ w_ ⟨rfl, rfl⟩ -
  rw [h0]
  refine gl_eq (q' := (436, [some (.ref 40), some (.ref 0), some (.ref 19), some (.ref 37), some (.int iv), some (.int k0), some (.long b9), none], [.int k0], wd C1 Y1 og1)) rfl ?_
  refine am_g_steps H.1 td_Z_law 1 (q' := (438, [some (.ref 40), some (.ref 0), some (.ref 19), some (.ref 37), some (.int iv), some (.int k0), some (.long b9), none], [.int k0, .int k0], wd C1 Y1 og1)) rfl ?_
  refine am_g_steps H.1 td_Z_law 1 (q' := (bif decide (k0 = k0) then 443 else 441, [some (.ref 40), some (.ref 0), some (.ref 19), some (.ref 37), some (.int iv), some (.int k0), some (.long b9), none], [], wd C1 Y1 og1)) rfl ?_
  refine gl_br (fun _ => ?_) (fun h => absurd rfl h)
  refine am_g_steps H.1 td_Z_law 1 (q' := (445, [some (.ref 40), some (.ref 0), some (.ref 19), some (.ref 37), some (.int iv), some (.int k0), some (.long b9), none], [.int k0], wd C1 Y1 og1)) rfl ?_
  have fin : lwG D cA ad p l e s m args below meth c Q (cells + 1) (slots + 6) (459, [some (.ref 40), some (.ref 0), some (.ref 19), some (.ref 37), some (.int iv), some (.int k0), some (.long b9), none], [], wd C1 Y1 og1) := by
    refine am_g_steps H.1 td_Z_law 1 (q' := (872, [some (.ref 40), some (.ref 0), some (.ref 19), some (.ref 37), some (.int iv), some (.int k0), some (.long b9), none], [], wd C1 Y1 og1)) rfl ?_
    refine am_g_less (L' := [some (.ref 40), some (.ref 0), some (.ref 19), some (.ref 37), some (.int iv), none, none, none]) (fun k9 v9 h9 => ?_) (k C1 Y1 og1 hV)
    rcases k9 with _ | _ | _ | _ | _ | _ | _ | _ | k9 <;> first | exact h9 | (exact absurd h9 (by simp))
  refine am_g_steps H.1 td_Z_law 1 (q' := (bif decide (k0 = 0) then 448 else 459, [some (.ref 40), some (.ref 0), some (.ref 19), some (.ref 37), some (.int iv), some (.int k0), some (.long b9), none], [], wd C1 Y1 og1)) rfl ?_
  refine gl_br (fun hk0 => ?_) (fun _ => fin)
  refine am_g_steps H.1 td_Z_law 2 (q' := (450, [some (.ref 40), some (.ref 0), some (.ref 19), some (.ref 37), some (.int iv), some (.int k0), some (.long b9), none], [.int 0, .ref 37], wd C1 Y1 og1)) rfl ?_
  refine gl_lald (a := 37) (f := og1) (N := 1) H.1 rfl rfl (pk_in 0 1 (by omega)) (td_Z_law _ _ rfl) ?_
  refine gl_eq (q' := (451, [some (.ref 40), some (.ref 0), some (.ref 19), some (.ref 37), some (.int iv), some (.int k0), some (.long b9), none], [.long (og1 0)], wd C1 Y1 og1)) rfl ?_
  refine am_g_steps H.1 td_Z_law 1 (q' := (453, [some (.ref 40), some (.ref 0), some (.ref 19), some (.ref 37), some (.int iv), some (.int k0), some (.long b9), none], [.long b9, .long (og1 0)], wd C1 Y1 og1)) rfl ?_
  refine am_g_steps H.1 td_Z_law 1 (q' := (454, [some (.ref 40), some (.ref 0), some (.ref 19), some (.ref 37), some (.int iv), some (.int k0), some (.long b9), none], [.int (lg_cmp (og1 0) b9)], wd C1 Y1 og1)) rfl ?_
  refine am_g_steps H.1 td_Z_law 1 (q' := (bif decide (lg_cmp (og1 0) b9 = 0) then 459 else 457, [some (.ref 40), some (.ref 0), some (.ref 19), some (.ref 37), some (.int iv), some (.int k0), some (.long b9), none], [], wd C1 Y1 og1)) rfl ?_
  exact gl_br (fun _ => fin) (fun h => absurd (cmp_0.mpr (hog hk0)) h)
set_option maxHeartbeats 2000000 in
set_option maxRecDepth 100000 in
theorem lw_c_byteOf (H : lwH D cA ad fm p l s m args c base Ls xs) (I : lwV C Y) (i1 : vp_in (iv + 1) Ls) (i2 : vp_in (iv + 2) Ls) (i3 : vp_in (iv + 3) Ls) (hcs : cells + 1 ≤ 601024 ∧ slots + 6 ≤ 7293034) (k : ∀ C' Y' og', lwV C' Y' → lwG D cA ad p l e s m args below meth c Q (cells + 1) (slots + 6) (872, [some (.ref 40), some (.ref 0), some (.ref 19), some (.ref 37), some (.int iv), none, none, none], [], wd C' Y' og')) : lwG D cA ad p l e s m args below meth c Q cells slots (462, [some (.ref 40), some (.ref 0), some (.ref 19), some (.ref 37), some (.int iv), none, none, none], [], wd C Y og) := by
  refine am_g_steps H.1 td_Z_law 1 (q' := (463, [some (.ref 40), some (.ref 0), some (.ref 19), some (.ref 37), some (.int iv), none, none, none], [.ref 0], wd C Y og)) rfl ?_
  refine am_g_steps H.1 td_Z_law 4 (q' := (468, [some (.ref 40), some (.ref 0), some (.ref 19), some (.ref 37), some (.int iv), none, none, none], [.int (iv + 1), .ref 40, .ref 0], wd C Y og)) rfl ?_
  refine gl_sld H.1 H.2.1 H.2.2.1 H.2.2.2.1 i1 (td_Z_law _ _ rfl) ?_
  refine gl_eq (q' := (469, [some (.ref 40), some (.ref 0), some (.ref 19), some (.ref 37), some (.int iv), none, none, none], [.int (xs (iv + 1).toNatClampNeg), .ref 0], wd C Y og)) rfl ?_
  refine am_g_steps H.1 td_Z_law 4 (q' := (474, [some (.ref 40), some (.ref 0), some (.ref 19), some (.ref 37), some (.int iv), none, none, none], [.int (iv + 2), .ref 40, .int (xs (iv + 1).toNatClampNeg), .ref 0], wd C Y og)) rfl ?_
  refine gl_sld H.1 H.2.1 H.2.2.1 H.2.2.2.1 i2 (td_Z_law _ _ rfl) ?_
  refine gl_eq (q' := (475, [some (.ref 40), some (.ref 0), some (.ref 19), some (.ref 37), some (.int iv), none, none, none], [.int (xs (iv + 2).toNatClampNeg), .int (xs (iv + 1).toNatClampNeg), .ref 0], wd C Y og)) rfl ?_
  refine am_g_steps H.1 td_Z_law 1 (q' := (476, [some (.ref 40), some (.ref 0), some (.ref 19), some (.ref 37), some (.int iv), none, none, none], [.ref 37, .int (xs (iv + 2).toNatClampNeg), .int (xs (iv + 1).toNatClampNeg), .ref 0], wd C Y og)) rfl ?_
  obtain ⟨k0, PC, hz, hm⟩ := p_byteOf (l := l) (D := D) (cA := cA) (ad := ad) (fm := fm) (base := base) (og := og) H.2.2.2.2.1 I (xs (iv + 1).toNatClampNeg) (xs (iv + 2).toNatClampNeg)
  refine am_g_callZ (As := [.ref 0, .int (xs (iv + 1).toNatClampNeg), .int (xs (iv + 2).toNatClampNeg), .ref 37]) (rest := []) (w := wd C Y og) H.1 (td_Z_law _ _ rfl) zw_byteOf.1 zw_byteOf.2.1 zw_byteOf.2.2.1 zw_byteOf.2.2.2.1 zw_byteOf.2.2.2.2 lk_10_84 hz rfl rfl (by decide) (by decide) hcs (Nat.zero_le _) H.2.2.2.2.2.2.1 H.2.2.2.2.2.2.2.1 H.2.2.2.2.2.2.2.2.1 H.2.2.2.2.2.2.2.2.2 ?_
  rintro v_ w_ ⟨rfl, C1, og1, rfl, hPC⟩ -
  refine gl_eq (q' := (479, [some (.ref 40), some (.ref 0), some (.ref 19), some (.ref 37), some (.int iv), none, none, none], [.int k0], wd C1 Y og1)) rfl ?_
  refine am_g_steps H.1 td_Z_law 2 (q' := (482, [some (.ref 40), some (.ref 0), some (.ref 19), some (.ref 37), some (.int iv), some (.int k0), none, none], [.ref 19], wd C1 Y og1)) rfl ?_
  refine am_g_steps H.1 td_Z_law 4 (q' := (487, [some (.ref 40), some (.ref 0), some (.ref 19), some (.ref 37), some (.int iv), some (.int k0), none, none], [.int (iv + 1), .ref 40, .ref 19], wd C1 Y og1)) rfl ?_
  refine gl_sld H.1 H.2.1 H.2.2.1 H.2.2.2.1 i1 (td_Z_law _ _ rfl) ?_
  refine gl_eq (q' := (488, [some (.ref 40), some (.ref 0), some (.ref 19), some (.ref 37), some (.int iv), some (.int k0), none, none], [.int (xs (iv + 1).toNatClampNeg), .ref 19], wd C1 Y og1)) rfl ?_
  refine am_g_steps H.1 td_Z_law 4 (q' := (493, [some (.ref 40), some (.ref 0), some (.ref 19), some (.ref 37), some (.int iv), some (.int k0), none, none], [.int (iv + 2), .ref 40, .int (xs (iv + 1).toNatClampNeg), .ref 19], wd C1 Y og1)) rfl ?_
  refine gl_sld H.1 H.2.1 H.2.2.1 H.2.2.2.1 i2 (td_Z_law _ _ rfl) ?_
  refine gl_eq (q' := (494, [some (.ref 40), some (.ref 0), some (.ref 19), some (.ref 37), some (.int iv), some (.int k0), none, none], [.int (xs (iv + 2).toNatClampNeg), .int (xs (iv + 1).toNatClampNeg), .ref 19], wd C1 Y og1)) rfl ?_
  refine am_g_callV (As := [.int (xs (iv + 1).toNatClampNeg), .int (xs (iv + 2).toNatClampNeg)]) (a := 19) (rest := []) (w := wd C1 Y og1) H.1 (td_Z_law _ _ rfl) ok_M_byteOf oi_M_byteOf lk_10_86 (Or.inl ⟨_, _, _, rfl, rfl, rfl⟩) (hm C1 og1 hPC) rfl rfl (by decide) (by decide) hcs (Nat.zero_le _) ?_
  rintro v_ w_ ⟨b9, Y1, rfl, rfl, h0, hV, hog⟩ -
  refine gl_eq (q' := (497, [some (.ref 40), some (.ref 0), some (.ref 19), some (.ref 37), some (.int iv), some (.int k0), none, none], [.int b9], wd C1 Y1 og1)) rfl ?_
  refine am_g_steps H.1 td_Z_law 2 (q' := (500, [some (.ref 40), some (.ref 0), some (.ref 19), some (.ref 37), some (.int iv), some (.int k0), some (.int b9), none], [.ref 19], wd C1 Y1 og1)) rfl ?_
  refine am_g_callV (As := []) (a := 19) (rest := []) (w := wd C1 Y1 og1) H.1 (td_Z_law _ _ rfl) ok_M_thrown oi_M_thrown lk_10_57 (Or.inl ⟨_, _, _, rfl, rfl, rfl⟩) (c_M_thrown 40 C1 Y1 og1) rfl rfl (by decide) (by decide) hcs (Nat.zero_le _) ?_
  rintro v_ w_ ⟨rfl, rfl⟩ -
  rw [h0]
  refine gl_eq (q' := (503, [some (.ref 40), some (.ref 0), some (.ref 19), some (.ref 37), some (.int iv), some (.int k0), some (.int b9), none], [.int k0], wd C1 Y1 og1)) rfl ?_
  refine am_g_steps H.1 td_Z_law 1 (q' := (505, [some (.ref 40), some (.ref 0), some (.ref 19), some (.ref 37), some (.int iv), some (.int k0), some (.int b9), none], [.int k0, .int k0], wd C1 Y1 og1)) rfl ?_
  refine am_g_steps H.1 td_Z_law 1 (q' := (bif decide (k0 = k0) then 510 else 508, [some (.ref 40), some (.ref 0), some (.ref 19), some (.ref 37), some (.int iv), some (.int k0), some (.int b9), none], [], wd C1 Y1 og1)) rfl ?_
  refine gl_br (fun _ => ?_) (fun h => absurd rfl h)
  refine am_g_steps H.1 td_Z_law 1 (q' := (512, [some (.ref 40), some (.ref 0), some (.ref 19), some (.ref 37), some (.int iv), some (.int k0), some (.int b9), none], [.int k0], wd C1 Y1 og1)) rfl ?_
  have fin : lwG D cA ad p l e s m args below meth c Q (cells + 1) (slots + 6) (527, [some (.ref 40), some (.ref 0), some (.ref 19), some (.ref 37), some (.int iv), some (.int k0), some (.int b9), none], [], wd C1 Y1 og1) := by
    refine am_g_steps H.1 td_Z_law 1 (q' := (872, [some (.ref 40), some (.ref 0), some (.ref 19), some (.ref 37), some (.int iv), some (.int k0), some (.int b9), none], [], wd C1 Y1 og1)) rfl ?_
    refine am_g_less (L' := [some (.ref 40), some (.ref 0), some (.ref 19), some (.ref 37), some (.int iv), none, none, none]) (fun k9 v9 h9 => ?_) (k C1 Y1 og1 hV)
    rcases k9 with _ | _ | _ | _ | _ | _ | _ | _ | k9 <;> first | exact h9 | (exact absurd h9 (by simp))
  refine am_g_steps H.1 td_Z_law 1 (q' := (bif decide (k0 = 0) then 515 else 527, [some (.ref 40), some (.ref 0), some (.ref 19), some (.ref 37), some (.int iv), some (.int k0), some (.int b9), none], [], wd C1 Y1 og1)) rfl ?_
  refine gl_br (fun hk0 => ?_) (fun _ => fin)
  refine am_g_steps H.1 td_Z_law 2 (q' := (517, [some (.ref 40), some (.ref 0), some (.ref 19), some (.ref 37), some (.int iv), some (.int k0), some (.int b9), none], [.int 0, .ref 37], wd C1 Y1 og1)) rfl ?_
  refine gl_lald (a := 37) (f := og1) (N := 1) H.1 rfl rfl (pk_in 0 1 (by omega)) (td_Z_law _ _ rfl) ?_
  refine gl_eq (q' := (518, [some (.ref 40), some (.ref 0), some (.ref 19), some (.ref 37), some (.int iv), some (.int k0), some (.int b9), none], [.long (og1 0)], wd C1 Y1 og1)) rfl ?_
  refine am_g_steps H.1 td_Z_law 2 (q' := (521, [some (.ref 40), some (.ref 0), some (.ref 19), some (.ref 37), some (.int iv), some (.int k0), some (.int b9), none], [.long b9.toInt64, .long (og1 0)], wd C1 Y1 og1)) rfl ?_
  refine am_g_steps H.1 td_Z_law 1 (q' := (522, [some (.ref 40), some (.ref 0), some (.ref 19), some (.ref 37), some (.int iv), some (.int k0), some (.int b9), none], [.int (lg_cmp (og1 0) b9.toInt64)], wd C1 Y1 og1)) rfl ?_
  refine am_g_steps H.1 td_Z_law 1 (q' := (bif decide (lg_cmp (og1 0) b9.toInt64 = 0) then 527 else 525, [some (.ref 40), some (.ref 0), some (.ref 19), some (.ref 37), some (.int iv), some (.int k0), some (.int b9), none], [], wd C1 Y1 og1)) rfl ?_
  exact gl_br (fun _ => fin) (fun h => absurd (cmp_0.mpr (hog hk0)) h)
set_option maxHeartbeats 2000000 in
set_option maxRecDepth 100000 in
theorem lw_c_child (H : lwH D cA ad fm p l s m args c base Ls xs) (I : lwV C Y) (i1 : vp_in (iv + 1) Ls) (i2 : vp_in (iv + 2) Ls) (i3 : vp_in (iv + 3) Ls) (hcs : cells + 1 ≤ 601024 ∧ slots + 6 ≤ 7293034) (k : ∀ C' Y' og', lwV C' Y' → lwG D cA ad p l e s m args below meth c Q (cells + 1) (slots + 6) (872, [some (.ref 40), some (.ref 0), some (.ref 19), some (.ref 37), some (.int iv), none, none, none], [], wd C' Y' og')) : lwG D cA ad p l e s m args below meth c Q cells slots (530, [some (.ref 40), some (.ref 0), some (.ref 19), some (.ref 37), some (.int iv), none, none, none], [], wd C Y og) := by
  refine am_g_steps H.1 td_Z_law 1 (q' := (531, [some (.ref 40), some (.ref 0), some (.ref 19), some (.ref 37), some (.int iv), none, none, none], [.ref 0], wd C Y og)) rfl ?_
  refine am_g_steps H.1 td_Z_law 4 (q' := (536, [some (.ref 40), some (.ref 0), some (.ref 19), some (.ref 37), some (.int iv), none, none, none], [.int (iv + 1), .ref 40, .ref 0], wd C Y og)) rfl ?_
  refine gl_sld H.1 H.2.1 H.2.2.1 H.2.2.2.1 i1 (td_Z_law _ _ rfl) ?_
  refine gl_eq (q' := (537, [some (.ref 40), some (.ref 0), some (.ref 19), some (.ref 37), some (.int iv), none, none, none], [.int (xs (iv + 1).toNatClampNeg), .ref 0], wd C Y og)) rfl ?_
  refine am_g_steps H.1 td_Z_law 4 (q' := (542, [some (.ref 40), some (.ref 0), some (.ref 19), some (.ref 37), some (.int iv), none, none, none], [.int (iv + 2), .ref 40, .int (xs (iv + 1).toNatClampNeg), .ref 0], wd C Y og)) rfl ?_
  refine gl_sld H.1 H.2.1 H.2.2.1 H.2.2.2.1 i2 (td_Z_law _ _ rfl) ?_
  refine gl_eq (q' := (543, [some (.ref 40), some (.ref 0), some (.ref 19), some (.ref 37), some (.int iv), none, none, none], [.int (xs (iv + 2).toNatClampNeg), .int (xs (iv + 1).toNatClampNeg), .ref 0], wd C Y og)) rfl ?_
  refine am_g_steps H.1 td_Z_law 1 (q' := (544, [some (.ref 40), some (.ref 0), some (.ref 19), some (.ref 37), some (.int iv), none, none, none], [.ref 37, .int (xs (iv + 2).toNatClampNeg), .int (xs (iv + 1).toNatClampNeg), .ref 0], wd C Y og)) rfl ?_
  obtain ⟨k0, PC, hz, hm⟩ := p_child (l := l) (D := D) (cA := cA) (ad := ad) (fm := fm) (base := base) (og := og) H.2.2.2.2.1 I (xs (iv + 1).toNatClampNeg) (xs (iv + 2).toNatClampNeg)
  refine am_g_callZ (As := [.ref 0, .int (xs (iv + 1).toNatClampNeg), .int (xs (iv + 2).toNatClampNeg), .ref 37]) (rest := []) (w := wd C Y og) H.1 (td_Z_law _ _ rfl) zw_child.1 zw_child.2.1 zw_child.2.2.1 zw_child.2.2.2.1 zw_child.2.2.2.2 lk_10_87 hz rfl rfl (by decide) (by decide) hcs (Nat.zero_le _) H.2.2.2.2.2.2.1 H.2.2.2.2.2.2.2.1 H.2.2.2.2.2.2.2.2.1 H.2.2.2.2.2.2.2.2.2 ?_
  rintro v_ w_ ⟨rfl, C1, og1, rfl, hPC⟩ -
  refine gl_eq (q' := (547, [some (.ref 40), some (.ref 0), some (.ref 19), some (.ref 37), some (.int iv), none, none, none], [.int k0], wd C1 Y og1)) rfl ?_
  refine am_g_steps H.1 td_Z_law 2 (q' := (550, [some (.ref 40), some (.ref 0), some (.ref 19), some (.ref 37), some (.int iv), some (.int k0), none, none], [.ref 19], wd C1 Y og1)) rfl ?_
  refine am_g_steps H.1 td_Z_law 4 (q' := (555, [some (.ref 40), some (.ref 0), some (.ref 19), some (.ref 37), some (.int iv), some (.int k0), none, none], [.int (iv + 1), .ref 40, .ref 19], wd C1 Y og1)) rfl ?_
  refine gl_sld H.1 H.2.1 H.2.2.1 H.2.2.2.1 i1 (td_Z_law _ _ rfl) ?_
  refine gl_eq (q' := (556, [some (.ref 40), some (.ref 0), some (.ref 19), some (.ref 37), some (.int iv), some (.int k0), none, none], [.int (xs (iv + 1).toNatClampNeg), .ref 19], wd C1 Y og1)) rfl ?_
  refine am_g_steps H.1 td_Z_law 4 (q' := (561, [some (.ref 40), some (.ref 0), some (.ref 19), some (.ref 37), some (.int iv), some (.int k0), none, none], [.int (iv + 2), .ref 40, .int (xs (iv + 1).toNatClampNeg), .ref 19], wd C1 Y og1)) rfl ?_
  refine gl_sld H.1 H.2.1 H.2.2.1 H.2.2.2.1 i2 (td_Z_law _ _ rfl) ?_
  refine gl_eq (q' := (562, [some (.ref 40), some (.ref 0), some (.ref 19), some (.ref 37), some (.int iv), some (.int k0), none, none], [.int (xs (iv + 2).toNatClampNeg), .int (xs (iv + 1).toNatClampNeg), .ref 19], wd C1 Y og1)) rfl ?_
  refine am_g_callV (As := [.int (xs (iv + 1).toNatClampNeg), .int (xs (iv + 2).toNatClampNeg)]) (a := 19) (rest := []) (w := wd C1 Y og1) H.1 (td_Z_law _ _ rfl) ok_M_child oi_M_child lk_10_89 (Or.inl ⟨_, _, _, rfl, rfl, rfl⟩) (hm C1 og1 hPC) rfl rfl (by decide) (by decide) hcs (Nat.zero_le _) ?_
  rintro v_ w_ ⟨b9, Y1, rfl, rfl, h0, hV, hog⟩ -
  refine gl_eq (q' := (565, [some (.ref 40), some (.ref 0), some (.ref 19), some (.ref 37), some (.int iv), some (.int k0), none, none], [.int b9], wd C1 Y1 og1)) rfl ?_
  refine am_g_steps H.1 td_Z_law 2 (q' := (568, [some (.ref 40), some (.ref 0), some (.ref 19), some (.ref 37), some (.int iv), some (.int k0), some (.int b9), none], [.ref 19], wd C1 Y1 og1)) rfl ?_
  refine am_g_callV (As := []) (a := 19) (rest := []) (w := wd C1 Y1 og1) H.1 (td_Z_law _ _ rfl) ok_M_thrown oi_M_thrown lk_10_57 (Or.inl ⟨_, _, _, rfl, rfl, rfl⟩) (c_M_thrown 40 C1 Y1 og1) rfl rfl (by decide) (by decide) hcs (Nat.zero_le _) ?_
  rintro v_ w_ ⟨rfl, rfl⟩ -
  rw [h0]
  refine gl_eq (q' := (571, [some (.ref 40), some (.ref 0), some (.ref 19), some (.ref 37), some (.int iv), some (.int k0), some (.int b9), none], [.int k0], wd C1 Y1 og1)) rfl ?_
  refine am_g_steps H.1 td_Z_law 1 (q' := (573, [some (.ref 40), some (.ref 0), some (.ref 19), some (.ref 37), some (.int iv), some (.int k0), some (.int b9), none], [.int k0, .int k0], wd C1 Y1 og1)) rfl ?_
  refine am_g_steps H.1 td_Z_law 1 (q' := (bif decide (k0 = k0) then 578 else 576, [some (.ref 40), some (.ref 0), some (.ref 19), some (.ref 37), some (.int iv), some (.int k0), some (.int b9), none], [], wd C1 Y1 og1)) rfl ?_
  refine gl_br (fun _ => ?_) (fun h => absurd rfl h)
  refine am_g_steps H.1 td_Z_law 1 (q' := (580, [some (.ref 40), some (.ref 0), some (.ref 19), some (.ref 37), some (.int iv), some (.int k0), some (.int b9), none], [.int k0], wd C1 Y1 og1)) rfl ?_
  have fin : lwG D cA ad p l e s m args below meth c Q (cells + 1) (slots + 6) (595, [some (.ref 40), some (.ref 0), some (.ref 19), some (.ref 37), some (.int iv), some (.int k0), some (.int b9), none], [], wd C1 Y1 og1) := by
    refine am_g_steps H.1 td_Z_law 1 (q' := (872, [some (.ref 40), some (.ref 0), some (.ref 19), some (.ref 37), some (.int iv), some (.int k0), some (.int b9), none], [], wd C1 Y1 og1)) rfl ?_
    refine am_g_less (L' := [some (.ref 40), some (.ref 0), some (.ref 19), some (.ref 37), some (.int iv), none, none, none]) (fun k9 v9 h9 => ?_) (k C1 Y1 og1 hV)
    rcases k9 with _ | _ | _ | _ | _ | _ | _ | _ | k9 <;> first | exact h9 | (exact absurd h9 (by simp))
  refine am_g_steps H.1 td_Z_law 1 (q' := (bif decide (k0 = 0) then 583 else 595, [some (.ref 40), some (.ref 0), some (.ref 19), some (.ref 37), some (.int iv), some (.int k0), some (.int b9), none], [], wd C1 Y1 og1)) rfl ?_
  refine gl_br (fun hk0 => ?_) (fun _ => fin)
  refine am_g_steps H.1 td_Z_law 2 (q' := (585, [some (.ref 40), some (.ref 0), some (.ref 19), some (.ref 37), some (.int iv), some (.int k0), some (.int b9), none], [.int 0, .ref 37], wd C1 Y1 og1)) rfl ?_
  refine gl_lald (a := 37) (f := og1) (N := 1) H.1 rfl rfl (pk_in 0 1 (by omega)) (td_Z_law _ _ rfl) ?_
  refine gl_eq (q' := (586, [some (.ref 40), some (.ref 0), some (.ref 19), some (.ref 37), some (.int iv), some (.int k0), some (.int b9), none], [.long (og1 0)], wd C1 Y1 og1)) rfl ?_
  refine am_g_steps H.1 td_Z_law 2 (q' := (589, [some (.ref 40), some (.ref 0), some (.ref 19), some (.ref 37), some (.int iv), some (.int k0), some (.int b9), none], [.long b9.toInt64, .long (og1 0)], wd C1 Y1 og1)) rfl ?_
  refine am_g_steps H.1 td_Z_law 1 (q' := (590, [some (.ref 40), some (.ref 0), some (.ref 19), some (.ref 37), some (.int iv), some (.int k0), some (.int b9), none], [.int (lg_cmp (og1 0) b9.toInt64)], wd C1 Y1 og1)) rfl ?_
  refine am_g_steps H.1 td_Z_law 1 (q' := (bif decide (lg_cmp (og1 0) b9.toInt64 = 0) then 595 else 593, [some (.ref 40), some (.ref 0), some (.ref 19), some (.ref 37), some (.int iv), some (.int k0), some (.int b9), none], [], wd C1 Y1 og1)) rfl ?_
  exact gl_br (fun _ => fin) (fun h => absurd (cmp_0.mpr (hog hk0)) h)
set_option maxHeartbeats 2000000 in
set_option maxRecDepth 100000 in
theorem lw_c_lookup (H : lwH D cA ad fm p l s m args c base Ls xs) (I : lwV C Y) (i1 : vp_in (iv + 1) Ls) (i2 : vp_in (iv + 2) Ls) (i3 : vp_in (iv + 3) Ls) (hcs : cells + 1 ≤ 601024 ∧ slots + 6 ≤ 7293034) (k : ∀ C' Y' og', lwV C' Y' → lwG D cA ad p l e s m args below meth c Q (cells + 1) (slots + 6) (872, [some (.ref 40), some (.ref 0), some (.ref 19), some (.ref 37), some (.int iv), none, none, none], [], wd C' Y' og')) : lwG D cA ad p l e s m args below meth c Q cells slots (598, [some (.ref 40), some (.ref 0), some (.ref 19), some (.ref 37), some (.int iv), none, none, none], [], wd C Y og) := by
  refine am_g_steps H.1 td_Z_law 1 (q' := (599, [some (.ref 40), some (.ref 0), some (.ref 19), some (.ref 37), some (.int iv), none, none, none], [.ref 0], wd C Y og)) rfl ?_
  refine am_g_steps H.1 td_Z_law 4 (q' := (604, [some (.ref 40), some (.ref 0), some (.ref 19), some (.ref 37), some (.int iv), none, none, none], [.int (iv + 1), .ref 40, .ref 0], wd C Y og)) rfl ?_
  refine gl_sld H.1 H.2.1 H.2.2.1 H.2.2.2.1 i1 (td_Z_law _ _ rfl) ?_
  refine gl_eq (q' := (605, [some (.ref 40), some (.ref 0), some (.ref 19), some (.ref 37), some (.int iv), none, none, none], [.int (xs (iv + 1).toNatClampNeg), .ref 0], wd C Y og)) rfl ?_
  refine am_g_steps H.1 td_Z_law 4 (q' := (610, [some (.ref 40), some (.ref 0), some (.ref 19), some (.ref 37), some (.int iv), none, none, none], [.int (iv + 2), .ref 40, .int (xs (iv + 1).toNatClampNeg), .ref 0], wd C Y og)) rfl ?_
  refine gl_sld H.1 H.2.1 H.2.2.1 H.2.2.2.1 i2 (td_Z_law _ _ rfl) ?_
  refine gl_eq (q' := (611, [some (.ref 40), some (.ref 0), some (.ref 19), some (.ref 37), some (.int iv), none, none, none], [.int (xs (iv + 2).toNatClampNeg), .int (xs (iv + 1).toNatClampNeg), .ref 0], wd C Y og)) rfl ?_
  refine am_g_steps H.1 td_Z_law 1 (q' := (612, [some (.ref 40), some (.ref 0), some (.ref 19), some (.ref 37), some (.int iv), none, none, none], [.ref 37, .int (xs (iv + 2).toNatClampNeg), .int (xs (iv + 1).toNatClampNeg), .ref 0], wd C Y og)) rfl ?_
  obtain ⟨k0, PC, hz, hm⟩ := p_lookup (l := l) (D := D) (cA := cA) (ad := ad) (fm := fm) (base := base) (og := og) H.2.2.2.2.1 I (xs (iv + 1).toNatClampNeg) (xs (iv + 2).toNatClampNeg)
  refine am_g_callZ (As := [.ref 0, .int (xs (iv + 1).toNatClampNeg), .int (xs (iv + 2).toNatClampNeg), .ref 37]) (rest := []) (w := wd C Y og) H.1 (td_Z_law _ _ rfl) zw_lookup.1 zw_lookup.2.1 zw_lookup.2.2.1 zw_lookup.2.2.2.1 zw_lookup.2.2.2.2 lk_10_90 hz rfl rfl (by decide) (by decide) hcs (Nat.zero_le _) H.2.2.2.2.2.2.1 H.2.2.2.2.2.2.2.1 H.2.2.2.2.2.2.2.2.1 H.2.2.2.2.2.2.2.2.2 ?_
  rintro v_ w_ ⟨rfl, C1, og1, rfl, hPC⟩ -
  refine gl_eq (q' := (615, [some (.ref 40), some (.ref 0), some (.ref 19), some (.ref 37), some (.int iv), none, none, none], [.int k0], wd C1 Y og1)) rfl ?_
  refine am_g_steps H.1 td_Z_law 2 (q' := (618, [some (.ref 40), some (.ref 0), some (.ref 19), some (.ref 37), some (.int iv), some (.int k0), none, none], [.ref 19], wd C1 Y og1)) rfl ?_
  refine am_g_steps H.1 td_Z_law 4 (q' := (623, [some (.ref 40), some (.ref 0), some (.ref 19), some (.ref 37), some (.int iv), some (.int k0), none, none], [.int (iv + 1), .ref 40, .ref 19], wd C1 Y og1)) rfl ?_
  refine gl_sld H.1 H.2.1 H.2.2.1 H.2.2.2.1 i1 (td_Z_law _ _ rfl) ?_
  refine gl_eq (q' := (624, [some (.ref 40), some (.ref 0), some (.ref 19), some (.ref 37), some (.int iv), some (.int k0), none, none], [.int (xs (iv + 1).toNatClampNeg), .ref 19], wd C1 Y og1)) rfl ?_
  refine am_g_steps H.1 td_Z_law 4 (q' := (629, [some (.ref 40), some (.ref 0), some (.ref 19), some (.ref 37), some (.int iv), some (.int k0), none, none], [.int (iv + 2), .ref 40, .int (xs (iv + 1).toNatClampNeg), .ref 19], wd C1 Y og1)) rfl ?_
  refine gl_sld H.1 H.2.1 H.2.2.1 H.2.2.2.1 i2 (td_Z_law _ _ rfl) ?_
  refine gl_eq (q' := (630, [some (.ref 40), some (.ref 0), some (.ref 19), some (.ref 37), some (.int iv), some (.int k0), none, none], [.int (xs (iv + 2).toNatClampNeg), .int (xs (iv + 1).toNatClampNeg), .ref 19], wd C1 Y og1)) rfl ?_
  refine am_g_callV (As := [.int (xs (iv + 1).toNatClampNeg), .int (xs (iv + 2).toNatClampNeg)]) (a := 19) (rest := []) (w := wd C1 Y og1) H.1 (td_Z_law _ _ rfl) ok_M_lookup oi_M_lookup lk_10_92 (Or.inl ⟨_, _, _, rfl, rfl, rfl⟩) (hm C1 og1 hPC) rfl rfl (by decide) (by decide) hcs (Nat.zero_le _) ?_
  rintro v_ w_ ⟨b9, Y1, rfl, rfl, h0, hV, hog⟩ -
  refine gl_eq (q' := (633, [some (.ref 40), some (.ref 0), some (.ref 19), some (.ref 37), some (.int iv), some (.int k0), none, none], [.int b9], wd C1 Y1 og1)) rfl ?_
  refine am_g_steps H.1 td_Z_law 2 (q' := (636, [some (.ref 40), some (.ref 0), some (.ref 19), some (.ref 37), some (.int iv), some (.int k0), some (.int b9), none], [.ref 19], wd C1 Y1 og1)) rfl ?_
  refine am_g_callV (As := []) (a := 19) (rest := []) (w := wd C1 Y1 og1) H.1 (td_Z_law _ _ rfl) ok_M_thrown oi_M_thrown lk_10_57 (Or.inl ⟨_, _, _, rfl, rfl, rfl⟩) (c_M_thrown 40 C1 Y1 og1) rfl rfl (by decide) (by decide) hcs (Nat.zero_le _) ?_
  rintro v_ w_ ⟨rfl, rfl⟩ -
  rw [h0]
  refine gl_eq (q' := (639, [some (.ref 40), some (.ref 0), some (.ref 19), some (.ref 37), some (.int iv), some (.int k0), some (.int b9), none], [.int k0], wd C1 Y1 og1)) rfl ?_
  refine am_g_steps H.1 td_Z_law 1 (q' := (641, [some (.ref 40), some (.ref 0), some (.ref 19), some (.ref 37), some (.int iv), some (.int k0), some (.int b9), none], [.int k0, .int k0], wd C1 Y1 og1)) rfl ?_
  refine am_g_steps H.1 td_Z_law 1 (q' := (bif decide (k0 = k0) then 646 else 644, [some (.ref 40), some (.ref 0), some (.ref 19), some (.ref 37), some (.int iv), some (.int k0), some (.int b9), none], [], wd C1 Y1 og1)) rfl ?_
  refine gl_br (fun _ => ?_) (fun h => absurd rfl h)
  refine am_g_steps H.1 td_Z_law 1 (q' := (648, [some (.ref 40), some (.ref 0), some (.ref 19), some (.ref 37), some (.int iv), some (.int k0), some (.int b9), none], [.int k0], wd C1 Y1 og1)) rfl ?_
  have fin : lwG D cA ad p l e s m args below meth c Q (cells + 1) (slots + 6) (663, [some (.ref 40), some (.ref 0), some (.ref 19), some (.ref 37), some (.int iv), some (.int k0), some (.int b9), none], [], wd C1 Y1 og1) := by
    refine am_g_steps H.1 td_Z_law 1 (q' := (872, [some (.ref 40), some (.ref 0), some (.ref 19), some (.ref 37), some (.int iv), some (.int k0), some (.int b9), none], [], wd C1 Y1 og1)) rfl ?_
    refine am_g_less (L' := [some (.ref 40), some (.ref 0), some (.ref 19), some (.ref 37), some (.int iv), none, none, none]) (fun k9 v9 h9 => ?_) (k C1 Y1 og1 hV)
    rcases k9 with _ | _ | _ | _ | _ | _ | _ | _ | k9 <;> first | exact h9 | (exact absurd h9 (by simp))
  refine am_g_steps H.1 td_Z_law 1 (q' := (bif decide (k0 = 0) then 651 else 663, [some (.ref 40), some (.ref 0), some (.ref 19), some (.ref 37), some (.int iv), some (.int k0), some (.int b9), none], [], wd C1 Y1 og1)) rfl ?_
  refine gl_br (fun hk0 => ?_) (fun _ => fin)
  refine am_g_steps H.1 td_Z_law 2 (q' := (653, [some (.ref 40), some (.ref 0), some (.ref 19), some (.ref 37), some (.int iv), some (.int k0), some (.int b9), none], [.int 0, .ref 37], wd C1 Y1 og1)) rfl ?_
  refine gl_lald (a := 37) (f := og1) (N := 1) H.1 rfl rfl (pk_in 0 1 (by omega)) (td_Z_law _ _ rfl) ?_
  refine gl_eq (q' := (654, [some (.ref 40), some (.ref 0), some (.ref 19), some (.ref 37), some (.int iv), some (.int k0), some (.int b9), none], [.long (og1 0)], wd C1 Y1 og1)) rfl ?_
  refine am_g_steps H.1 td_Z_law 2 (q' := (657, [some (.ref 40), some (.ref 0), some (.ref 19), some (.ref 37), some (.int iv), some (.int k0), some (.int b9), none], [.long b9.toInt64, .long (og1 0)], wd C1 Y1 og1)) rfl ?_
  refine am_g_steps H.1 td_Z_law 1 (q' := (658, [some (.ref 40), some (.ref 0), some (.ref 19), some (.ref 37), some (.int iv), some (.int k0), some (.int b9), none], [.int (lg_cmp (og1 0) b9.toInt64)], wd C1 Y1 og1)) rfl ?_
  refine am_g_steps H.1 td_Z_law 1 (q' := (bif decide (lg_cmp (og1 0) b9.toInt64 = 0) then 663 else 661, [some (.ref 40), some (.ref 0), some (.ref 19), some (.ref 37), some (.int iv), some (.int k0), some (.int b9), none], [], wd C1 Y1 og1)) rfl ?_
  exact gl_br (fun _ => fin) (fun h => absurd (cmp_0.mpr (hog hk0)) h)
set_option maxHeartbeats 2000000 in
set_option maxRecDepth 100000 in
theorem lw_c_write (H : lwH D cA ad fm p l s m args c base Ls xs) (I : lwV C Y) (i1 : vp_in (iv + 1) Ls) (i2 : vp_in (iv + 2) Ls) (i3 : vp_in (iv + 3) Ls) (hcs : cells + 1 ≤ 601024 ∧ slots + 6 ≤ 7293034) (k : ∀ C' Y' og', lwV C' Y' → lwG D cA ad p l e s m args below meth c Q (cells + 1) (slots + 6) (872, [some (.ref 40), some (.ref 0), some (.ref 19), some (.ref 37), some (.int iv), none, none, none], [], wd C' Y' og')) : lwG D cA ad p l e s m args below meth c Q cells slots (666, [some (.ref 40), some (.ref 0), some (.ref 19), some (.ref 37), some (.int iv), none, none, none], [], wd C Y og) := by
  refine am_g_steps H.1 td_Z_law 1 (q' := (667, [some (.ref 40), some (.ref 0), some (.ref 19), some (.ref 37), some (.int iv), none, none, none], [.ref 0], wd C Y og)) rfl ?_
  refine am_g_steps H.1 td_Z_law 4 (q' := (672, [some (.ref 40), some (.ref 0), some (.ref 19), some (.ref 37), some (.int iv), none, none, none], [.int (iv + 1), .ref 40, .ref 0], wd C Y og)) rfl ?_
  refine gl_sld H.1 H.2.1 H.2.2.1 H.2.2.2.1 i1 (td_Z_law _ _ rfl) ?_
  refine gl_eq (q' := (673, [some (.ref 40), some (.ref 0), some (.ref 19), some (.ref 37), some (.int iv), none, none, none], [.int (xs (iv + 1).toNatClampNeg), .ref 0], wd C Y og)) rfl ?_
  refine am_g_steps H.1 td_Z_law 4 (q' := (678, [some (.ref 40), some (.ref 0), some (.ref 19), some (.ref 37), some (.int iv), none, none, none], [.int (iv + 2), .ref 40, .int (xs (iv + 1).toNatClampNeg), .ref 0], wd C Y og)) rfl ?_
  refine gl_sld H.1 H.2.1 H.2.2.1 H.2.2.2.1 i2 (td_Z_law _ _ rfl) ?_
  refine gl_eq (q' := (679, [some (.ref 40), some (.ref 0), some (.ref 19), some (.ref 37), some (.int iv), none, none, none], [.int (xs (iv + 2).toNatClampNeg), .int (xs (iv + 1).toNatClampNeg), .ref 0], wd C Y og)) rfl ?_
  refine gl_nz_679 H _ (fun r2 er2 => ?_)
  refine gl_eq (q' := (687, [some (.ref 40), some (.ref 0), some (.ref 19), some (.ref 37), some (.int iv), none, none, none], [.int (bz r2), .int (xs (iv + 1).toNatClampNeg), .ref 0], wd C Y og)) rfl ?_
  refine am_g_steps H.1 td_Z_law 4 (q' := (692, [some (.ref 40), some (.ref 0), some (.ref 19), some (.ref 37), some (.int iv), none, none, none], [.int (iv + 3), .ref 40, .int (bz r2), .int (xs (iv + 1).toNatClampNeg), .ref 0], wd C Y og)) rfl ?_
  refine gl_sld H.1 H.2.1 H.2.2.1 H.2.2.2.1 i3 (td_Z_law _ _ rfl) ?_
  refine gl_eq (q' := (693, [some (.ref 40), some (.ref 0), some (.ref 19), some (.ref 37), some (.int iv), none, none, none], [.int (xs (iv + 3).toNatClampNeg), .int (bz r2), .int (xs (iv + 1).toNatClampNeg), .ref 0], wd C Y og)) rfl ?_
  refine gl_nz_693 H _ (fun r3 er3 => ?_)
  refine gl_eq (q' := (701, [some (.ref 40), some (.ref 0), some (.ref 19), some (.ref 37), some (.int iv), none, none, none], [.int (bz r3), .int (bz r2), .int (xs (iv + 1).toNatClampNeg), .ref 0], wd C Y og)) rfl ?_
  refine am_g_steps H.1 td_Z_law 1 (q' := (702, [some (.ref 40), some (.ref 0), some (.ref 19), some (.ref 37), some (.int iv), none, none, none], [.ref 37, .int (bz r3), .int (bz r2), .int (xs (iv + 1).toNatClampNeg), .ref 0], wd C Y og)) rfl ?_
  obtain ⟨k0, PC, hz, hm⟩ := p_write (l := l) (D := D) (cA := cA) (ad := ad) (fm := fm) (base := base) (og := og) H.2.2.2.2.1 H.2.2.2.2.2.1 I (xs (iv + 1).toNatClampNeg) r2 r3
  refine am_g_callZ (As := [.ref 0, .int (xs (iv + 1).toNatClampNeg), .int (bz r2), .int (bz r3), .ref 37]) (rest := []) (w := wd C Y og) H.1 (td_Z_law _ _ rfl) zw_write.1 zw_write.2.1 zw_write.2.2.1 zw_write.2.2.2.1 zw_write.2.2.2.2 lk_10_93 hz rfl rfl (by decide) (by decide) hcs (Nat.zero_le _) H.2.2.2.2.2.2.1 H.2.2.2.2.2.2.2.1 H.2.2.2.2.2.2.2.2.1 H.2.2.2.2.2.2.2.2.2 ?_
  rintro v_ w_ ⟨rfl, C1, og1, rfl, hPC⟩ -
  refine gl_eq (q' := (705, [some (.ref 40), some (.ref 0), some (.ref 19), some (.ref 37), some (.int iv), none, none, none], [.int k0], wd C1 Y og1)) rfl ?_
  refine am_g_steps H.1 td_Z_law 2 (q' := (708, [some (.ref 40), some (.ref 0), some (.ref 19), some (.ref 37), some (.int iv), some (.int k0), none, none], [.ref 19], wd C1 Y og1)) rfl ?_
  refine am_g_steps H.1 td_Z_law 4 (q' := (713, [some (.ref 40), some (.ref 0), some (.ref 19), some (.ref 37), some (.int iv), some (.int k0), none, none], [.int (iv + 1), .ref 40, .ref 19], wd C1 Y og1)) rfl ?_
  refine gl_sld H.1 H.2.1 H.2.2.1 H.2.2.2.1 i1 (td_Z_law _ _ rfl) ?_
  refine gl_eq (q' := (714, [some (.ref 40), some (.ref 0), some (.ref 19), some (.ref 37), some (.int iv), some (.int k0), none, none], [.int (xs (iv + 1).toNatClampNeg), .ref 19], wd C1 Y og1)) rfl ?_
  refine am_g_steps H.1 td_Z_law 4 (q' := (719, [some (.ref 40), some (.ref 0), some (.ref 19), some (.ref 37), some (.int iv), some (.int k0), none, none], [.int (iv + 2), .ref 40, .int (xs (iv + 1).toNatClampNeg), .ref 19], wd C1 Y og1)) rfl ?_
  refine gl_sld H.1 H.2.1 H.2.2.1 H.2.2.2.1 i2 (td_Z_law _ _ rfl) ?_
  refine gl_eq (q' := (720, [some (.ref 40), some (.ref 0), some (.ref 19), some (.ref 37), some (.int iv), some (.int k0), none, none], [.int (xs (iv + 2).toNatClampNeg), .int (xs (iv + 1).toNatClampNeg), .ref 19], wd C1 Y og1)) rfl ?_
  refine gl_nz_720 H _ (fun r2b er2b => ?_)
  have e9 := er2.trans er2b.symm
  subst e9
  refine gl_eq (q' := (728, [some (.ref 40), some (.ref 0), some (.ref 19), some (.ref 37), some (.int iv), some (.int k0), none, none], [.int (bz r2), .int (xs (iv + 1).toNatClampNeg), .ref 19], wd C1 Y og1)) rfl ?_
  refine am_g_steps H.1 td_Z_law 4 (q' := (733, [some (.ref 40), some (.ref 0), some (.ref 19), some (.ref 37), some (.int iv), some (.int k0), none, none], [.int (iv + 3), .ref 40, .int (bz r2), .int (xs (iv + 1).toNatClampNeg), .ref 19], wd C1 Y og1)) rfl ?_
  refine gl_sld H.1 H.2.1 H.2.2.1 H.2.2.2.1 i3 (td_Z_law _ _ rfl) ?_
  refine gl_eq (q' := (734, [some (.ref 40), some (.ref 0), some (.ref 19), some (.ref 37), some (.int iv), some (.int k0), none, none], [.int (xs (iv + 3).toNatClampNeg), .int (bz r2), .int (xs (iv + 1).toNatClampNeg), .ref 19], wd C1 Y og1)) rfl ?_
  refine gl_nz_734 H _ (fun r3b er3b => ?_)
  have e9 := er3.trans er3b.symm
  subst e9
  refine gl_eq (q' := (742, [some (.ref 40), some (.ref 0), some (.ref 19), some (.ref 37), some (.int iv), some (.int k0), none, none], [.int (bz r3), .int (bz r2), .int (xs (iv + 1).toNatClampNeg), .ref 19], wd C1 Y og1)) rfl ?_
  refine am_g_callV (As := [.int (xs (iv + 1).toNatClampNeg), .int (bz r2), .int (bz r3)]) (a := 19) (rest := []) (w := wd C1 Y og1) H.1 (td_Z_law _ _ rfl) ok_M_write oi_M_write lk_10_96 (Or.inl ⟨_, _, _, rfl, rfl, rfl⟩) (hm C1 og1 hPC) rfl rfl (by decide) (by decide) hcs (Nat.zero_le _) ?_
  rintro v_ w_ ⟨b9, Y1, rfl, rfl, h0, hV, hog⟩ -
  refine gl_eq (q' := (745, [some (.ref 40), some (.ref 0), some (.ref 19), some (.ref 37), some (.int iv), some (.int k0), none, none], [.int b9], wd C1 Y1 og1)) rfl ?_
  refine am_g_steps H.1 td_Z_law 2 (q' := (748, [some (.ref 40), some (.ref 0), some (.ref 19), some (.ref 37), some (.int iv), some (.int k0), some (.int b9), none], [.ref 19], wd C1 Y1 og1)) rfl ?_
  refine am_g_callV (As := []) (a := 19) (rest := []) (w := wd C1 Y1 og1) H.1 (td_Z_law _ _ rfl) ok_M_thrown oi_M_thrown lk_10_57 (Or.inl ⟨_, _, _, rfl, rfl, rfl⟩) (c_M_thrown 40 C1 Y1 og1) rfl rfl (by decide) (by decide) hcs (Nat.zero_le _) ?_
  rintro v_ w_ ⟨rfl, rfl⟩ -
  rw [h0]
  refine gl_eq (q' := (751, [some (.ref 40), some (.ref 0), some (.ref 19), some (.ref 37), some (.int iv), some (.int k0), some (.int b9), none], [.int k0], wd C1 Y1 og1)) rfl ?_
  refine am_g_steps H.1 td_Z_law 1 (q' := (753, [some (.ref 40), some (.ref 0), some (.ref 19), some (.ref 37), some (.int iv), some (.int k0), some (.int b9), none], [.int k0, .int k0], wd C1 Y1 og1)) rfl ?_
  refine am_g_steps H.1 td_Z_law 1 (q' := (bif decide (k0 = k0) then 758 else 756, [some (.ref 40), some (.ref 0), some (.ref 19), some (.ref 37), some (.int iv), some (.int k0), some (.int b9), none], [], wd C1 Y1 og1)) rfl ?_
  refine gl_br (fun _ => ?_) (fun h => absurd rfl h)
  refine am_g_steps H.1 td_Z_law 1 (q' := (760, [some (.ref 40), some (.ref 0), some (.ref 19), some (.ref 37), some (.int iv), some (.int k0), some (.int b9), none], [.int k0], wd C1 Y1 og1)) rfl ?_
  have fin : lwG D cA ad p l e s m args below meth c Q (cells + 1) (slots + 6) (775, [some (.ref 40), some (.ref 0), some (.ref 19), some (.ref 37), some (.int iv), some (.int k0), some (.int b9), none], [], wd C1 Y1 og1) := by
    refine am_g_steps H.1 td_Z_law 1 (q' := (872, [some (.ref 40), some (.ref 0), some (.ref 19), some (.ref 37), some (.int iv), some (.int k0), some (.int b9), none], [], wd C1 Y1 og1)) rfl ?_
    refine am_g_less (L' := [some (.ref 40), some (.ref 0), some (.ref 19), some (.ref 37), some (.int iv), none, none, none]) (fun k9 v9 h9 => ?_) (k C1 Y1 og1 hV)
    rcases k9 with _ | _ | _ | _ | _ | _ | _ | _ | k9 <;> first | exact h9 | (exact absurd h9 (by simp))
  refine am_g_steps H.1 td_Z_law 1 (q' := (bif decide (k0 = 0) then 763 else 775, [some (.ref 40), some (.ref 0), some (.ref 19), some (.ref 37), some (.int iv), some (.int k0), some (.int b9), none], [], wd C1 Y1 og1)) rfl ?_
  refine gl_br (fun hk0 => ?_) (fun _ => fin)
  refine am_g_steps H.1 td_Z_law 2 (q' := (765, [some (.ref 40), some (.ref 0), some (.ref 19), some (.ref 37), some (.int iv), some (.int k0), some (.int b9), none], [.int 0, .ref 37], wd C1 Y1 og1)) rfl ?_
  refine gl_lald (a := 37) (f := og1) (N := 1) H.1 rfl rfl (pk_in 0 1 (by omega)) (td_Z_law _ _ rfl) ?_
  refine gl_eq (q' := (766, [some (.ref 40), some (.ref 0), some (.ref 19), some (.ref 37), some (.int iv), some (.int k0), some (.int b9), none], [.long (og1 0)], wd C1 Y1 og1)) rfl ?_
  refine am_g_steps H.1 td_Z_law 2 (q' := (769, [some (.ref 40), some (.ref 0), some (.ref 19), some (.ref 37), some (.int iv), some (.int k0), some (.int b9), none], [.long b9.toInt64, .long (og1 0)], wd C1 Y1 og1)) rfl ?_
  refine am_g_steps H.1 td_Z_law 1 (q' := (770, [some (.ref 40), some (.ref 0), some (.ref 19), some (.ref 37), some (.int iv), some (.int k0), some (.int b9), none], [.int (lg_cmp (og1 0) b9.toInt64)], wd C1 Y1 og1)) rfl ?_
  refine am_g_steps H.1 td_Z_law 1 (q' := (bif decide (lg_cmp (og1 0) b9.toInt64 = 0) then 775 else 773, [some (.ref 40), some (.ref 0), some (.ref 19), some (.ref 37), some (.int iv), some (.int k0), some (.int b9), none], [], wd C1 Y1 og1)) rfl ?_
  exact gl_br (fun _ => fin) (fun h => absurd (cmp_0.mpr (hog hk0)) h)
set_option maxHeartbeats 2000000 in
set_option maxRecDepth 100000 in
theorem lw_c_out (H : lwH D cA ad fm p l s m args c base Ls xs) (I : lwV C Y) (i1 : vp_in (iv + 1) Ls) (i2 : vp_in (iv + 2) Ls) (i3 : vp_in (iv + 3) Ls) (hcs : cells + 1 ≤ 601024 ∧ slots + 6 ≤ 7293034) (k : ∀ C' Y' og', lwV C' Y' → lwG D cA ad p l e s m args below meth c Q (cells) (slots) (872, [some (.ref 40), some (.ref 0), some (.ref 19), some (.ref 37), some (.int iv), none, none, none], [], wd C' Y' og')) : lwG D cA ad p l e s m args below meth c Q cells slots (778, [some (.ref 40), some (.ref 0), some (.ref 19), some (.ref 37), some (.int iv), none, none, none], [], wd C Y og) := by
  refine am_g_steps H.1 td_Z_law 1 (q' := (779, [some (.ref 40), some (.ref 0), some (.ref 19), some (.ref 37), some (.int iv), none, none, none], [.ref 0], wd C Y og)) rfl ?_
  refine am_g_steps H.1 td_Z_law 4 (q' := (784, [some (.ref 40), some (.ref 0), some (.ref 19), some (.ref 37), some (.int iv), none, none, none], [.int (iv + 1), .ref 40, .ref 0], wd C Y og)) rfl ?_
  refine gl_sld H.1 H.2.1 H.2.2.1 H.2.2.2.1 i1 (td_Z_law _ _ rfl) ?_
  refine gl_eq (q' := (785, [some (.ref 40), some (.ref 0), some (.ref 19), some (.ref 37), some (.int iv), none, none, none], [.int (xs (iv + 1).toNatClampNeg), .ref 0], wd C Y og)) rfl ?_
  obtain ⟨PC, hz, hm⟩ := p_out (l := l) (D := D) (cA := cA) (ad := ad) (fm := fm) (og := og) I (xs (iv + 1).toNatClampNeg)
  refine am_g_callV (As := [.int (xs (iv + 1).toNatClampNeg)]) (a := 0) (rest := []) (w := wd C Y og) H.1 (td_Z_law _ _ rfl) ok_S_out oi_S_out lk_10_97 (Or.inl ⟨_, _, _, rfl, rfl, rfl⟩) hz rfl rfl (by decide) (by decide) ⟨by show cells ≤ 601024; omega, by show slots ≤ 7293034; omega⟩ (Nat.zero_le _) ?_
  rintro v_ w_ ⟨x9, C1, rfl, rfl, hPC⟩ -
  refine gl_eq (q' := (788, [some (.ref 40), some (.ref 0), some (.ref 19), some (.ref 37), some (.int iv), none, none, none], [.int x9], wd C1 Y og)) rfl ?_
  refine am_g_steps H.1 td_Z_law 1 (q' := (789, [some (.ref 40), some (.ref 0), some (.ref 19), some (.ref 37), some (.int iv), none, none, none], [.ref 19, .int x9], wd C1 Y og)) rfl ?_
  refine am_g_steps H.1 td_Z_law 4 (q' := (794, [some (.ref 40), some (.ref 0), some (.ref 19), some (.ref 37), some (.int iv), none, none, none], [.int (iv + 1), .ref 40, .ref 19, .int x9], wd C1 Y og)) rfl ?_
  refine gl_sld H.1 H.2.1 H.2.2.1 H.2.2.2.1 i1 (td_Z_law _ _ rfl) ?_
  refine gl_eq (q' := (795, [some (.ref 40), some (.ref 0), some (.ref 19), some (.ref 37), some (.int iv), none, none, none], [.int (xs (iv + 1).toNatClampNeg), .ref 19, .int x9], wd C1 Y og)) rfl ?_
  refine am_g_callV (As := [.int (xs (iv + 1).toNatClampNeg)]) (a := 19) (rest := [.int x9]) (w := wd C1 Y og) H.1 (td_Z_law _ _ rfl) ok_M_out oi_M_out lk_10_100 (Or.inl ⟨_, _, _, rfl, rfl, rfl⟩) (hm x9 C1 hPC) rfl rfl (by decide) (by decide) ⟨by show cells ≤ 601024; omega, by show slots ≤ 7293034; omega⟩ (Nat.le_of_ble_eq_true rfl) ?_
  rintro v_ w_ ⟨Y1, rfl, rfl, hV⟩ -
  refine gl_eq (q' := (798, [some (.ref 40), some (.ref 0), some (.ref 19), some (.ref 37), some (.int iv), none, none, none], [.int x9, .int x9], wd C1 Y1 og)) rfl ?_
  refine am_g_steps H.1 td_Z_law 1 (q' := (bif decide (x9 = x9) then 872 else 801, [some (.ref 40), some (.ref 0), some (.ref 19), some (.ref 37), some (.int iv), none, none, none], [], wd C1 Y1 og)) rfl ?_
  exact gl_br (fun _ => k C1 Y1 og hV) (fun h => absurd rfl h)
set_option maxHeartbeats 2000000 in
set_option maxRecDepth 100000 in
theorem lw_c_take (H : lwH D cA ad fm p l s m args c base Ls xs) (I : lwV C Y) (i1 : vp_in (iv + 1) Ls) (i2 : vp_in (iv + 2) Ls) (i3 : vp_in (iv + 3) Ls) (hcs : cells + 1 ≤ 601024 ∧ slots + 6 ≤ 7293034) (k : ∀ C' Y' og', lwV C' Y' → lwG D cA ad p l e s m args below meth c Q (cells) (slots) (872, [some (.ref 40), some (.ref 0), some (.ref 19), some (.ref 37), some (.int iv), none, none, none], [], wd C' Y' og')) : lwG D cA ad p l e s m args below meth c Q cells slots (803, [some (.ref 40), some (.ref 0), some (.ref 19), some (.ref 37), some (.int iv), none, none, none], [], wd C Y og) := by
  refine am_g_steps H.1 td_Z_law 1 (q' := (804, [some (.ref 40), some (.ref 0), some (.ref 19), some (.ref 37), some (.int iv), none, none, none], [.ref 0], wd C Y og)) rfl ?_
  obtain ⟨PC, hz, hm⟩ := p_take (l := l) (D := D) (cA := cA) (ad := ad) (fm := fm) (og := og) I 
  refine am_g_callV (As := []) (a := 0) (rest := []) (w := wd C Y og) H.1 (td_Z_law _ _ rfl) ok_S_take oi_S_take lk_10_101 (Or.inl ⟨_, _, _, rfl, rfl, rfl⟩) hz rfl rfl (by decide) (by decide) ⟨by show cells ≤ 601024; omega, by show slots ≤ 7293034; omega⟩ (Nat.zero_le _) ?_
  rintro v_ w_ ⟨x9, C1, rfl, rfl, hPC⟩ -
  refine gl_eq (q' := (807, [some (.ref 40), some (.ref 0), some (.ref 19), some (.ref 37), some (.int iv), none, none, none], [.int x9], wd C1 Y og)) rfl ?_
  refine am_g_steps H.1 td_Z_law 1 (q' := (808, [some (.ref 40), some (.ref 0), some (.ref 19), some (.ref 37), some (.int iv), none, none, none], [.ref 19, .int x9], wd C1 Y og)) rfl ?_
  refine am_g_callV (As := []) (a := 19) (rest := [.int x9]) (w := wd C1 Y og) H.1 (td_Z_law _ _ rfl) ok_M_take oi_M_take lk_10_104 (Or.inl ⟨_, _, _, rfl, rfl, rfl⟩) (hm x9 C1 hPC) rfl rfl (by decide) (by decide) ⟨by show cells ≤ 601024; omega, by show slots ≤ 7293034; omega⟩ (Nat.le_of_ble_eq_true rfl) ?_
  rintro v_ w_ ⟨Y1, rfl, rfl, hV⟩ -
  refine gl_eq (q' := (811, [some (.ref 40), some (.ref 0), some (.ref 19), some (.ref 37), some (.int iv), none, none, none], [.int x9, .int x9], wd C1 Y1 og)) rfl ?_
  refine am_g_steps H.1 td_Z_law 1 (q' := (bif decide (x9 = x9) then 872 else 814, [some (.ref 40), some (.ref 0), some (.ref 19), some (.ref 37), some (.int iv), none, none, none], [], wd C1 Y1 og)) rfl ?_
  exact gl_br (fun _ => k C1 Y1 og hV) (fun h => absurd rfl h)
set_option maxHeartbeats 2000000 in
set_option maxRecDepth 100000 in
theorem lw_c_told (H : lwH D cA ad fm p l s m args c base Ls xs) (I : lwV C Y) (i1 : vp_in (iv + 1) Ls) (i2 : vp_in (iv + 2) Ls) (i3 : vp_in (iv + 3) Ls) (hcs : cells + 1 ≤ 601024 ∧ slots + 6 ≤ 7293034) (k : ∀ C' Y' og', lwV C' Y' → lwG D cA ad p l e s m args below meth c Q (cells + 1) (slots + 6) (872, [some (.ref 40), some (.ref 0), some (.ref 19), some (.ref 37), some (.int iv), none, none, none], [], wd C' Y' og')) : lwG D cA ad p l e s m args below meth c Q cells slots (816, [some (.ref 40), some (.ref 0), some (.ref 19), some (.ref 37), some (.int iv), none, none, none], [], wd C Y og) := by
  refine am_g_steps H.1 td_Z_law 1 (q' := (817, [some (.ref 40), some (.ref 0), some (.ref 19), some (.ref 37), some (.int iv), none, none, none], [.ref 0], wd C Y og)) rfl ?_
  refine am_g_steps H.1 td_Z_law 4 (q' := (822, [some (.ref 40), some (.ref 0), some (.ref 19), some (.ref 37), some (.int iv), none, none, none], [.int (iv + 1), .ref 40, .ref 0], wd C Y og)) rfl ?_
  refine gl_sld H.1 H.2.1 H.2.2.1 H.2.2.2.1 i1 (td_Z_law _ _ rfl) ?_
  refine gl_eq (q' := (823, [some (.ref 40), some (.ref 0), some (.ref 19), some (.ref 37), some (.int iv), none, none, none], [.int (xs (iv + 1).toNatClampNeg), .ref 0], wd C Y og)) rfl ?_
  refine am_g_steps H.1 td_Z_law 1 (q' := (824, [some (.ref 40), some (.ref 0), some (.ref 19), some (.ref 37), some (.int iv), none, none, none], [.ref 37, .int (xs (iv + 1).toNatClampNeg), .ref 0], wd C Y og)) rfl ?_
  obtain ⟨k0, PC, hz, hm⟩ := p_told (l := l) (D := D) (cA := cA) (ad := ad) (fm := fm) (base := base) (og := og) H.2.2.2.2.1 I (xs (iv + 1).toNatClampNeg)
  refine am_g_callZ (As := [.ref 0, .int (xs (iv + 1).toNatClampNeg), .ref 37]) (rest := []) (w := wd C Y og) H.1 (td_Z_law _ _ rfl) zw_told.1 zw_told.2.1 zw_told.2.2.1 zw_told.2.2.2.1 zw_told.2.2.2.2 lk_10_105 hz rfl rfl (by decide) (by decide) hcs (Nat.zero_le _) H.2.2.2.2.2.2.1 H.2.2.2.2.2.2.2.1 H.2.2.2.2.2.2.2.2.1 H.2.2.2.2.2.2.2.2.2 ?_
  rintro v_ w_ ⟨rfl, C1, og1, rfl, hPC⟩ -
  refine gl_eq (q' := (827, [some (.ref 40), some (.ref 0), some (.ref 19), some (.ref 37), some (.int iv), none, none, none], [.int k0], wd C1 Y og1)) rfl ?_
  refine am_g_steps H.1 td_Z_law 2 (q' := (830, [some (.ref 40), some (.ref 0), some (.ref 19), some (.ref 37), some (.int iv), some (.int k0), none, none], [.ref 19], wd C1 Y og1)) rfl ?_
  refine am_g_steps H.1 td_Z_law 4 (q' := (835, [some (.ref 40), some (.ref 0), some (.ref 19), some (.ref 37), some (.int iv), some (.int k0), none, none], [.int (iv + 1), .ref 40, .ref 19], wd C1 Y og1)) rfl ?_
  refine gl_sld H.1 H.2.1 H.2.2.1 H.2.2.2.1 i1 (td_Z_law _ _ rfl) ?_
  refine gl_eq (q' := (836, [some (.ref 40), some (.ref 0), some (.ref 19), some (.ref 37), some (.int iv), some (.int k0), none, none], [.int (xs (iv + 1).toNatClampNeg), .ref 19], wd C1 Y og1)) rfl ?_
  refine am_g_callV (As := [.int (xs (iv + 1).toNatClampNeg)]) (a := 19) (rest := []) (w := wd C1 Y og1) H.1 (td_Z_law _ _ rfl) ok_M_told oi_M_told lk_10_107 (Or.inl ⟨_, _, _, rfl, rfl, rfl⟩) (hm C1 og1 hPC) rfl rfl (by decide) (by decide) hcs (Nat.zero_le _) ?_
  rintro v_ w_ ⟨b9, Y1, rfl, rfl, h0, hV, hog⟩ -
  refine gl_eq (q' := (839, [some (.ref 40), some (.ref 0), some (.ref 19), some (.ref 37), some (.int iv), some (.int k0), none, none], [.int b9], wd C1 Y1 og1)) rfl ?_
  refine am_g_steps H.1 td_Z_law 2 (q' := (842, [some (.ref 40), some (.ref 0), some (.ref 19), some (.ref 37), some (.int iv), some (.int k0), some (.int b9), none], [.ref 19], wd C1 Y1 og1)) rfl ?_
  refine am_g_callV (As := []) (a := 19) (rest := []) (w := wd C1 Y1 og1) H.1 (td_Z_law _ _ rfl) ok_M_thrown oi_M_thrown lk_10_57 (Or.inl ⟨_, _, _, rfl, rfl, rfl⟩) (c_M_thrown 40 C1 Y1 og1) rfl rfl (by decide) (by decide) hcs (Nat.zero_le _) ?_
  rintro v_ w_ ⟨rfl, rfl⟩ -
  rw [h0]
  refine gl_eq (q' := (845, [some (.ref 40), some (.ref 0), some (.ref 19), some (.ref 37), some (.int iv), some (.int k0), some (.int b9), none], [.int k0], wd C1 Y1 og1)) rfl ?_
  refine am_g_steps H.1 td_Z_law 1 (q' := (847, [some (.ref 40), some (.ref 0), some (.ref 19), some (.ref 37), some (.int iv), some (.int k0), some (.int b9), none], [.int k0, .int k0], wd C1 Y1 og1)) rfl ?_
  refine am_g_steps H.1 td_Z_law 1 (q' := (bif decide (k0 = k0) then 852 else 850, [some (.ref 40), some (.ref 0), some (.ref 19), some (.ref 37), some (.int iv), some (.int k0), some (.int b9), none], [], wd C1 Y1 og1)) rfl ?_
  refine gl_br (fun _ => ?_) (fun h => absurd rfl h)
  refine am_g_steps H.1 td_Z_law 1 (q' := (854, [some (.ref 40), some (.ref 0), some (.ref 19), some (.ref 37), some (.int iv), some (.int k0), some (.int b9), none], [.int k0], wd C1 Y1 og1)) rfl ?_
  have fin : lwG D cA ad p l e s m args below meth c Q (cells + 1) (slots + 6) (869, [some (.ref 40), some (.ref 0), some (.ref 19), some (.ref 37), some (.int iv), some (.int k0), some (.int b9), none], [], wd C1 Y1 og1) := by
    refine am_g_steps H.1 td_Z_law 1 (q' := (872, [some (.ref 40), some (.ref 0), some (.ref 19), some (.ref 37), some (.int iv), some (.int k0), some (.int b9), none], [], wd C1 Y1 og1)) rfl ?_
    refine am_g_less (L' := [some (.ref 40), some (.ref 0), some (.ref 19), some (.ref 37), some (.int iv), none, none, none]) (fun k9 v9 h9 => ?_) (k C1 Y1 og1 hV)
    rcases k9 with _ | _ | _ | _ | _ | _ | _ | _ | k9 <;> first | exact h9 | (exact absurd h9 (by simp))
  refine am_g_steps H.1 td_Z_law 1 (q' := (bif decide (k0 = 0) then 857 else 869, [some (.ref 40), some (.ref 0), some (.ref 19), some (.ref 37), some (.int iv), some (.int k0), some (.int b9), none], [], wd C1 Y1 og1)) rfl ?_
  refine gl_br (fun hk0 => ?_) (fun _ => fin)
  refine am_g_steps H.1 td_Z_law 2 (q' := (859, [some (.ref 40), some (.ref 0), some (.ref 19), some (.ref 37), some (.int iv), some (.int k0), some (.int b9), none], [.int 0, .ref 37], wd C1 Y1 og1)) rfl ?_
  refine gl_lald (a := 37) (f := og1) (N := 1) H.1 rfl rfl (pk_in 0 1 (by omega)) (td_Z_law _ _ rfl) ?_
  refine gl_eq (q' := (860, [some (.ref 40), some (.ref 0), some (.ref 19), some (.ref 37), some (.int iv), some (.int k0), some (.int b9), none], [.long (og1 0)], wd C1 Y1 og1)) rfl ?_
  refine am_g_steps H.1 td_Z_law 2 (q' := (863, [some (.ref 40), some (.ref 0), some (.ref 19), some (.ref 37), some (.int iv), some (.int k0), some (.int b9), none], [.long b9.toInt64, .long (og1 0)], wd C1 Y1 og1)) rfl ?_
  refine am_g_steps H.1 td_Z_law 1 (q' := (864, [some (.ref 40), some (.ref 0), some (.ref 19), some (.ref 37), some (.int iv), some (.int k0), some (.int b9), none], [.int (lg_cmp (og1 0) b9.toInt64)], wd C1 Y1 og1)) rfl ?_
  refine am_g_steps H.1 td_Z_law 1 (q' := (bif decide (lg_cmp (og1 0) b9.toInt64 = 0) then 869 else 867, [some (.ref 40), some (.ref 0), some (.ref 19), some (.ref 37), some (.int iv), some (.int k0), some (.int b9), none], [], wd C1 Y1 og1)) rfl ?_
  exact gl_br (fun _ => fin) (fun h => absurd (cmp_0.mpr (hog hk0)) h)
end LWG
