/-! the component's face where it throws; printed by wip/gen/gB02.py -/
def tr_rm : Room := { frames := 8, cells := 1, slots := 6, locals := 320 }
def tr_ms : List (Nat × String) := [(50, "n is 1 to 8"), (75, "no such object or what"), (86, "no such value or what"), (98, "no such value"), (110, "no such values"), (134, "no such what")]
/-- what making an exception asks of the state beside the tables' words -/
def tr_S (U : State) : Prop := (∀ a ∈ tr_sp ++ tr_dc, a.before #[] U = true) ∧ ∀ q ∈ tr_ms, ∃ a, vk_R "SyntaxRows" q.1 q.2 a U
section TRC
variable {D : va_G} {cA : Nat → ClassId} {ad : Nat → Nat} {fm : Value} {co : Nat} {cc : ByteArray} {p : Program} {l : Launch} {e : Env} {R : Room} {s : State} {m : MethodId} {args : Array Value} {below : List Frame} {meth : Method} {c : Code} {nL cells slots : Nat} {Q : State → Prop} {ls : Array Slot}
/-- a call of a method that writes nothing -/
theorem tr_call {M' : am_M} {n pc idx a : Nat} {w : am_W} {As rest : List Value} {v : Int32} (hX : am_X D cA ad fm co cc nL p s m args c (am_A ad n s.heap.size)) (hdec : decode cc pc = .ok (.invokevirtual idx, 3)) (hM' : am_ok M') (hi : am_inst M') (hlk : Cond.methodLink (pr_cn co) idx (am_y M') ∈ lw_g) (hrc : am_rcv w a (am_y M').cls) (hMt : Met l (am_y M') (am_cw M' :: lw_g) (am_rm 0) (am_Pc D cA ad fm (.ref a :: As) w s.heap.size) (tr_Qp v) 0 0 (fun _ => False)) (hlen : As.length = am_np M') (hn : w.length = n) (hd : 1 ≤ R.frames) (hlo : 40 ≤ R.locals) (hcs : cells ≤ R.cells ∧ slots ≤ R.slots) (hrs : (rest.map fun v => v.category).sum ≤ 8) (hP : va_P D pr_cl (am_ws cA ad w) s.heap) (hD : va_D (am_A ad n s.heap.size) (am_ws cA ad w)) (hls : ls.size = nL)
    (k : W p l e R s m args below meth c s.heap [] cells slots Q (F0 m (pc + 3) ls (.int v :: rest.map (am_cv ad)))) : W p l e R s m args below meth c s.heap [] cells slots Q (F0 m pc ls ((As.reverse ++ .ref a :: rest).map (am_cv ad))) := by
  have hS : va_S (am_A ad n s.heap.size) s.heap s.heap [] := va_S.rf
  obtain ⟨hx, hb, hml, hown, hts, hK, hKn, hA⟩ := hX
  obtain ⟨m1, m2, m3, m4, m5, m6, m7⟩ := hM'
  have cw : CallW R s args (pr_cn co) (am_y M').cls idx (am_y M') (am_b M') (am_ml M') (am_rt M') (am_cw M' :: lw_g) (am_rm 0) 0 0 (am_np M') :=
    cwV (Ts := lw_g) (am_np M') hts (am_gin (fun x hx => by
      rcases List.mem_append.mp hx with h | h
      · simp only [List.mem_cons, List.not_mem_nil, or_false] at h
        rcases h with rfl | rfl | rfl | rfl
        · exact hlk
        · exact hi.1
        · exact hi.2
        · exact m3
      · rcases List.mem_cons.mp h with rfl | h
        · exact m2
        · exact h)) rfl rfl rfl ⟨rfl, m5⟩ ⟨hd, by show 8 + (am_ml M' + 11) + 40 * 0 ≤ R.locals; omega⟩
  have e1 : (As.reverse ++ .ref a :: rest).map (am_cv ad) = (As.map (am_cv ad)).reverse ++ .ref (ad a) :: rest.map (am_cv ad) := by simp [am_cv]
  have run := va_runV (l := l) (e := e) (below := below) (meth := meth) (cells := cells) (slots := slots) (locs := []) (g := F0 m pc ls ((As.map (am_cv ad)).reverse ++ .ref (ad a) :: rest.map (am_cv ad))) (rest := rest.map (am_cv ad)) (As := As.map (am_cv ad)) (b := ad a) (Ts := lw_g) ⟨hx, hb, hml, hown, hts⟩ hMt cw ⟨am_blind, am_rcv_at hrc hK hKn hP hS, fun U hU hW => am_pre (As := .ref a :: As) hn hK hKn hP hD hS hU hW⟩ rfl (by rw [List.length_map]; exact hlen) hls rfl (lv_room (by rw [am_cat_sum]; exact hrs)) hdec hcs
  rw [e1]
  intro T hT X
  obtain ⟨v0, st₀, t, T', L, h0, X', hL, e2, e3, ⟨hq1, hq2⟩, st⟩ := run T hT X
  have hv0 : v0 = some (.int v) := by injection hq1
  subst hv0
  have hL0 : L = [] := List.eq_nil_iff_forall_not_mem.mpr (fun q hq => hL q hq)
  subst hL0
  obtain ⟨t2, a1, b1⟩ := k T' (by rw [e2, hq2, h0]) (by simpa using X')
  exact ⟨t2, st t2 a1, b1⟩
/-- a method's contract where it throws a new exception of class X -/
def am_Mx (l : Launch) (D : va_G) (cA : Nat → ClassId) (ad : Nat → Nat) (fm : Value) (M : am_M) (X : String) (As : List Value) (w : am_W) : Prop :=
  ∀ sz : Nat, MetFree l (am_y M) (headSpec (am_cw M :: lw_g) tr_rm) (fun a U => am_Pc D cA ad fm As w sz a U ∧ tr_S U) (fun _ _ _ _ _ => True) (fun _ st oc t => oc = .threw st.heap.size ∧ st.WarmedH t.vm ∧ st.sameButNew ({ t with vm := st.vm } : State) [] 1 6 ∧ ∃ ce : Cell, t.heap[st.heap.size]? = some ce ∧ ce.vm = .none ∧ st.vm.findClass X = some ce.cls)
theorem tr_entry {M : am_M} (hM : am_ok M) {X : String} {As : List Value} {w : am_W} (hf : l.flags = pinnedFlags ++ [noTraceFlag]) (hA : (am_arg As).length ≤ am_ml M)
    (h : ∀ (p : Program) (e : Env) (s : State) (m : MethodId) (below : List Frame) (meth : Method) (c : Code) (ls : Array Slot), am_X D cA ad fm (am_co M) (am_b M) (am_ml M) p s m (As.map (am_cv ad)).toArray c (am_A ad w.length s.heap.size) → tr_S s → e.platform.stackTraces = false → (∀ (n : Nat), ∀ y ∈ c.exceptionTable.toList, covers y n = false) → meth.locks = false → lv_has ls (am_ml M) (am_lv ad (am_entry (am_ml M) As)) → va_P D pr_cl (am_ws cA ad w) s.heap → va_D (am_A ad w.length s.heap.size) (am_ws cA ad w) → W p l e tr_rm s m (As.map (am_cv ad)).toArray below meth c s.heap [] 0 0 (tr_Q X below s) (F0 m 0 ls [])) : am_Mx l D cA ad fm M X As w := by
  obtain ⟨h1, h2, h3, h4, h5, h6, h7⟩ := hM
  intro sz
  refine MetFree.of_bodyS (code := am_b M) (maxLocals := am_ml M) (ret := am_rt M) h4 ?_ ?_
  · intro args s m h hn
    obtain ⟨meth, c, q1, q2, q3, q4, q5, q6, -, -⟩ := Cond.code_spec hn (atoms_spec (ws := am_cw M :: lw_g) h _ List.mem_cons_self)
    exact ⟨meth, c, q1, q2, q3, q4, q5, q6⟩
  · intro p e s m args below meth c s₁ B hml hv _
    obtain ⟨⟨rfl, hsz, hP, hK, hD, hKn⟩, htS⟩ := hv
    subst hsz
    have hts := atoms_spec (ws := am_cw M :: lw_g) B.pre
    have hown : s.vm.findClass (pr_cn (am_co M)) = some m.cls := by rw [h6]; exact findClass_of_methodNamed B.named
    have X₀ : Stand p l e tr_rm s m (As.map (am_cv ad)).toArray below meth c s₁ [] 0 0 := Stand.of_body B
    have htr : e.platform.stackTraces = false := Launch.traces_off hf X₀.admits
    have hh0 : s₁.heap = s.heap := by rw [B.state]; rfl
    have k := h p e s m below meth c _ ⟨B.exec, B.bytes, hml, hown, fun w hw => hts w (List.mem_cons_of_mem _ hw), hK, hKn, fun q hq => Or.inr hq⟩ htS htr (fun n => covers_of_empty (B.noHandlers (hts _ List.mem_cons_self)) n) B.notSynchronized (am_entry_has hA) hP (am_D_A hD)
    rw [← lg_entry_eq] at k
    obtain ⟨t, a1, b1, b2, b3⟩ := k s₁ hh0 X₀
    exact ⟨t, _, a1, b1, b2, rfl, b3⟩
theorem tr_at {X : String} {ic : Nat} (hw : ∀ a ∈ Bundle.ownAtoms "SyntaxRows" ic X tr_up, (a ∈ lw_tbl ∧ goodWord a = true) ∨ a ∈ tr_sp ++ tr_dc) (hts : ∀ w ∈ lw_g, w.before args s = true) (hS : tr_S s) : ∀ a ∈ Bundle.ownAtoms "SyntaxRows" ic X tr_up, a.before args s = true := fun a ha => by
  rcases hw a ha with h | h
  · exact hts a (List.mem_filter.mpr h)
  · have h9 := hS.1 a h
    simp only [tr_sp, tr_dc, List.cons_append, List.nil_append, List.mem_cons, List.not_mem_nil, or_false] at h
    rcases h with rfl | rfl | rfl | rfl | rfl | rfl | rfl | rfl | rfl <;> first | exact va_any rfl h9 | exact h9 | (simp only [Cond.before, Cond.holds, Cond.value, Term.eval] at h9 ⊢; exact h9)
end TRC
section C102X
variable {l : Launch} {D : va_G} {cA : Nat → ClassId} {ad : Nat → Nat} {fm : Value}
theorem bz_ne0 {z : Bool} (h : ¬ bz z = 0) : z = true := by cases z; exact absurd rfl h; rfl
set_option maxHeartbeats 1000000 in
theorem x_S_feed (hf : l.flags = pinnedFlags ++ [noTraceFlag]) (C : wd_C) (Y : wd_Y) (og : Nat → Int64) (x : Int32) (B : Int64) (hx9 : ¬ (1 ≤ x ∧ x ≤ 8)) : am_Mx l D cA ad fm m_S_feed tr_A [.ref 0, .int x, .long B] (wd C Y og) := by
  refine tr_entry ok_S_feed hf (by simp [am_arg, Value.category, m_S_feed, am_ml]) ?_
  intro p e s m below meth c ls hX htS htr hout hlk hl hP hD
  have h1 := ok_S_feed.1
  have hx := hX.1
  have hb := hX.2.1
  have hls := hl.1
  have hts := hX.2.2.2.2.1
  obtain ⟨q, hZ⟩ := htS.2 (50, _) (List.mem_of_getElem? (i := 0) rfl)
  refine lv_iload_n hx hb (h1 _ _ (rfl : am_tb m_S_feed 0 = some (.iload_n 1, 1))) rfl (lv_at hl 1 rfl) ?_
  refine lv_iconst hx hb (h1 _ _ (rfl : am_tb m_S_feed 1 = some (.iconst 1, 1))) (v := 1) rfl ?_
  refine lv_icmp_lt hx hb (h1 _ _ (rfl : am_tb m_S_feed 2 = some (.if_icmp .lt 9, 3))) (tgt := 11) rfl (fun h_1 => ?_) (fun h_1 => ?_)
  · skip
    exact tr_W (ic := 52) (ik := 48) hx htr hb hX.2.2.2.1 (by decide +kernel) (tr_at tr_wA hts htS) (hts _ (List.mem_filter.mpr tr_cl.2.1)) (hts _ (List.mem_filter.mpr tr_cl.2.2.2)) hZ hout (hls.trans hX.2.2.1.symm) (h1 _ _ (rfl : am_tb m_S_feed 11 = some (.new 48, 3))) (h1 _ _ (rfl : am_tb m_S_feed 14 = some (.dup, 1))) (h1 _ _ (rfl : am_tb m_S_feed 15 = some (.ldc 50, 2))) (h1 _ _ (rfl : am_tb m_S_feed 17 = some (.invokespecial 52, 3))) (h1 _ _ (rfl : am_tb m_S_feed 20 = some (.athrow, 1))) hlk (by decide) (by decide) (by decide) (by decide)
  · skip
    refine lv_iload_n hx hb (h1 _ _ (rfl : am_tb m_S_feed 5 = some (.iload_n 1, 1))) rfl (lv_at hl 1 rfl) ?_
    refine lv_bipush hx hb (h1 _ _ (rfl : am_tb m_S_feed 6 = some (.bipush 8, 2))) (v := 8) rfl ?_
    refine lv_icmp_le hx hb (h1 _ _ (rfl : am_tb m_S_feed 8 = some (.if_icmp .le 13, 3))) (tgt := 21) rfl (fun h_2 => ?_) (fun h_2 => ?_)
    · skip
      exact absurd ⟨Int32.not_lt.mp h_1, h_2⟩ hx9
    · skip
      exact tr_W (ic := 52) (ik := 48) hx htr hb hX.2.2.2.1 (by decide +kernel) (tr_at tr_wA hts htS) (hts _ (List.mem_filter.mpr tr_cl.2.1)) (hts _ (List.mem_filter.mpr tr_cl.2.2.2)) hZ hout (hls.trans hX.2.2.1.symm) (h1 _ _ (rfl : am_tb m_S_feed 11 = some (.new 48, 3))) (h1 _ _ (rfl : am_tb m_S_feed 14 = some (.dup, 1))) (h1 _ _ (rfl : am_tb m_S_feed 15 = some (.ldc 50, 2))) (h1 _ _ (rfl : am_tb m_S_feed 17 = some (.invokespecial 52, 3))) (h1 _ _ (rfl : am_tb m_S_feed 20 = some (.athrow, 1))) hlk (by decide) (by decide) (by decide) (by decide)
set_option maxHeartbeats 1000000 in
theorem x_S_object (hf : l.flags = pinnedFlags ++ [noTraceFlag]) (C : wd_C) (Y : wd_Y) (og : Nat → Int64) (no : Nat) (E : Nat → Nat → Int32) (hO : obC C no E) (x y : Int32) (hx9 : ¬ (isV no x = true ∧ 0 ≤ y ∧ y < 8)) : am_Mx l D cA ad fm m_S_object tr_X [.ref 0, .int x, .int y] (wd C Y og) := by
  refine tr_entry ok_S_object hf (by simp [am_arg, Value.category, m_S_object, am_ml]) ?_
  intro p e s m below meth c ls hX htS htr hout hlk hl hP hD
  have h1 := ok_S_object.1
  have hx := hX.1
  have hb := hX.2.1
  have hls := hl.1
  have hts := hX.2.2.2.2.1
  obtain ⟨q, hZ⟩ := htS.2 (75, _) (List.mem_of_getElem? (i := 1) rfl)
  refine lv_aload_n hx hb (h1 _ _ (rfl : am_tb m_S_object 0 = some (.aload_n 0, 1))) rfl (lv_at hl 0 rfl) ?_
  refine am_w_getf hX (S := [.ref 0]) (S' := [.ref 14]) (w := wd C Y og) rfl (h1 _ _ (rfl : am_tb m_S_object 1 = some (.getfield 26, 3))) hP ?_
  refine lv_iload_n hx hb (h1 _ _ (rfl : am_tb m_S_object 4 = some (.iload_n 1, 1))) rfl (lv_at hl 1 rfl) ?_
  refine tr_call (As := [.int x]) (rest := []) (w := wd C Y og) hX (h1 _ _ (rfl : am_tb m_S_object 5 = some (.invokevirtual 69, 3))) ok_O_has oi_O_has lk_5_69 (Or.inl ⟨_, _, _, rfl, rfl, rfl⟩) (tr_hasO C Y og no hO.1 x _) rfl rfl (by decide) (by decide) ⟨Nat.zero_le _, Nat.zero_le _⟩ (Nat.le_of_ble_eq_true rfl) hP hD hls ?_
  refine lv_if_eq hx hb (h1 _ _ (rfl : am_tb m_S_object 8 = some (.ifCond .eq 13, 3))) (tgt := 21) rfl (fun h_1 => ?_) (fun h_1 => ?_)
  · skip
    exact tr_W (ic := 77) (ik := 73) hx htr hb hX.2.2.2.1 (by decide +kernel) (tr_at tr_wX hts htS) (hts _ (List.mem_filter.mpr tr_cl.1)) (hts _ (List.mem_filter.mpr tr_cl.2.2.1)) hZ hout (hls.trans hX.2.2.1.symm) (h1 _ _ (rfl : am_tb m_S_object 21 = some (.new 73, 3))) (h1 _ _ (rfl : am_tb m_S_object 24 = some (.dup, 1))) (h1 _ _ (rfl : am_tb m_S_object 25 = some (.ldc 75, 2))) (h1 _ _ (rfl : am_tb m_S_object 27 = some (.invokespecial 77, 3))) (h1 _ _ (rfl : am_tb m_S_object 30 = some (.athrow, 1))) hlk (by decide) (by decide) (by decide) (by decide)
  · skip
    refine lv_iload_n hx hb (h1 _ _ (rfl : am_tb m_S_object 11 = some (.iload_n 2, 1))) rfl (lv_at hl 2 rfl) ?_
    refine lv_if_lt hx hb (h1 _ _ (rfl : am_tb m_S_object 12 = some (.ifCond .lt 9, 3))) (tgt := 21) rfl (fun h_2 => ?_) (fun h_2 => ?_)
    · skip
      exact tr_W (ic := 77) (ik := 73) hx htr hb hX.2.2.2.1 (by decide +kernel) (tr_at tr_wX hts htS) (hts _ (List.mem_filter.mpr tr_cl.1)) (hts _ (List.mem_filter.mpr tr_cl.2.2.1)) hZ hout (hls.trans hX.2.2.1.symm) (h1 _ _ (rfl : am_tb m_S_object 21 = some (.new 73, 3))) (h1 _ _ (rfl : am_tb m_S_object 24 = some (.dup, 1))) (h1 _ _ (rfl : am_tb m_S_object 25 = some (.ldc 75, 2))) (h1 _ _ (rfl : am_tb m_S_object 27 = some (.invokespecial 77, 3))) (h1 _ _ (rfl : am_tb m_S_object 30 = some (.athrow, 1))) hlk (by decide) (by decide) (by decide) (by decide)
    · skip
      refine lv_iload_n hx hb (h1 _ _ (rfl : am_tb m_S_object 15 = some (.iload_n 2, 1))) rfl (lv_at hl 2 rfl) ?_
      refine lv_bipush hx hb (h1 _ _ (rfl : am_tb m_S_object 16 = some (.bipush 8, 2))) (v := 8) rfl ?_
      refine lv_icmp_lt hx hb (h1 _ _ (rfl : am_tb m_S_object 18 = some (.if_icmp .lt 13, 3))) (tgt := 31) rfl (fun h_3 => ?_) (fun h_3 => ?_)
      · skip
        exact absurd ⟨bz_ne0 h_1, Int32.not_lt.mp h_2, h_3⟩ hx9
      · skip
        exact tr_W (ic := 77) (ik := 73) hx htr hb hX.2.2.2.1 (by decide +kernel) (tr_at tr_wX hts htS) (hts _ (List.mem_filter.mpr tr_cl.1)) (hts _ (List.mem_filter.mpr tr_cl.2.2.1)) hZ hout (hls.trans hX.2.2.1.symm) (h1 _ _ (rfl : am_tb m_S_object 21 = some (.new 73, 3))) (h1 _ _ (rfl : am_tb m_S_object 24 = some (.dup, 1))) (h1 _ _ (rfl : am_tb m_S_object 25 = some (.ldc 75, 2))) (h1 _ _ (rfl : am_tb m_S_object 27 = some (.invokespecial 77, 3))) (h1 _ _ (rfl : am_tb m_S_object 30 = some (.athrow, 1))) hlk (by decide) (by decide) (by decide) (by decide)
theorem le2_lt3 {y : Int32} (h : y ≤ 2) : y < 3 := by
  rw [Int32.lt_iff_toInt_lt]
  have := Int32.le_iff_toInt_le.mp h
  have e2 : (2 : Int32).toInt = 2 := rfl
  have e3 : (3 : Int32).toInt = 3 := rfl
  omega
set_option maxHeartbeats 1000000 in
theorem x_S_value (hf : l.flags = pinnedFlags ++ [noTraceFlag]) (C : wd_C) (Y : wd_Y) (og : Nat → Int64) (nv u : Nat) (V : VT) (hS : vsC C nv u V) (x y : Int32) (hx9 : ¬ (isV nv x = true ∧ 0 ≤ y ∧ y < 3)) : am_Mx l D cA ad fm m_S_value tr_X [.ref 0, .int x, .int y] (wd C Y og) := by
  refine tr_entry ok_S_value hf (by simp [am_arg, Value.category, m_S_value, am_ml]) ?_
  intro p e s m below meth c ls hX htS htr hout hlk hl hP hD
  have h1 := ok_S_value.1
  have hx := hX.1
  have hb := hX.2.1
  have hls := hl.1
  have hts := hX.2.2.2.2.1
  obtain ⟨q, hZ⟩ := htS.2 (86, _) (List.mem_of_getElem? (i := 2) rfl)
  refine lv_aload_n hx hb (h1 _ _ (rfl : am_tb m_S_value 0 = some (.aload_n 0, 1))) rfl (lv_at hl 0 rfl) ?_
  refine am_w_getf hX (S := [.ref 0]) (S' := [.ref 3]) (w := wd C Y og) rfl (h1 _ _ (rfl : am_tb m_S_value 1 = some (.getfield 22, 3))) hP ?_
  refine lv_iload_n hx hb (h1 _ _ (rfl : am_tb m_S_value 4 = some (.iload_n 1, 1))) rfl (lv_at hl 1 rfl) ?_
  refine tr_call (As := [.int x]) (rest := []) (w := wd C Y og) hX (h1 _ _ (rfl : am_tb m_S_value 5 = some (.invokevirtual 85, 3))) ok_V_has oi_V_has lk_5_85 (Or.inl ⟨_, _, _, rfl, rfl, rfl⟩) (tr_hasV C Y og nv u hS.1 x _) rfl rfl (by decide) (by decide) ⟨Nat.zero_le _, Nat.zero_le _⟩ (Nat.le_of_ble_eq_true rfl) hP hD hls ?_
  refine lv_if_eq hx hb (h1 _ _ (rfl : am_tb m_S_value 8 = some (.ifCond .eq 12, 3))) (tgt := 20) rfl (fun h_1 => ?_) (fun h_1 => ?_)
  · skip
    exact tr_W (ic := 77) (ik := 73) hx htr hb hX.2.2.2.1 (by decide +kernel) (tr_at tr_wX hts htS) (hts _ (List.mem_filter.mpr tr_cl.1)) (hts _ (List.mem_filter.mpr tr_cl.2.2.1)) hZ hout (hls.trans hX.2.2.1.symm) (h1 _ _ (rfl : am_tb m_S_value 20 = some (.new 73, 3))) (h1 _ _ (rfl : am_tb m_S_value 23 = some (.dup, 1))) (h1 _ _ (rfl : am_tb m_S_value 24 = some (.ldc 86, 2))) (h1 _ _ (rfl : am_tb m_S_value 26 = some (.invokespecial 77, 3))) (h1 _ _ (rfl : am_tb m_S_value 29 = some (.athrow, 1))) hlk (by decide) (by decide) (by decide) (by decide)
  · skip
    refine lv_iload_n hx hb (h1 _ _ (rfl : am_tb m_S_value 11 = some (.iload_n 2, 1))) rfl (lv_at hl 2 rfl) ?_
    refine lv_if_lt hx hb (h1 _ _ (rfl : am_tb m_S_value 12 = some (.ifCond .lt 8, 3))) (tgt := 20) rfl (fun h_2 => ?_) (fun h_2 => ?_)
    · skip
      exact tr_W (ic := 77) (ik := 73) hx htr hb hX.2.2.2.1 (by decide +kernel) (tr_at tr_wX hts htS) (hts _ (List.mem_filter.mpr tr_cl.1)) (hts _ (List.mem_filter.mpr tr_cl.2.2.1)) hZ hout (hls.trans hX.2.2.1.symm) (h1 _ _ (rfl : am_tb m_S_value 20 = some (.new 73, 3))) (h1 _ _ (rfl : am_tb m_S_value 23 = some (.dup, 1))) (h1 _ _ (rfl : am_tb m_S_value 24 = some (.ldc 86, 2))) (h1 _ _ (rfl : am_tb m_S_value 26 = some (.invokespecial 77, 3))) (h1 _ _ (rfl : am_tb m_S_value 29 = some (.athrow, 1))) hlk (by decide) (by decide) (by decide) (by decide)
    · skip
      refine lv_iload_n hx hb (h1 _ _ (rfl : am_tb m_S_value 15 = some (.iload_n 2, 1))) rfl (lv_at hl 2 rfl) ?_
      refine lv_iconst hx hb (h1 _ _ (rfl : am_tb m_S_value 16 = some (.iconst 2, 1))) (v := 2) rfl ?_
      refine lv_icmp_le hx hb (h1 _ _ (rfl : am_tb m_S_value 17 = some (.if_icmp .le 13, 3))) (tgt := 30) rfl (fun h_3 => ?_) (fun h_3 => ?_)
      · skip
        exact absurd ⟨bz_ne0 h_1, Int32.not_lt.mp h_2, le2_lt3 h_3⟩ hx9
      · skip
        exact tr_W (ic := 77) (ik := 73) hx htr hb hX.2.2.2.1 (by decide +kernel) (tr_at tr_wX hts htS) (hts _ (List.mem_filter.mpr tr_cl.1)) (hts _ (List.mem_filter.mpr tr_cl.2.2.1)) hZ hout (hls.trans hX.2.2.1.symm) (h1 _ _ (rfl : am_tb m_S_value 20 = some (.new 73, 3))) (h1 _ _ (rfl : am_tb m_S_value 23 = some (.dup, 1))) (h1 _ _ (rfl : am_tb m_S_value 24 = some (.ldc 86, 2))) (h1 _ _ (rfl : am_tb m_S_value 26 = some (.invokespecial 77, 3))) (h1 _ _ (rfl : am_tb m_S_value 29 = some (.athrow, 1))) hlk (by decide) (by decide) (by decide) (by decide)
set_option maxHeartbeats 1000000 in
theorem x_S_number (hf : l.flags = pinnedFlags ++ [noTraceFlag]) (C : wd_C) (Y : wd_Y) (og : Nat → Int64) (nv u : Nat) (V : VT) (hS : vsC C nv u V) (x : Int32) (hx9 : isV nv x = false) : am_Mx l D cA ad fm m_S_number tr_X [.ref 0, .int x] (wd C Y og) := by
  refine tr_entry ok_S_number hf (by simp [am_arg, Value.category, m_S_number, am_ml]) ?_
  intro p e s m below meth c ls hX htS htr hout hlk hl hP hD
  have h1 := ok_S_number.1
  have hx := hX.1
  have hb := hX.2.1
  have hls := hl.1
  have hts := hX.2.2.2.2.1
  obtain ⟨q, hZ⟩ := htS.2 (98, _) (List.mem_of_getElem? (i := 3) rfl)
  refine lv_aload_n hx hb (h1 _ _ (rfl : am_tb m_S_number 0 = some (.aload_n 0, 1))) rfl (lv_at hl 0 rfl) ?_
  refine am_w_getf hX (S := [.ref 0]) (S' := [.ref 3]) (w := wd C Y og) rfl (h1 _ _ (rfl : am_tb m_S_number 1 = some (.getfield 22, 3))) hP ?_
  refine lv_iload_n hx hb (h1 _ _ (rfl : am_tb m_S_number 4 = some (.iload_n 1, 1))) rfl (lv_at hl 1 rfl) ?_
  refine tr_call (As := [.int x]) (rest := []) (w := wd C Y og) hX (h1 _ _ (rfl : am_tb m_S_number 5 = some (.invokevirtual 85, 3))) ok_V_has oi_V_has lk_5_85 (Or.inl ⟨_, _, _, rfl, rfl, rfl⟩) (tr_hasV C Y og nv u hS.1 x _) rfl rfl (by decide) (by decide) ⟨Nat.zero_le _, Nat.zero_le _⟩ (Nat.le_of_ble_eq_true rfl) hP hD hls ?_
  refine lv_if_ne hx hb (h1 _ _ (rfl : am_tb m_S_number 8 = some (.ifCond .ne 13, 3))) (tgt := 21) rfl (fun h_1 => ?_) (fun h_1 => ?_)
  · skip
    exact absurd (hx9.symm.trans (bz_ne0 h_1)) (by decide)
  · skip
    exact tr_W (ic := 77) (ik := 73) hx htr hb hX.2.2.2.1 (by decide +kernel) (tr_at tr_wX hts htS) (hts _ (List.mem_filter.mpr tr_cl.1)) (hts _ (List.mem_filter.mpr tr_cl.2.2.1)) hZ hout (hls.trans hX.2.2.1.symm) (h1 _ _ (rfl : am_tb m_S_number 11 = some (.new 73, 3))) (h1 _ _ (rfl : am_tb m_S_number 14 = some (.dup, 1))) (h1 _ _ (rfl : am_tb m_S_number 15 = some (.ldc 98, 2))) (h1 _ _ (rfl : am_tb m_S_number 17 = some (.invokespecial 77, 3))) (h1 _ _ (rfl : am_tb m_S_number 20 = some (.athrow, 1))) hlk (by decide) (by decide) (by decide) (by decide)
set_option maxHeartbeats 1000000 in
theorem x_S_byteOf (hf : l.flags = pinnedFlags ++ [noTraceFlag]) (C : wd_C) (Y : wd_Y) (og : Nat → Int64) (nv u : Nat) (V : VT) (hS : vsC C nv u V) (x : Int32) (y : Int32) (hx9 : isV nv x = false) : am_Mx l D cA ad fm m_S_byteOf tr_X [.ref 0, .int x, .int y] (wd C Y og) := by
  refine tr_entry ok_S_byteOf hf (by simp [am_arg, Value.category, m_S_byteOf, am_ml]) ?_
  intro p e s m below meth c ls hX htS htr hout hlk hl hP hD
  have h1 := ok_S_byteOf.1
  have hx := hX.1
  have hb := hX.2.1
  have hls := hl.1
  have hts := hX.2.2.2.2.1
  obtain ⟨q, hZ⟩ := htS.2 (98, _) (List.mem_of_getElem? (i := 3) rfl)
  refine lv_aload_n hx hb (h1 _ _ (rfl : am_tb m_S_byteOf 0 = some (.aload_n 0, 1))) rfl (lv_at hl 0 rfl) ?_
  refine am_w_getf hX (S := [.ref 0]) (S' := [.ref 3]) (w := wd C Y og) rfl (h1 _ _ (rfl : am_tb m_S_byteOf 1 = some (.getfield 22, 3))) hP ?_
  refine lv_iload_n hx hb (h1 _ _ (rfl : am_tb m_S_byteOf 4 = some (.iload_n 1, 1))) rfl (lv_at hl 1 rfl) ?_
  refine tr_call (As := [.int x]) (rest := []) (w := wd C Y og) hX (h1 _ _ (rfl : am_tb m_S_byteOf 5 = some (.invokevirtual 85, 3))) ok_V_has oi_V_has lk_5_85 (Or.inl ⟨_, _, _, rfl, rfl, rfl⟩) (tr_hasV C Y og nv u hS.1 x _) rfl rfl (by decide) (by decide) ⟨Nat.zero_le _, Nat.zero_le _⟩ (Nat.le_of_ble_eq_true rfl) hP hD hls ?_
  refine lv_if_ne hx hb (h1 _ _ (rfl : am_tb m_S_byteOf 8 = some (.ifCond .ne 13, 3))) (tgt := 21) rfl (fun h_1 => ?_) (fun h_1 => ?_)
  · skip
    exact absurd (hx9.symm.trans (bz_ne0 h_1)) (by decide)
  · skip
    exact tr_W (ic := 77) (ik := 73) hx htr hb hX.2.2.2.1 (by decide +kernel) (tr_at tr_wX hts htS) (hts _ (List.mem_filter.mpr tr_cl.1)) (hts _ (List.mem_filter.mpr tr_cl.2.2.1)) hZ hout (hls.trans hX.2.2.1.symm) (h1 _ _ (rfl : am_tb m_S_byteOf 11 = some (.new 73, 3))) (h1 _ _ (rfl : am_tb m_S_byteOf 14 = some (.dup, 1))) (h1 _ _ (rfl : am_tb m_S_byteOf 15 = some (.ldc 98, 2))) (h1 _ _ (rfl : am_tb m_S_byteOf 17 = some (.invokespecial 77, 3))) (h1 _ _ (rfl : am_tb m_S_byteOf 20 = some (.athrow, 1))) hlk (by decide) (by decide) (by decide) (by decide)
set_option maxHeartbeats 1000000 in
theorem x_S_child (hf : l.flags = pinnedFlags ++ [noTraceFlag]) (C : wd_C) (Y : wd_Y) (og : Nat → Int64) (nv u : Nat) (V : VT) (hS : vsC C nv u V) (x : Int32) (y : Int32) (hx9 : isV nv x = false) : am_Mx l D cA ad fm m_S_child tr_X [.ref 0, .int x, .int y] (wd C Y og) := by
  refine tr_entry ok_S_child hf (by simp [am_arg, Value.category, m_S_child, am_ml]) ?_
  intro p e s m below meth c ls hX htS htr hout hlk hl hP hD
  have h1 := ok_S_child.1
  have hx := hX.1
  have hb := hX.2.1
  have hls := hl.1
  have hts := hX.2.2.2.2.1
  obtain ⟨q, hZ⟩ := htS.2 (98, _) (List.mem_of_getElem? (i := 3) rfl)
  refine lv_aload_n hx hb (h1 _ _ (rfl : am_tb m_S_child 0 = some (.aload_n 0, 1))) rfl (lv_at hl 0 rfl) ?_
  refine am_w_getf hX (S := [.ref 0]) (S' := [.ref 3]) (w := wd C Y og) rfl (h1 _ _ (rfl : am_tb m_S_child 1 = some (.getfield 22, 3))) hP ?_
  refine lv_iload_n hx hb (h1 _ _ (rfl : am_tb m_S_child 4 = some (.iload_n 1, 1))) rfl (lv_at hl 1 rfl) ?_
  refine tr_call (As := [.int x]) (rest := []) (w := wd C Y og) hX (h1 _ _ (rfl : am_tb m_S_child 5 = some (.invokevirtual 85, 3))) ok_V_has oi_V_has lk_5_85 (Or.inl ⟨_, _, _, rfl, rfl, rfl⟩) (tr_hasV C Y og nv u hS.1 x _) rfl rfl (by decide) (by decide) ⟨Nat.zero_le _, Nat.zero_le _⟩ (Nat.le_of_ble_eq_true rfl) hP hD hls ?_
  refine lv_if_ne hx hb (h1 _ _ (rfl : am_tb m_S_child 8 = some (.ifCond .ne 13, 3))) (tgt := 21) rfl (fun h_1 => ?_) (fun h_1 => ?_)
  · skip
    exact absurd (hx9.symm.trans (bz_ne0 h_1)) (by decide)
  · skip
    exact tr_W (ic := 77) (ik := 73) hx htr hb hX.2.2.2.1 (by decide +kernel) (tr_at tr_wX hts htS) (hts _ (List.mem_filter.mpr tr_cl.1)) (hts _ (List.mem_filter.mpr tr_cl.2.2.1)) hZ hout (hls.trans hX.2.2.1.symm) (h1 _ _ (rfl : am_tb m_S_child 11 = some (.new 73, 3))) (h1 _ _ (rfl : am_tb m_S_child 14 = some (.dup, 1))) (h1 _ _ (rfl : am_tb m_S_child 15 = some (.ldc 98, 2))) (h1 _ _ (rfl : am_tb m_S_child 17 = some (.invokespecial 77, 3))) (h1 _ _ (rfl : am_tb m_S_child 20 = some (.athrow, 1))) hlk (by decide) (by decide) (by decide) (by decide)
set_option maxHeartbeats 1000000 in
theorem x_S_lookup (hf : l.flags = pinnedFlags ++ [noTraceFlag]) (C : wd_C) (Y : wd_Y) (og : Nat → Int64) (nv u : Nat) (V : VT) (hS : vsC C nv u V) (x y : Int32) (hx9 : ¬ (isV nv x = true ∧ isV nv y = true)) : am_Mx l D cA ad fm m_S_lookup tr_X [.ref 0, .int x, .int y] (wd C Y og) := by
  refine tr_entry ok_S_lookup hf (by simp [am_arg, Value.category, m_S_lookup, am_ml]) ?_
  intro p e s m below meth c ls hX htS htr hout hlk hl hP hD
  have h1 := ok_S_lookup.1
  have hx := hX.1
  have hb := hX.2.1
  have hls := hl.1
  have hts := hX.2.2.2.2.1
  obtain ⟨q, hZ⟩ := htS.2 (110, _) (List.mem_of_getElem? (i := 4) rfl)
  refine lv_aload_n hx hb (h1 _ _ (rfl : am_tb m_S_lookup 0 = some (.aload_n 0, 1))) rfl (lv_at hl 0 rfl) ?_
  refine am_w_getf hX (S := [.ref 0]) (S' := [.ref 3]) (w := wd C Y og) rfl (h1 _ _ (rfl : am_tb m_S_lookup 1 = some (.getfield 22, 3))) hP ?_
  refine lv_iload_n hx hb (h1 _ _ (rfl : am_tb m_S_lookup 4 = some (.iload_n 1, 1))) rfl (lv_at hl 1 rfl) ?_
  refine tr_call (As := [.int x]) (rest := []) (w := wd C Y og) hX (h1 _ _ (rfl : am_tb m_S_lookup 5 = some (.invokevirtual 85, 3))) ok_V_has oi_V_has lk_5_85 (Or.inl ⟨_, _, _, rfl, rfl, rfl⟩) (tr_hasV C Y og nv u hS.1 x _) rfl rfl (by decide) (by decide) ⟨Nat.zero_le _, Nat.zero_le _⟩ (Nat.le_of_ble_eq_true rfl) hP hD hls ?_
  refine lv_if_eq hx hb (h1 _ _ (rfl : am_tb m_S_lookup 8 = some (.ifCond .eq 14, 3))) (tgt := 22) rfl (fun h_1 => ?_) (fun h_1 => ?_)
  · skip
    exact tr_W (ic := 77) (ik := 73) hx htr hb hX.2.2.2.1 (by decide +kernel) (tr_at tr_wX hts htS) (hts _ (List.mem_filter.mpr tr_cl.1)) (hts _ (List.mem_filter.mpr tr_cl.2.2.1)) hZ hout (hls.trans hX.2.2.1.symm) (h1 _ _ (rfl : am_tb m_S_lookup 22 = some (.new 73, 3))) (h1 _ _ (rfl : am_tb m_S_lookup 25 = some (.dup, 1))) (h1 _ _ (rfl : am_tb m_S_lookup 26 = some (.ldc 110, 2))) (h1 _ _ (rfl : am_tb m_S_lookup 28 = some (.invokespecial 77, 3))) (h1 _ _ (rfl : am_tb m_S_lookup 31 = some (.athrow, 1))) hlk (by decide) (by decide) (by decide) (by decide)
  · skip
    refine lv_aload_n hx hb (h1 _ _ (rfl : am_tb m_S_lookup 11 = some (.aload_n 0, 1))) rfl (lv_at hl 0 rfl) ?_
    refine am_w_getf hX (S := [.ref 0]) (S' := [.ref 3]) (w := wd C Y og) rfl (h1 _ _ (rfl : am_tb m_S_lookup 12 = some (.getfield 22, 3))) hP ?_
    refine lv_iload_n hx hb (h1 _ _ (rfl : am_tb m_S_lookup 15 = some (.iload_n 2, 1))) rfl (lv_at hl 2 rfl) ?_
    refine tr_call (As := [.int y]) (rest := []) (w := wd C Y og) hX (h1 _ _ (rfl : am_tb m_S_lookup 16 = some (.invokevirtual 85, 3))) ok_V_has oi_V_has lk_5_85 (Or.inl ⟨_, _, _, rfl, rfl, rfl⟩) (tr_hasV C Y og nv u hS.1 y _) rfl rfl (by decide) (by decide) ⟨Nat.zero_le _, Nat.zero_le _⟩ (Nat.le_of_ble_eq_true rfl) hP hD hls ?_
    refine lv_if_ne hx hb (h1 _ _ (rfl : am_tb m_S_lookup 19 = some (.ifCond .ne 13, 3))) (tgt := 32) rfl (fun h_2 => ?_) (fun h_2 => ?_)
    · skip
      exact absurd ⟨bz_ne0 h_1, bz_ne0 h_2⟩ hx9
    · skip
      exact tr_W (ic := 77) (ik := 73) hx htr hb hX.2.2.2.1 (by decide +kernel) (tr_at tr_wX hts htS) (hts _ (List.mem_filter.mpr tr_cl.1)) (hts _ (List.mem_filter.mpr tr_cl.2.2.1)) hZ hout (hls.trans hX.2.2.1.symm) (h1 _ _ (rfl : am_tb m_S_lookup 22 = some (.new 73, 3))) (h1 _ _ (rfl : am_tb m_S_lookup 25 = some (.dup, 1))) (h1 _ _ (rfl : am_tb m_S_lookup 26 = some (.ldc 110, 2))) (h1 _ _ (rfl : am_tb m_S_lookup 28 = some (.invokespecial 77, 3))) (h1 _ _ (rfl : am_tb m_S_lookup 31 = some (.athrow, 1))) hlk (by decide) (by decide) (by decide) (by decide)
set_option maxHeartbeats 1000000 in
theorem x_S_write (hf : l.flags = pinnedFlags ++ [noTraceFlag]) (C : wd_C) (Y : wd_Y) (og : Nat → Int64) (nv u : Nat) (V : VT) (hS : vsC C nv u V) (x : Int32) (r : Bool) (hx9 : isV nv x = false) : am_Mx l D cA ad fm m_S_write tr_X [.ref 0, .int x, .int (bz r), .int 0] (wd C Y og) := by
  refine tr_entry ok_S_write hf (by simp [am_arg, Value.category, m_S_write, am_ml]) ?_
  intro p e s m below meth c ls hX htS htr hout hlk hl hP hD
  have h1 := ok_S_write.1
  have hx := hX.1
  have hb := hX.2.1
  have hls := hl.1
  have hts := hX.2.2.2.2.1
  obtain ⟨q, hZ⟩ := htS.2 (98, _) (List.mem_of_getElem? (i := 3) rfl)
  refine lv_iload_n hx hb (h1 _ _ (rfl : am_tb m_S_write 0 = some (.iload_n 3, 1))) rfl (lv_at hl 3 rfl) ?_
  refine lv_if_ne hx hb (h1 _ _ (rfl : am_tb m_S_write 1 = some (.ifCond .ne 24, 3))) (tgt := 25) rfl (fun h_1 => ?_) (fun h_1 => ?_)
  · skip
    first | exact absurd rfl h_1 | exact absurd (hx9.symm.trans (bz_ne0 h_1)) (by decide)
  · skip
    refine lv_aload_n hx hb (h1 _ _ (rfl : am_tb m_S_write 4 = some (.aload_n 0, 1))) rfl (lv_at hl 0 rfl) ?_
    refine am_w_getf hX (S := [.ref 0]) (S' := [.ref 3]) (w := wd C Y og) rfl (h1 _ _ (rfl : am_tb m_S_write 5 = some (.getfield 22, 3))) hP ?_
    refine lv_iload_n hx hb (h1 _ _ (rfl : am_tb m_S_write 8 = some (.iload_n 1, 1))) rfl (lv_at hl 1 rfl) ?_
    refine tr_call (As := [.int x]) (rest := []) (w := wd C Y og) hX (h1 _ _ (rfl : am_tb m_S_write 9 = some (.invokevirtual 85, 3))) ok_V_has oi_V_has lk_5_85 (Or.inl ⟨_, _, _, rfl, rfl, rfl⟩) (tr_hasV C Y og nv u hS.1 x _) rfl rfl (by decide) (by decide) ⟨Nat.zero_le _, Nat.zero_le _⟩ (Nat.le_of_ble_eq_true rfl) hP hD hls ?_
    refine lv_if_ne hx hb (h1 _ _ (rfl : am_tb m_S_write 12 = some (.ifCond .ne 13, 3))) (tgt := 25) rfl (fun h_2 => ?_) (fun h_2 => ?_)
    · skip
      first | exact absurd rfl h_2 | exact absurd (hx9.symm.trans (bz_ne0 h_2)) (by decide)
    · skip
      exact tr_W (ic := 77) (ik := 73) hx htr hb hX.2.2.2.1 (by decide +kernel) (tr_at tr_wX hts htS) (hts _ (List.mem_filter.mpr tr_cl.1)) (hts _ (List.mem_filter.mpr tr_cl.2.2.1)) hZ hout (hls.trans hX.2.2.1.symm) (h1 _ _ (rfl : am_tb m_S_write 15 = some (.new 73, 3))) (h1 _ _ (rfl : am_tb m_S_write 18 = some (.dup, 1))) (h1 _ _ (rfl : am_tb m_S_write 19 = some (.ldc 98, 2))) (h1 _ _ (rfl : am_tb m_S_write 21 = some (.invokespecial 77, 3))) (h1 _ _ (rfl : am_tb m_S_write 24 = some (.athrow, 1))) hlk (by decide) (by decide) (by decide) (by decide)
set_option maxHeartbeats 1000000 in
theorem x_S_told (hf : l.flags = pinnedFlags ++ [noTraceFlag]) (C : wd_C) (Y : wd_Y) (og : Nat → Int64) (y : Int32) (hsw : y.toInt < 0 ∨ 4 < y.toInt) : am_Mx l D cA ad fm m_S_told tr_X [.ref 0, .int y] (wd C Y og) := by
  refine tr_entry ok_S_told hf (by simp [am_arg, Value.category, m_S_told, am_ml]) ?_
  intro p e s m below meth c ls hX htS htr hout hlk hl hP hD
  have h1 := ok_S_told.1
  have hx := hX.1
  have hb := hX.2.1
  have hls := hl.1
  have hts := hX.2.2.2.2.1
  obtain ⟨q, hZ⟩ := htS.2 (134, _) (List.mem_of_getElem? (i := 5) rfl)
  refine lv_iload_n hx hb (h1 _ _ (rfl : am_tb m_S_told 0 = some (.iload_n 1, 1))) rfl (lv_at hl 1 rfl) ?_
  refine lv_tableOut hx hb (h1 _ _ (rfl : am_tb m_S_told 1 = some (.tableswitch 75 0 4 #[35, 43, 51, 59, 67], 35))) hsw (tgt := 76) rfl ?_
  exact tr_W (ic := 77) (ik := 73) hx htr hb hX.2.2.2.1 (by decide +kernel) (tr_at tr_wX hts htS) (hts _ (List.mem_filter.mpr tr_cl.1)) (hts _ (List.mem_filter.mpr tr_cl.2.2.1)) hZ hout (hls.trans hX.2.2.1.symm) (h1 _ _ (rfl : am_tb m_S_told 76 = some (.new 73, 3))) (h1 _ _ (rfl : am_tb m_S_told 79 = some (.dup, 1))) (h1 _ _ (rfl : am_tb m_S_told 80 = some (.ldc 134, 2))) (h1 _ _ (rfl : am_tb m_S_told 82 = some (.invokespecial 77, 3))) (h1 _ _ (rfl : am_tb m_S_told 85 = some (.athrow, 1))) hlk (by decide) (by decide) (by decide) (by decide)
end C102X
