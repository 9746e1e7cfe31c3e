/-! what exceptions ask of a state stays, where no old cell is written; calls of the face within a try -/
def trB (base : Nat) (s : State) : Prop := ∀ ci k a, s.vm.findClass "java/lang/Throwable" = some ci → s.vm.classes[ci]? = some k → k.statics = some a → a < base
section TRM
variable {s U : State} {base : Nat}
theorem tr_lays {f d : String} (hl : (Cond.laysStatic "java/lang/Throwable" f d).before #[] s = true) (hr : (Cond.isRef (.static "java/lang/Throwable" f d)).before #[] s = true) (hB : trB base s) (hW : s.WarmedH U.vm) (hq : ∀ q, q < base → U.heap[q]? = s.heap[q]?) : (Cond.laysStatic "java/lang/Throwable" f d).before #[] U = true ∧ (Cond.isRef (.static "java/lang/Throwable" f d)).before #[] U = true := by
  obtain ⟨c, k, i, fd, a, cell, hc, hf, hst, hsta, hcell, hiss, hcls, hlt, hty⟩ := Cond.laysStatic_spec hl
  have hal := hW.alike
  have hk : s.vm.classes[c]? = some k := (State.fieldFound?_spec hf).1
  have ha : a < base := hB c k a hc hk hsta
  have hcU : U.vm.findClass "java/lang/Throwable" = some c := by rw [hal.findClass]; exact hc
  obtain ⟨k', hfU, he⟩ := State.fieldFound?_setVm hal hf
  have hfU' : U.fieldFound? "java/lang/Throwable" f d = some (c, k', i, fd) := hfU
  have hstaU : k'.statics = some a := by rw [he]; exact hsta
  have htyU : k'.staticTypes[fd.slot]? = some fd.type := by rw [he]; exact hty
  have hcellU : U.heap[a]? = some cell := by rw [hq a ha]; exact hcell
  refine ⟨by simp [Cond.before, Cond.holds, Cond.value, hcU, hfU', hst, hstaU, hcellU, hiss, hcls, hlt, htyU], ?_⟩
  have e1 : (Term.static "java/lang/Throwable" f d).eval #[] s none [] s = cell.slots[fd.slot]? := by simp [Term.eval, State.fieldNamed?, hf, hst, hsta, hcell, hiss]
  have e2 : (Term.static "java/lang/Throwable" f d).eval #[] U none [] U = cell.slots[fd.slot]? := by simp [Term.eval, State.fieldNamed?, hfU', hst, hstaU, hcellU, hiss]
  simp only [Cond.before, Cond.holds, Cond.value] at hr ⊢
  rw [e1] at hr
  rw [e2]
  exact hr
theorem tr_S_mv (h : tr_S s) (hB : trB base s) (hW : s.WarmedH U.vm) (hq : ∀ q, q < base → U.heap[q]? = s.heap[q]?) : tr_S U ∧ trB base U := by
  have hal := hW.alike
  have hA := tr_lays (h.1 _ (by simp [tr_sp])) (h.1 (.isRef (.static "java/lang/Throwable" "UNASSIGNED_STACK" "[Ljava/lang/StackTraceElement;")) (by simp [tr_sp])) hB hW hq
  have hC := tr_lays (h.1 _ (by simp [tr_sp])) (h.1 (.isRef (.static "java/lang/Throwable" "SUPPRESSED_SENTINEL" "Ljava/util/List;")) (by simp [tr_sp])) hB hW hq
  refine ⟨⟨fun w hw => ?_, fun q hq => ?_⟩, fun ci k a h1 h2 h3 => ?_⟩
  · have h9 := h.1 w hw
    simp only [tr_sp, tr_dc, List.cons_append, List.nil_append, List.mem_cons, List.not_mem_nil, or_false] at hw
    rcases hw with rfl | rfl | rfl | rfl | rfl | rfl | rfl | rfl | rfl
    · exact hA.1
    · exact hC.1
    · exact hA.2
    · exact hC.2
    · exact va_tabs (A := #[]) (u := s.setVm U.vm) rfl rfl ((Cond.castable_setVm (args := #[]) hal _ _).trans h9)
    · exact va_tabs (A := #[]) (u := s.setVm U.vm) rfl rfl ((Cond.castable_setVm (args := #[]) hal _ _).trans h9)
    · exact va_tabs (A := #[]) (u := s.setVm U.vm) rfl rfl ((Cond.declares_setVm (args := #[]) hal _).trans h9)
    · exact va_tabs (A := #[]) (u := s.setVm U.vm) rfl rfl ((Cond.declares_setVm (args := #[]) hal _).trans h9)
    · exact va_tabs (A := #[]) (u := s.setVm U.vm) rfl rfl ((Cond.declares_setVm (args := #[]) hal _).trans h9)
  · obtain ⟨a, ha⟩ := h.2 q hq
    exact ⟨a, ha.warm hW⟩
  · rw [hal.findClass] at h1
    obtain ⟨k0, hk0⟩ : ∃ k0, s.vm.classes[ci]? = some k0 := by
      obtain ⟨c9, k9, i9, fd9, a9, cell9, hc9, hf9, -⟩ := Cond.laysStatic_spec (h.1 (.laysStatic "java/lang/Throwable" "UNASSIGNED_STACK" "[Ljava/lang/StackTraceElement;") (by simp [tr_sp]))
      cases h1.symm.trans hc9
      exact ⟨k9, (State.fieldFound?_spec hf9).1⟩
    obtain ⟨k1, hk1, he1⟩ := hal.2.2 _ _ hk0
    cases hk1.symm.trans h2
    rw [he1] at h3
    exact hB ci k0 a h1 hk0 h3
end TRM
section TRY
variable {D : va_G} {cA : Nat → ClassId} {ad : Nat → Nat} {fm : Value} {co : Nat} {cc : ByteArray} {p : Program} {l : Launch} {e : Env} {R : Room} {s : State} {m : MethodId} {args : Array Value} {below : List Frame} {meth : Method} {c : Code} {nL : Nat} {Q : State → Prop} {ls : Array Slot}
/-- the call throws, and the only handler takes it -/
theorem tr_try {M' : am_M} {n pc idx a base : Nat} {w : am_W} {As rest : List Value} {X : String} (hX : am_X D cA ad fm co cc nL p s m args c (am_A ad n s.heap.size)) (hdec : decode cc pc = .ok (.invokevirtual idx, 3)) (hM' : am_ok M') (hi : am_inst M') (hlk : Cond.methodLink (pr_cn co) idx (am_y M') ∈ lw_g) (hrc : am_rcv w a (am_y M').cls) (hMx : am_Mx l D cA ad fm M' X (.ref a :: As) w) (hlen : As.length = am_np M') (hn : w.length = n) (hd : 9 ≤ R.frames) (hlo : 400 ≤ R.locals) (hcs : 1 ≤ R.cells ∧ 6 ≤ R.slots) (hrs : (rest.map fun v => v.category).sum ≤ 8) (hP : va_P D pr_cl (am_ws cA ad w) s.heap) (hD : va_D (am_A ad n s.heap.size) (am_ws cA ad w)) (hls : ls.size = nL)
    (htS : tr_S s) (htB : trB base s) (y : ExceptionTableEntry) (ht : c.exceptionTable.toList = [y]) (hcov : covers y pc = true) (h0 : y.catchType ≠ 0) (hcl : (Cond.classLink (pr_cn co) y.catchType X) ∈ lw_g) (hcast : Cond.castable X X ∈ tr_dc)
    (k : ∀ H1 : Heap, s.heap.size ≤ H1.size → (∀ q, q < s.heap.size → H1[q]? = s.heap[q]?) → W p l e R s m args below meth c H1 [] 1 6 Q (F0 m y.handlerPc ls [.ref s.heap.size])) : W p l e R s m args below meth c s.heap [] 0 0 Q (F0 m pc ls ((As.reverse ++ .ref a :: rest).map (am_cv ad))) := by
  have hS : va_S (am_A ad n s.heap.size) s.heap s.heap [] := va_S.rf
  obtain ⟨hx, hb, hml, hown, hts, hK, hKn, hA⟩ := hX
  obtain ⟨m1, m2, m3, m4, m5, m6, m7⟩ := hM'
  have e1 : (As.reverse ++ .ref a :: rest).map (am_cv ad) = (As.map (am_cv ad)).reverse ++ .ref (ad a) :: rest.map (am_cv ad) := by simp [am_cv]
  rw [e1]
  obtain ⟨cellB, hcB, hoB, hclB⟩ := am_rcv_at hrc hK hKn hP hS
  intro T hT X₀
  have hgood : ∀ w ∈ am_cw M' :: lw_g, (w ∈ lw_g) := fun w hw => by
    rcases List.mem_cons.mp hw with rfl | h
    · exact m2
    · exact h
  obtain ⟨T', X', hsz, hold, ⟨ce, hce1, hce2, hce3⟩, st⟩ := tr_thrown X₀ hx (own := pr_cn co) (C := (am_y M').cls) (index := idx) (y := am_y M') (bytes := am_b M') (maxL := am_ml M') (ret := am_rt M') (S := headSpec (am_cw M' :: lw_g) tr_rm) (XC := X) hown (hts _ hlk) (hts _ hi.1) (hts _ hi.2) (hts _ m2) (hts _ m3) ⟨m5.1, m5.2.1⟩ (hMx s.heap.size)
    (by show 8 + 1 ≤ R.frames; omega) (by show 8 + (am_ml M' + 11) + 320 ≤ R.locals; omega) (by show 0 + 1 ≤ R.cells; omega) (by show 0 + 6 ≤ R.slots; omega)
    (fun vm₁ g' mk a' hW => atoms_intro fun w hw => word_at (U := T.setVm vm₁) hW (am_good w (hgood w hw)) (hts w (hgood w hw)))
    (b := ad a) (cellB := cellB) (by rw [hT]; exact hcB) hoB hclB (g := F0 m pc ls ((As.map (am_cv ad)).reverse ++ .ref (ad a) :: rest.map (am_cv ad))) rfl (hls.trans hml.symm) (argsL := As.map (am_cv ad)) (rest := rest.map (am_cv ad)) (fun sig h => by
      rw [List.length_map, hlen]
      have h2 := m5.2.2
      rw [h] at h2
      exact (Option.some.inj h2).symm) rfl (lv_room (by rw [am_cat_sum]; exact hrs)) (by rw [hb]; exact hdec)
    (fun vm₁ mk hW => ⟨am_blind _ (T.setVm vm₁) _ mk (am_pre (U := T.setVm vm₁) (As := .ref a :: As) hn hK hKn hP hD hS hT hW), (tr_S_mv htS htB (U := (T.setVm vm₁).calling _ mk _) hW (fun q hq => by show T.heap[q]? = _; rw [hT])).1⟩)
  have hTs : T.heap.size = s.heap.size := by rw [hT]
  rw [hTs] at hce1 hold hsz st
  obtain ⟨c1, c2, f1, f2, asg⟩ := Cond.castable_spec (htS.1 _ (List.mem_append_right _ hcast))
  cases f1.symm.trans hce3
  obtain ⟨vm', X₂, st2⟩ := tr_join X' s.heap.size (g := F0 m pc ls (rest.map (am_cv ad))) rfl hown y ht hcov h0 (hts _ hcl) (cT := c2) (cell := ce) f2 hce1 (by rw [hce2]; rfl) asg
  obtain ⟨t, a1, a2⟩ := k T'.heap (by have h9 := (Array.getElem?_eq_some_iff.mp hce1).1; omega) (fun q hq => by rw [hold q hq, hT]) (T'.setVm vm') rfl X₂
  exact ⟨t, st t (st2 t a1), a2⟩
end TRY
