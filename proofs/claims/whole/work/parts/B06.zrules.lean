/-! METHODS WITH A HANDLER: rules, contracts -/
section AMZ2
variable {l : Launch} {D : va_G} {cA : Nat → ClassId} {ad : Nat → Nat} {fm : Value} {d n : Nat} {M M' : am_M} {post post' : Option Value → am_W → Prop}
theorem am_steps_z (hM : am_dok (am_b M) (am_tb M)) (k : Nat) {q q' : am_St} (h : am_steps (am_co M) (am_ml M) (am_tb M) k q = some q') (r : am_Rn l D cA ad fm d M n post q') : am_Rn l D cA ad fm d M n post q :=
  fun p e R s m args below meth c hX hr hk hf hl => am_g_steps hX hM k h (r p e R s m args below meth c hX hr hk hf hl)
theorem am_callV_z {L : am_L} {As rest : List Value} {w : am_W} {a pc idx : Nat} {st : List Value} (hM : am_dok (am_b M) (am_tb M)) (ht : am_tb M pc = some (.invokevirtual idx, 3)) (hst : st = As.reverse ++ .ref a :: rest) (hM' : am_ok M') (hi : am_inst M') (hlk : Cond.methodLink (pr_cn (am_co M)) idx (am_y M') ∈ lw_g) (hrc : am_rcv w a (am_y M').cls) (hlen : As.length = am_np M') (hn : w.length = n) (hrs : (rest.map fun v => v.category).sum ≤ 8) (hMt : am_Mt l D cA ad fm d M' (.ref a :: As) w post')
    (k : ∀ (v : Option Value) (w' : am_W), post' v w' → w'.length = n → am_Rn l D cA ad fm (d + 1) M n post (pc + 3, L, v.toList ++ rest, w')) : am_Rn l D cA ad fm (d + 1) M n post (pc, L, st, w) := by
  subst hst
  intro p e R s m args below meth c hX hr hk hf hl
  exact am_g_callV hX (hM _ _ ht) hM' hi hlk hrc hMt hlen hn hf hl ⟨Nat.zero_le _, Nat.zero_le _⟩ hrs (fun v w' hp hn' => k v w' hp hn' p e R s m args below meth c hX hr hk hf hl)
theorem am_last_z (hM : am_dok (am_b M) (am_tb M)) {pc a t N : Nat} {f : Nat → Int64} {i : Int32} {x : Int64} {L : am_L} {S : List Value} {w : am_W} (ht : am_tb M pc = some (.lastore, 1)) (hw : w[a]? = some (.inl (t, N, .inr (.inl f)))) (hty : pr_ety[t]? = some .long) (hin : vp_in i N) (r : am_Rn l D cA ad fm d M n post (pc + 1, L, S, w.set a (.inl (t, N, .inr (.inl (vp_updL f i.toNatClampNeg x)))))) : am_Rn l D cA ad fm d M n post (pc, L, .long x :: .int i :: .ref a :: S, w) := by
  intro p e R s m args below meth c hX hr' hk hf hl H locs ls hP hD hS hlv
  have hX0 := hX
  obtain ⟨hx, hb, hml, hown, hts, hK, hKn, hA⟩ := hX0
  refine va_last hx hb hK hP hD hS a t (am_ws_get hw) (am_tys_get hty) hin (hM _ _ ht) (fun H1 locs1 hP1 hD1 hS1 => ?_)
  have e5 : (am_ws cA ad w).set a (ad a, .inl (cA t, N, .inr (.inl (vp_updL f i.toNatClampNeg x)))) = am_ws cA ad (w.set a (.inl (t, N, .inr (.inl (vp_updL f i.toNatClampNeg x))))) := am_ws_set (x := .inl (t, N, .inr (.inl (vp_updL f i.toNatClampNeg x))))
  rw [e5] at hP1 hD1
  exact r p e R s m args below meth c hX hr' hk hf hl H1 locs1 ls hP1 hD1 hS1 hlv
theorem am_iret_z (hM : am_dok (am_b M) (am_tb M)) {pc : Nat} {L : am_L} {x : Int32} {w : am_W} (ht : am_tb M pc = some (.ireturn, 1)) (hr : am_rt M = some .int) (hn : w.length = n) (hp : post (some (.int x)) w) : am_Rn l D cA ad fm d M n post (pc, L, [.int x], w) := by
  intro p e R s m args below meth c hX hr' hk hf hl H locs ls hP hD hS hlv
  obtain ⟨hx, hb, hml, hown, hts, hK, hKn, hA⟩ := hX
  exact W.iret hx hb (hr'.trans hr) (fun t ht' hW => ⟨some (.int x), w, rfl, hp, hn, by rw [ht']; exact hP, hD, hS.F ht'⟩) hS.2.2 (hM _ _ ht) hk
def am_cz (M : am_M) (hh : List (Nat × Nat × Nat × Nat)) : Cond := .codeWith (am_y M) (am_b M) (am_ml M) (am_rt M) hh
def am_zr (d : Nat) : Room := { frames := d, cells := 1, slots := 6, locals := 40 * d }
/-- the contract of a method that may make one exception on its way -/
def am_Mz (l : Launch) (D : va_G) (cA : Nat → ClassId) (ad : Nat → Nat) (fm : Value) (base d : Nat) (M : am_M) (hh : List (Nat × Nat × Nat × Nat)) (As : List Value) (w : am_W) (post : Option Value → am_W → Prop) : Prop :=
  ∀ sz : Nat, Met l (am_y M) (am_cz M hh :: lw_g) (am_zr d) (fun a U => am_Pc D cA ad fm As w sz a U ∧ tr_S U ∧ trB base U) (am_Qc D cA ad w.length sz post) 1 6 (am_A ad w.length sz)
theorem mq_up {below : List Frame} {Qc : Array Value → State → Outcome → State → Prop} {a : Array Value} {s t : State} {free : Addr → Prop} (h : MQ below Qc a s 0 0 free t) : MQ below Qc a s 1 6 free t := by
  obtain ⟨o, h1, h2, h3, L, ⟨h4, h5, e1, e2, e3, e4, e5, e6⟩, h6⟩ := h
  exact ⟨o, h1, h2, h3, L, ⟨h4, h5, e1, e2, by omega, e4, by omega, e6⟩, h6⟩
theorem am_mz {hh : List (Nat × Nat × Nat × Nat)} {As : List Value} {w : am_W} {base : Nat} (hdk : am_dok (am_b M) (am_tb M)) (hpl : plainName (am_y M).cls = true) (hco : pr_cn (am_co M) = (am_y M).cls) (hA : (am_arg As).length ≤ am_ml M) (h : am_Rn l D cA ad fm d M w.length post (0, am_entry (am_ml M) As, [], w)) : am_Mz l D cA ad fm base d M hh As w post := by
  intro sz
  refine va_MetW (cc := am_b M) (maxL := am_ml M) (ret := am_rt M) (hh := hh) hpl rfl ?_
  intro p e s m args below meth c s₁ B hml hv
  obtain ⟨⟨rfl, hsz, hP, hK, hD, hKn⟩, -, -⟩ := hv
  subst hsz
  have hts := atoms_spec (ws := am_cz M hh :: lw_g) B.pre
  have hown : s.vm.findClass (pr_cn (am_co M)) = some m.cls := by rw [hco]; exact findClass_of_methodNamed B.named
  rw [lg_entry_eq]
  have k := h p e (am_zr d) s m _ below meth c ⟨B.exec, B.bytes, hml, hown, fun w hw => hts w (List.mem_cons_of_mem _ hw), hK, hKn, fun q hq => Or.inr hq⟩ B.returns B.notSynchronized (Nat.le_refl _) (Nat.le_refl _) s.heap [] _ hP (am_D_A hD) va_S.rf (am_entry_has hA)
  intro T hT X
  obtain ⟨t, a1, a2⟩ := k T hT X
  exact ⟨t, a1, mq_up a2⟩
/-- where the call within it throws -/
theorem am_mzx {sp ep hp ct : Nat} {As : List Value} {w : am_W} {base : Nat} (hdk : am_dok (am_b M) (am_tb M)) (hpl : plainName (am_y M).cls = true) (hco : pr_cn (am_co M) = (am_y M).cls) (hA : (am_arg As).length ≤ am_ml M)
    (h : ∀ (p : Program) (e : Env) (s : State) (m : MethodId) (below : List Frame) (meth : Method) (c : Code) (ls : Array Slot) (y : ExceptionTableEntry), am_X D cA ad fm (am_co M) (am_b M) (am_ml M) p s m (As.map (am_cv ad)).toArray c (am_A ad w.length s.heap.size) → tr_S s → trB base s → c.exceptionTable.toList = [y] → y.startPc = sp → y.endPc = ep → y.handlerPc = hp → y.catchType = ct → meth.sig.returnType = am_rt M → meth.locks = false → lv_has ls (am_ml M) (am_lv ad (am_entry (am_ml M) As)) → va_P D pr_cl (am_ws cA ad w) s.heap → va_D (am_A ad w.length s.heap.size) (am_ws cA ad w) →
      W p l e (am_zr d) s m (As.map (am_cv ad)).toArray below meth c s.heap [] 0 0 (MQ below (am_Qc D cA ad w.length s.heap.size post) (As.map (am_cv ad)).toArray s 1 6 (am_A ad w.length s.heap.size)) (F0 m 0 ls [])) : am_Mz l D cA ad fm base d M [(sp, ep, hp, ct)] As w post := by
  intro sz
  refine va_MetW (cc := am_b M) (maxL := am_ml M) (ret := am_rt M) (hh := [(sp, ep, hp, ct)]) hpl rfl ?_
  intro p e s m args below meth c s₁ B hml hv
  obtain ⟨⟨rfl, hsz, hP, hK, hD, hKn⟩, htS, htB⟩ := hv
  subst hsz
  have hts := atoms_spec (ws := am_cz M [(sp, ep, hp, ct)] :: lw_g) B.pre
  have hown : s.vm.findClass (pr_cn (am_co M)) = some m.cls := by rw [hco]; exact findClass_of_methodNamed B.named
  have X₀ : Stand p l e (am_zr d) s m (As.map (am_cv ad)).toArray below meth c s₁ [] 0 0 := Stand.of_body B
  obtain ⟨m9, meth9, c9, hn9, hm9, hc9, -, -, ht9, -⟩ := Cond.codeWith_spec (hts _ List.mem_cons_self)
  cases B.named.symm.trans hn9
  cases X₀.method.symm.trans hm9
  cases X₀.code.symm.trans hc9
  obtain ⟨y, hy⟩ : ∃ y, c.exceptionTable.toList = [y] := by
    rcases hl : c.exceptionTable.toList with _ | ⟨y, _ | ⟨z, r⟩⟩
    · rw [hl] at ht9; simp at ht9
    · exact ⟨y, rfl⟩
    · rw [hl] at ht9; simp at ht9
  rw [hy] at ht9
  simp only [List.map_cons, List.map_nil, List.cons.injEq, Prod.mk.injEq, and_true] at ht9
  rw [lg_entry_eq]
  exact h p e s m below meth c _ y ⟨B.exec, B.bytes, hml, hown, fun w hw => hts w (List.mem_cons_of_mem _ hw), hK, hKn, fun q hq => Or.inr hq⟩ htS htB hy ht9.1 ht9.2.1 ht9.2.2.1 ht9.2.2.2 B.returns B.notSynchronized (am_entry_has hA) hP (am_D_A hD)
end AMZ2
