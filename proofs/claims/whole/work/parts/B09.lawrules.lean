/-! THE LAW'S FRAME: rules over am_G, whatever Q is and however many cells have come -/
section GLR
variable {p : Program} {l : Launch} {e : Env} {R : Room} {s : State} {m : MethodId} {args : Array Value} {below : List Frame} {meth : Method} {c : Code} {T : State} {locs : List Loc} {cells slots : Nat}
/-- a static method with handlers is called -/
theorem gl_callS (X : Stand p l e R s m args below meth c T locs cells slots) (hexec : p.tables.exec = Jvm.exec) {own : String} {index : Nat} {y : MethodName} {bytes : ByteArray} {maxL : Nat} {ret : Option FieldType} {hh : List (Nat × Nat × Nat × Nat)}
    (hown : s.vm.findClass own = some m.cls) (hlink : (Cond.methodLink own index y).before args s = true) (hstat : (Cond.static y).before args s = true) (hinit : (Cond.initialized y.cls).before args s = true)
    (hcode : (Cond.codeWith y bytes maxL ret hh).before args s = true) (hy : y.cls ≠ "java/lang/invoke/MethodHandle" ∧ y.cls ≠ "java/lang/invoke/VarHandle")
    {W : Nat} {Pre : Pt → Array Value → Prop} {Post : Pt → Array Value → Option Value → Pt → Prop} (hK : Back l R p e below s args y 3 W Pre Post)
    {g : JFrame} (hg : g.method = m) (hsize : g.locals.size = c.maxLocals) {argsL rest : List Value} (hlen : ∀ sig, parseMethodDescriptor y.desc = some sig → argsL.length = sig.parameters.length)
    (hstack : g.stack = argsL.reverse ++ rest) (hW : 2 * g.monitorRoom + (rest.map fun v => v.category).sum ≤ W) (hdg : decode c.code g.pc = .ok (.invokestatic index, 3))
    (hpre : ∀ vm₁, s.WarmedH vm₁ → Pre ⟨T.setVm vm₁, locs, cells, slots⟩ argsL.toArray) :
    ∃ (v : Option Value) (vm₁ : Vm) (B : Pt), s.WarmedH vm₁ ∧ Stand p l e R s m args below meth c B.U B.locs B.cells B.slots ∧ Post ⟨T.setVm vm₁, locs, cells, slots⟩ argsL.toArray v B ∧
      ∀ target, Steps p.tables e below (B.U.setTop { g with pc := g.pc + 3, stack := v.toList ++ rest }) target → Steps p.tables e below (T.setTop g) target := by
  obtain ⟨mk, methM, cM, hnamed, hmethM, -, -, -, -, -, -, hsigM⟩ := Cond.codeWith_spec hcode
  have hstatic : methM.isStatic = true := Cond.static_spec hnamed hmethM hstat
  obtain ⟨kP, hkP, -⟩ := className_of_methodNamed hnamed
  have hinitP : kP.init = .initialized := Cond.initialized_spec (findClass_of_methodNamed hnamed) hkP hinit
  obtain ⟨vm₁, X₁, hstep₁⟩ := X.invokestatic hexec hown hlink hnamed hmethM hstatic hkP hinitP hy (g := g) hg (argsL := argsL) (rest := rest) (hlen _ hsigM) hstack hdg
  obtain ⟨v, B, X', hpost, hsteps⟩ := hK m meth c ⟨T.setVm vm₁, locs, cells, slots⟩ { g with stack := rest } (.invokestatic index) mk argsL.toArray X₁ hg hsize hdg hW (X₁.named hnamed) (hpre vm₁ X₁.warmed)
  exact ⟨v, vm₁, B, X₁.warmed, X', hpost, fun target h => hstep₁ _ fun acts => by rw [doInvoke_state]; exact hsteps.trans h⟩
end GLR
section GLZ
variable {D : va_G} {cA : Nat → ClassId} {ad : Nat → Nat} {fm : Value} {co : Nat} {cc : ByteArray} {p : Program} {l : Launch} {e : Env} {R : Room} {s : State} {m : MethodId} {args : Array Value} {below : List Frame} {meth : Method} {c : Code} {nL cells slots n : Nat} {Q : State → Prop}
theorem tr_blind {base : Nat} {U : State} (g : JFrame) (mk : MethodId) (a : Array Value) (h : tr_S U ∧ trB base U) : tr_S (U.calling g mk a) ∧ trB base (U.calling g mk a) := by
  obtain ⟨⟨h1, h2⟩, h3⟩ := h
  refine ⟨⟨fun w hw => ?_, fun q hq => ?_⟩, fun ci k a9 e1 e2 e3 => h3 ci k a9 e1 e2 e3⟩
  · have h9 := h1 w hw
    simp only [tr_sp, tr_dc, List.cons_append, List.nil_append, List.mem_cons, List.not_mem_nil, or_false] at hw
    rcases hw with rfl | rfl | rfl | rfl | rfl | rfl | rfl | rfl | rfl <;> exact h9
  · obtain ⟨a9, ha⟩ := h2 q hq
    exact ⟨a9, vk_R.same rfl ha⟩
/-- a wrapper is called: one cell of six slots may come -/
theorem am_g_callZ {M' : am_M} {hh : List (Nat × Nat × Nat × Nat)} {pc idx d base : Nat} {L : am_L} {As rest : List Value} {w : am_W} {post' : Option Value → am_W → Prop} (hX : am_X D cA ad fm co cc nL p s m args c (am_A ad n s.heap.size)) (hdec : decode cc pc = .ok (.invokestatic idx, 3)) (hcz : am_cz M' hh ∈ lw_g) (hi : am_stat M') (h3 : Cond.initialized (am_y M').cls ∈ lw_g) (m5 : (am_y M').cls ≠ "java/lang/invoke/MethodHandle" ∧ (am_y M').cls ≠ "java/lang/invoke/VarHandle" ∧ (parseMethodDescriptor (am_y M').desc).map (fun d => d.parameters.length) = some (am_np M')) (m7 : am_ml M' ≤ 21) (hlk : Cond.methodLink (pr_cn co) idx (am_y M') ∈ lw_g) (hMz : am_Mz l D cA ad fm base d M' hh As w post') (hlen : As.length = am_np M') (hn : w.length = n) (hd : d + 1 ≤ R.frames) (hlo : 40 * (d + 1) ≤ R.locals) (hcs : cells + 1 ≤ R.cells ∧ slots + 6 ≤ R.slots) (hrs : (rest.map fun v => v.category).sum ≤ 8) (htS : tr_S s) (htB : trB base s) (hbase : ∀ q, am_A ad n s.heap.size q → base ≤ q) (hbs : base ≤ s.heap.size)
    (k : ∀ (v : Option Value) (w' : am_W), post' v w' → w'.length = n → am_G D cA ad (am_A ad n s.heap.size) p l e R s m args below meth c nL (cells + 1) (slots + 6) Q (pc + 3, L, v.toList ++ rest, w')) : am_G D cA ad (am_A ad n s.heap.size) p l e R s m args below meth c nL cells slots Q (pc, L, As.reverse ++ rest, w) := by
  intro H locs ls hP hD hS hl
  obtain ⟨hx, hb, hml, hown, hts, hK, hKn, hA⟩ := hX
  have e1 : (As.reverse ++ rest).map (am_cv ad) = (As.map (am_cv ad)).reverse ++ rest.map (am_cv ad) := by simp
  have hMt' := hMz H.size
  rw [hn] at hMt'
  have hgw : ∀ w ∈ am_cz M' hh :: lw_g, w ∈ lw_g := fun w hw => by
    rcases List.mem_cons.mp hw with rfl | h
    · exact hcz
    · exact h
  have hB : Back l R p e below s args (am_y M') 3 8 (PreOf R 1 6 (fun a U => am_Pc D cA ad fm As w H.size a U ∧ tr_S U ∧ trB base U)) (PostOf (am_Qc D cA ad n H.size post') 1 6 (am_A ad n H.size)) :=
    va_backW (hh := hh) (bytes := am_b M') (maxL := am_ml M') (ret := am_rt M') hMt' (fun a U g mk q => ⟨am_blind a U g mk q.1, tr_blind g mk a q.2⟩) rfl rfl (by show d + 1 ≤ R.frames; exact hd) (by show 8 + (am_ml M' + 11) + 40 * d ≤ R.locals; omega)
      (fun w hw a' U hW => word_at hW (am_good w (hgw w hw)) (hts w (hgw w hw))) List.mem_cons_self (fun a' U hW => word_at hW (am_good _ h3) (hts _ h3))
  show W p l e R s m args below meth c H locs cells slots Q (F0 m pc ls ((As.reverse ++ rest).map (am_cv ad)))
  rw [e1]
  intro T hT X
  obtain ⟨v, vm₁, ⟨U', l2, c2, s2⟩, hW₁, X', ⟨g', mk, t, L', e3, e4, hq, h1, hL, h2, h4⟩, st⟩ := gl_callS X hx (own := pr_cn co) (index := idx) (y := am_y M') (bytes := am_b M') (maxL := am_ml M') (ret := am_rt M') (hh := hh) hown (hts _ hlk) (hts _ hi) (hts _ h3) (hts _ hcz) ⟨m5.1, m5.2.1⟩ hB (g := F0 m pc ls ((As.map (am_cv ad)).reverse ++ rest.map (am_cv ad))) rfl (hl.1.trans hml.symm) (argsL := As.map (am_cv ad)) (rest := rest.map (am_cv ad)) (fun sig h => by
      rw [List.length_map, hlen]
      have h9 := m5.2.2
      rw [h] at h9
      exact (Option.some.inj h9).symm) rfl (lv_room (by rw [am_cat_sum]; exact hrs)) (by rw [hb]; exact hdec)
    (fun vm₁ hW => ⟨hcs.1, hcs.2, am_pre (U := T.setVm vm₁) hn hK hKn hP hD hS hT hW, tr_S_mv htS htB (U := T.setVm vm₁) hW (fun q hq => by show T.heap[q]? = _; rw [hT]; exact hS.2.1 q (by omega) (fun z => by have := hbase q z; omega))⟩)
  dsimp only [Pt.U, Pt.locs, Pt.cells, Pt.slots] at X' e3 e4 h1 h2 h4 st
  subst h1; subst h2; subst h4
  obtain ⟨v9, w', hv, hp, hn', hP1, hD1, hz, hk9⟩ := hq
  have hv2 : v = v9.map (am_cv ad) := by injection hv
  subst hv2
  have hz' : H.size ≤ t.heap.size := by rw [← hT]; exact hz
  have hAA := am_A_le (ad := ad) (n := n) hS.1
  have kk := k v9 w' hp hn' U'.heap (locs ++ L') ls (by rw [e3]; exact hP1) (hD1.weaken (fun _ q _ h => hAA q.1 h))
    ⟨Nat.le_trans hS.1 (by rw [e3]; exact hz'), fun q h5 h6 => by
      rw [e3, hk9 q (by show q < T.heap.size; rw [hT]; exact Nat.lt_of_lt_of_le h5 hS.1) (fun z => h6 (hAA q z))]
      show T.heap[q]? = _
      rw [hT]
      exact hS.2.1 q h5 h6, fun q hq => by
      rcases List.mem_append.mp hq with h | h
      · exact hS.2.2 q h
      · exact hAA _ (hL q h)⟩ hl
  have e2 : (v9.toList ++ rest).map (am_cv ad) = (v9.map (am_cv ad)).toList ++ rest.map (am_cv ad) := by cases v9 <;> simp
  obtain ⟨t2, a1, b1⟩ := kk U' rfl X'
  refine ⟨t2, st t2 ?_, b1⟩
  rw [← e2]
  exact a1
/-- the script is read -/
theorem gl_sld {pc Ls : Nat} {L : am_L} {S : List Value} {w : am_W} {xs : Nat → Int32} {i : Int32} {A : Nat → Prop} (hX : am_X D cA ad fm co cc nL p s m args c A) (hs : va_X (ad 40) Ls xs s s.heap) (hbl : ad 40 < s.heap.size) (hbA : ¬ A (ad 40)) (hin : vp_in i Ls) (hdec : decode cc pc = .ok (.iaload, 1))
    (k : am_G D cA ad A p l e R s m args below meth c nL cells slots Q (pc + 1, L, .int (xs i.toNatClampNeg) :: S, w)) : am_G D cA ad A p l e R s m args below meth c nL cells slots Q (pc, L, .int i :: .ref 40 :: S, w) := by
  intro H locs ls hP hD hS hl
  exact va_sld hX.1 hX.2.1 hs hbl hbA hS hin hdec (k H locs ls hP hD hS hl)
theorem gl_slen {pc Ls : Nat} {L : am_L} {S : List Value} {w : am_W} {xs : Nat → Int32} {A : Nat → Prop} (hX : am_X D cA ad fm co cc nL p s m args c A) (hs : va_X (ad 40) Ls xs s s.heap) (hbl : ad 40 < s.heap.size) (hbA : ¬ A (ad 40)) (hdec : decode cc pc = .ok (.arraylength, 1))
    (k : am_G D cA ad A p l e R s m args below meth c nL cells slots Q (pc + 1, L, .int (nI Ls) :: S, w)) : am_G D cA ad A p l e R s m args below meth c nL cells slots Q (pc, L, .ref 40 :: S, w) := by
  intro H locs ls hP hD hS hl
  exact va_slen hX.1 hX.2.1 hs hbl hbA hS hdec (k H locs ls hP hD hS hl)
/-- out[0] -/
theorem gl_lald {pc a t N : Nat} {f : Nat → Int64} {i : Int32} {L : am_L} {S : List Value} {w : am_W} {A : Nat → Prop} (hX : am_X D cA ad fm co cc nL p s m args c A) (hw : w[a]? = some (.inl (t, N, .inr (.inl f)))) (hty : pr_ety[t]? = some .long) (hin : vp_in i N) (hdec : decode cc pc = .ok (.laload, 1))
    (k : am_G D cA ad A p l e R s m args below meth c nL cells slots Q (pc + 1, L, .long (f i.toNatClampNeg) :: S, w)) : am_G D cA ad A p l e R s m args below meth c nL cells slots Q (pc, L, .int i :: .ref a :: S, w) := by
  intro H locs ls hP hD hS hl
  have hK := hX.2.2.2.2.2.1
  exact va_lald hX.1 hX.2.1 hK hP a t (am_ws_get hw) (am_tys_get hty) hin hdec (k H locs ls hP hD hS hl)
theorem gl_br {b : Prop} [Decidable b] {t f : Nat} {L : am_L} {S : List Value} {w : am_W} {A : Nat → Prop} (kt : b → am_G D cA ad A p l e R s m args below meth c nL cells slots Q (t, L, S, w)) (kf : ¬ b → am_G D cA ad A p l e R s m args below meth c nL cells slots Q (f, L, S, w)) : am_G D cA ad A p l e R s m args below meth c nL cells slots Q (bif decide b then t else f, L, S, w) := by
  by_cases hb : b
  · rw [decide_eq_true hb]; exact kt hb
  · rw [decide_eq_false hb]; exact kf hb
theorem gl_eq {q q' : am_St} {A : Nat → Prop} (e9 : q = q') (r : am_G D cA ad A p l e R s m args below meth c nL cells slots Q q') : am_G D cA ad A p l e R s m args below meth c nL cells slots Q q := e9 ▸ r
theorem gl_tsw {pc len : Nat} {d lo hi : Int} {offs : Array Int} {x : Int32} {tb : Nat → Option (Instr × Nat)} {L : am_L} {S : List Value} {w : am_W} {A : Nat → Prop} (hX : am_X D cA ad fm co cc nL p s m args c A) (hdk : am_dok cc tb) (ht : tb pc = some (.tableswitch d lo hi offs, len)) (hc : (decide (0 ≤ (pc : Int) + d) && decide (offs.size = (hi - lo + 1).toNat) && decide (lo ≤ hi) && offs.all (fun q => decide (0 ≤ (pc : Int) + q))) = true)
    (r : am_G D cA ad A p l e R s m args below meth c nL cells slots Q (am_tsw pc d lo hi offs x, L, S, w)) : am_G D cA ad A p l e R s m args below meth c nL cells slots Q (pc, L, .int x :: S, w) := by
  have e9 : am_step co nL tb (pc, L, .int x :: S, w) = (bif (decide (0 ≤ (pc : Int) + d) && decide (offs.size = (hi - lo + 1).toNat) && decide (lo ≤ hi) && offs.all (fun q => decide (0 ≤ (pc : Int) + q))) then some (am_tsw pc d lo hi offs x, L, S, w) else none) := by
    simp only [am_step, ht, am_len, show Nat.beq 0 0 = true from rfl, Bool.or_true, cond_true]
    rfl
  exact am_g_steps hX hdk 1 (by simp only [am_steps, e9, hc, cond_true]) r
end GLZ
