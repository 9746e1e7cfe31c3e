/-! CONSTRUCTORS: rules over raw worlds (addresses as they come); the classes of arrays are three, known from the start -/
def rT (cB cI cL : ClassId) : List (ClassId × FieldType) := [(cB, .byte), (cI, .int), (cL, .long)]
theorem ac_B : Cond.arrayClass .byte ∈ lw_g := am_in 136 (by decide +kernel) (by decide +kernel)
theorem ac_I : Cond.arrayClass .int ∈ lw_g := am_in 180 (by decide +kernel) (by decide +kernel)
theorem ac_L : Cond.arrayClass .long ∈ lw_g := am_in 181 (by decide +kernel) (by decide +kernel)
theorem oj_i : Cond.instanceMethod Lib.objectInit ∈ lw_g := am_in 121 (by decide +kernel) rfl
theorem oj_c : Cond.code Lib.objectInit ⟨#[0xb1]⟩ 1 none ∈ lw_g := am_in 122 (by decide +kernel) rfl
section RWG
variable (D : va_G) (A : Nat → Prop) (p : Program) (l : Launch) (e : Env) (R : Room) (s : State) (m : MethodId) (args : Array Value) (below : List Frame) (meth : Method) (c : Code) (nL : Nat) (Q : State → Prop)
def rG (ws : va_W) (cells slots pc : Nat) (lv : List (Nat × Value)) (S : List Value) : Prop := ∀ (H : Heap) (locs : List Loc) (ls : Array Slot), va_P D pr_cl ws H → va_D A ws → va_S A s.heap H locs → lv_has ls nL lv → W p l e R s m args below meth c H locs cells slots Q (F0 m pc ls S)
end RWG
def rN (U : State) : Prop := ∀ (co idx : Nat) (y : MethodName) (host : String), (co, idx, y, host) ∈ pr_ns → va_Nw (.methodLinkNest (pr_cn co) idx y host) U
def rX (D : va_G) (A : Nat → Prop) (tys : List (ClassId × FieldType)) (own : String) (cc : ByteArray) (nL : Nat) (p : Program) (s : State) (m : MethodId) (args : Array Value) (c : Code) : Prop := p.tables.exec = Jvm.exec ∧ c.code = cc ∧ c.maxLocals = nL ∧ s.vm.findClass own = some m.cls ∧ (∀ w ∈ lw_g, w.before args s = true) ∧ va_K D pr_cl tys s ∧ (∀ q, s.heap.size ≤ q → A q) ∧ rN s
/-- a constructor's contract: from the world ws it comes to a world of which post speaks; so many cells and slots come -/
def rM (l : Launch) (D : va_G) (tys : List (ClassId × FieldType)) (M : am_M) (rm : Room) (As : List Value) (ws : va_W) (mc ms : Nat) (post : va_W → Prop) : Prop :=
  ∀ sz : Nat, Met l (am_y M) (am_cw M :: lw_g) rm (va_Pc As (fun U => U.heap.size = sz ∧ va_P D pr_cl ws U.heap ∧ va_K D pr_cl tys U ∧ va_D (fun _ => True) ws ∧ rN U)) (va_Qv (fun w' : va_W => post w') (fun w' t => va_P D pr_cl w' t.heap ∧ va_D (va_A ws sz) w') (va_A ws sz)) mc ms (va_A ws sz)
section RWR
variable {D : va_G} {A : Nat → Prop} {p : Program} {l : Launch} {e : Env} {R : Room} {s : State} {m : MethodId} {args : Array Value} {below : List Frame} {meth : Method} {c : Code} {nL : Nat} {Q : State → Prop} {tys : List (ClassId × FieldType)} {own : String} {cc : ByteArray} {ws : va_W} {cells slots pc : Nat} {lv : List (Nat × Value)} {S : List Value}
theorem r_ald (hX : rX D A tys own cc nL p s m args c) {k : Fin 4} {i j x : Nat} (hd : decode cc pc = .ok (.aload_n k, 1)) (hi : (k : Nat) = i) (hj : lv[j]? = some (i, .ref x)) (kk : rG D A p l e R s m args below meth c nL Q ws cells slots (pc + 1) lv (.ref x :: S)) : rG D A p l e R s m args below meth c nL Q ws cells slots pc lv S :=
  fun H locs ls hP hD hS hl => lv_aload_n hX.1 hX.2.1 hd hi (lv_at hl j hj) (kk H locs ls hP hD hS hl)
theorem r_icn (hX : rX D A tys own cc nL p s m args c) {n : Int} {v : Int32} (hd : decode cc pc = .ok (.iconst n, 1)) (hv : Int32.ofInt n = v) (kk : rG D A p l e R s m args below meth c nL Q ws cells slots (pc + 1) lv (.int v :: S)) : rG D A p l e R s m args below meth c nL Q ws cells slots pc lv S :=
  fun H locs ls hP hD hS hl => lv_iconst hX.1 hX.2.1 hd hv (kk H locs ls hP hD hS hl)
theorem r_bip (hX : rX D A tys own cc nL p s m args c) {n : Int} {v : Int32} (hd : decode cc pc = .ok (.bipush n, 2)) (hv : (Int8.ofInt n).toInt32 = v) (kk : rG D A p l e R s m args below meth c nL Q ws cells slots (pc + 2) lv (.int v :: S)) : rG D A p l e R s m args below meth c nL Q ws cells slots pc lv S :=
  fun H locs ls hP hD hS hl => lv_bipush hX.1 hX.2.1 hd hv (kk H locs ls hP hD hS hl)
theorem r_sip (hX : rX D A tys own cc nL p s m args c) {n : Int} {v : Int32} (hd : decode cc pc = .ok (.sipush n, 3)) (hv : (Int16.ofInt n).toInt32 = v) (kk : rG D A p l e R s m args below meth c nL Q ws cells slots (pc + 3) lv (.int v :: S)) : rG D A p l e R s m args below meth c nL Q ws cells slots pc lv S :=
  fun H locs ls hP hD hS hl => lv_sipush hX.1 hX.2.1 hd hv (kk H locs ls hP hD hS hl)
theorem r_dup (hX : rX D A tys own cc nL p s m args c) {v : Value} (hd : decode cc pc = .ok (.dup, 1)) (hv : v.category = 1) (kk : rG D A p l e R s m args below meth c nL Q ws cells slots (pc + 1) lv (v :: v :: S)) : rG D A p l e R s m args below meth c nL Q ws cells slots pc lv (v :: S) :=
  fun H locs ls hP hD hS hl => lv_dup hX.1 hX.2.1 hd hv (kk H locs ls hP hD hS hl)
theorem r_ast (hX : rX D A tys own cc nL p s m args c) {k : Fin 4} {i x : Nat} {lv' : List (Nat × Value)} (hd : decode cc pc = .ok (.astore_n k, 1)) (hi : (k : Nat) = i) (hn : i < nL) (hl9 : (i, Value.ref x) :: lv.filter (fun q => !(q.1 == i) && !(q.1 + 1 == i && q.2.category == 2)) = lv') (kk : rG D A p l e R s m args below meth c nL Q ws cells slots (pc + 1) lv' S) : rG D A p l e R s m args below meth c nL Q ws cells slots pc lv (.ref x :: S) :=
  fun H locs _ hP hD hS hl => lv_astore_n hX.1 hX.2.1 hd hi hl hn hl9 (fun ls1 hl1 => kk H locs ls1 hP hD hS hl1)
theorem r_newa (hX : rX D A tys own cc nL p s m args c) {atype : ArrayType} {ty : FieldType} {t : Nat} {c0 : ClassId} {n : Int32} {N : Nat} {a0 : vp_A} (harr : Cond.arrayClass (newarray.typeOf atype) ∈ lw_g) (hty : newarray.typeOf atype = ty) (ht : tys[t]? = some (c0, ty)) (hra : ∀ cA, va_RA s cA ty → s.vm.findClass ("[" ++ ty.toString) = some cA) (ha : ∀ cA : ClassId, vp_cell cA a0 = arrV cA N (fun _ => defaultValue ty)) (hn : ¬ n < 0) (hN9 : n.toNatClampNeg = N) (hbytes : N * componentBytes ty ≤ 536870912) (hc : cells + 1 ≤ R.cells) (hs : slots + N ≤ R.slots) (hd : decode cc pc = .ok (.newarray atype, 2)) (k : ∀ q, rG D A p l e R s m args below meth c nL Q (ws ++ [(q, .inl (c0, a0))]) (cells + 1) (slots + N) (pc + 2) lv (.ref q :: S)) : rG D A p l e R s m args below meth c nL Q ws cells slots pc lv (.int n :: S) := by
  intro H locs ls hP hD hS hl
  obtain ⟨hx, hb, hml, hown, hg, hK, hA, hN⟩ := hX
  refine va_newa hx hb (hg _ harr) hty hK hP hD hS hA ha hn hN9 hbytes hc hs hd (fun q cA H1 hK1 hP1 hD1 hS1 => ?_)
  have e9 : (tys ++ [(cA, ty)])[tys.length]? = some (cA, ty) := by simp
  have e : c0 = cA := Option.some.inj ((hra _ (hK.2 t _ ht).2).symm.trans (hra _ (hK1.2 _ _ e9).2))
  subst e
  exact k q H1 locs ls hP1 hD1 hS1 hl
theorem r_putF (hX : rX D A tys own cc nL p s m args c) (hin : meth.name = "<init>") {C : String} {T : u_T} {N : Nat} {ty0 : Nat → FieldType} {idx ci q0 kf a : Nat} {fs : List Value} {v : Value} (hck : am_cok ci C T N ty0) (he : ws[q0]? = some (a, .inr (ci, fs))) (hk : kf < N) (hlk : Cond.fieldLink own idx (T kf).1 (T kf).2.1 (T kf).2.2.1 ∈ lw_g) (hfin : (T kf).2.2.2 = true) (hdecl : (T kf).1 = own) (hn : narrow (ty0 kf) v = v) (hfit : fits (ty0 kf) v = true) (hl9 : kf < fs.length) (hd : decode cc pc = .ok (.putfield idx, 3)) (k : rG D A p l e R s m args below meth c nL Q (ws.set q0 (a, .inr (ci, fs.set kf v))) cells slots (pc + 3) lv S) : rG D A p l e R s m args below meth c nL Q ws cells slots pc lv (v :: .ref a :: S) := by
  intro H locs ls hP hD hS hl
  obtain ⟨hx, hb, hml, hown, hg, hK, hA, hN⟩ := hX
  exact va_putF (D := D) (ci := ci) (v := v) (ty := ty0 kf) (C := C) (T := T) (N := N) hx hb hg hck.2.1 ty0 hck.2.2.1 hck.2.2.2 hown hK hP hD hS q0 he hck.1 kf hk (hg _ hlk) (fun _ h9 => h9) hfin hin hdecl (hck.2.2.1 kf hk) hn hfit hl9 hd (fun H1 locs1 hP1 hD1 hS1 => k H1 locs1 ls hP1 hD1 hS1 hl)
theorem r_put (hX : rX D A tys own cc nL p s m args c) {C : String} {T : u_T} {N : Nat} {ty0 : Nat → FieldType} {idx ci q0 kf a : Nat} {fs : List Value} {v : Value} (hck : am_cok ci C T N ty0) (he : ws[q0]? = some (a, .inr (ci, fs))) (hk : kf < N) (hlk : Cond.fieldLink own idx (T kf).1 (T kf).2.1 (T kf).2.2.1 ∈ lw_g) (hfin : (T kf).2.2.2 = false) (hn : narrow (ty0 kf) v = v) (hfit : fits (ty0 kf) v = true) (hl9 : kf < fs.length) (hd : decode cc pc = .ok (.putfield idx, 3)) (k : rG D A p l e R s m args below meth c nL Q (ws.set q0 (a, .inr (ci, fs.set kf v))) cells slots (pc + 3) lv S) : rG D A p l e R s m args below meth c nL Q ws cells slots pc lv (v :: .ref a :: S) := by
  intro H locs ls hP hD hS hl
  obtain ⟨hx, hb, hml, hown, hg, hK, hA, hN⟩ := hX
  exact va_put (D := D) (ci := ci) (v := v) (ty := ty0 kf) (C := C) (T := T) (N := N) hx hb hg hck.2.1 ty0 hck.2.2.1 hck.2.2.2 hown hK hP hD hS q0 he hck.1 kf hk (hg _ hlk) (fun _ h9 => h9) hfin (hck.2.2.1 kf hk) hn hfit hl9 hd (fun H1 locs1 hP1 hD1 hS1 => k H1 locs1 ls hP1 hD1 hS1 hl)
theorem r_new (hX : rX D A tys own cc nL p s m args c) {C : String} {T : u_T} {N : Nat} {ty0 : Nat → FieldType} {idx ci : Nat} {fs : List Value} (hck : am_cok ci C T N ty0) (hcl : Cond.classLink own idx C ∈ lw_g) (hinst : Cond.instantiable C N ∈ lw_g) (hini : Cond.initialized C ∈ lw_g) (hfs : ∀ j, j < N → defaultValue (ty0 j) = vp_V fs j) (hc : cells + 1 ≤ R.cells) (hs : slots + N ≤ R.slots) (hd : decode cc pc = .ok (.new idx, 3)) (k : ∀ q, rG D A p l e R s m args below meth c nL Q (ws ++ [(q, .inr (ci, fs))]) (cells + 1) (slots + N) (pc + 3) lv (.ref q :: S)) : rG D A p l e R s m args below meth c nL Q ws cells slots pc lv S := by
  intro H locs ls hP hD hS hl
  obtain ⟨hx, hb, hml, hown, hg, hK, hA, hN⟩ := hX
  exact va_new (ci := ci) (fs := fs) (C := C) (T := T) (N := N) hx hb hg hck.2.1 ty0 hck.2.2.1 hown (hg _ hcl) (hg _ hinst) (hg _ hini) hK hP hD hS hA hck.1 hfs hc hs hd (fun q H1 hP1 hD1 hS1 => k q H1 locs ls hP1 hD1 hS1 hl)
theorem r_obj (hX : rX D A tys own cc nL p s m args c) {idx a : Nat} (hlk : Cond.methodLink own idx Lib.objectInit ∈ lw_g) (hfr : 1 ≤ R.frames) (hlo : 20 ≤ R.locals) (hd : decode cc pc = .ok (.invokespecial idx, 3)) (k : rG D A p l e R s m args below meth c nL Q ws cells slots (pc + 3) lv []) : rG D A p l e R s m args below meth c nL Q ws cells slots pc lv [.ref a] := by
  intro H locs ls hP hD hS hl
  obtain ⟨hx, hb, hml, hown, hg, hK, hA, hN⟩ := hX
  refine W.objInit hx hb hown (hg _ hlk) (hg _ oj_i) (hg _ oj_c) rfl (by rw [hml]; exact hl.1) rfl hd hfr ?_ (k H locs ls hP hD hS hl)
  have := lv_room (m := m) (pc := pc) (ls := ls) (rest := [.ref a]) (st := []) (by decide)
  omega
/-- a constructor is called -/
theorem r_call (hX : rX D A tys own cc nL p s m args c) {M : am_M} {rm : Room} {mc ms b idx : Nat} {As rest : List Value} {wc wr : va_W} {post : va_W → Prop} (isC isR : List Nat) (hM : rM l D tys M rm (.ref b :: As) wc mc ms post) (hok : am_ok M) (hrt : am_rt M = none) (hnm : (am_y M).name = "<init>") (hinst : Cond.instanceMethod (am_y M) ∈ lw_g) (hlk : Cond.methodLink own idx (am_y M) ∈ lw_g) (hrc : rm.cells = mc) (hrs : rm.slots = ms) (hnp : As.length = am_np M) (hR : rm.frames + 1 ≤ R.frames ∧ 8 + (am_ml M + 11) + rm.locals ≤ R.locals) (hd : decode cc pc = .ok (.invokespecial idx, 3)) (hf : cells + mc ≤ R.cells ∧ slots + ms ≤ R.slots) (hrs8 : (rest.map fun v => v.category).sum ≤ 8) (hC : isC.map (fun i => ws[i]?) = wc.map some) (hnC : va_nd isC = true) (hC2 : isC.filterMap (fun i => ws[i]?) = wc) (hR2 : isR.map (fun i => ws[i]?) = wr.map some) (hnR : va_nd isR = true) (hdis : ∀ i ∈ isR, i ∉ isC)
    (k : ∀ w', post w' → rG D A p l e R s m args below meth c nL Q (wr ++ w') (cells + mc) (slots + ms) (pc + 3) lv rest) : rG D A p l e R s m args below meth c nL Q ws cells slots pc lv (As.reverse ++ .ref b :: rest) := by
  intro H locs ls hP hD hS hl
  obtain ⟨hx, hb, hml, hown, hg, hK, hA, hN⟩ := hX
  have hPc := hP.sub (ws' := wc) isC hC2
  have hDc := hD.sub (ws' := wc) isC hnC hC
  have hFc := va_free (wc := wc) hD hS hA isC hC
  have hG : GoodIn lw_g (am_cw M :: lw_g) := am_gin (fun x hx => by
    rcases List.mem_cons.mp hx with rfl | h
    · exact hok.2.1
    · exact h)
  refine va_callv (va_runI (As := As) (rest := rest) ⟨hx, hb, hml, hown, hg⟩ (hM H.size) (cwI (am_np M) hg hG (by rw [← hrt]; rfl) hrc hrs (hg _ hok.2.2.1) (hg _ hlk) (hg _ hinst) hnm hok.2.2.2.2.1 hR) ⟨fun a U g mk q => by obtain ⟨q0, q1, qP, qK, qD, qN⟩ := q; exact ⟨q0, q1, qP, va_K.moved (u := U) (U := U.calling g mk a) (Vm.Alike.refl U.vm) qK, qD, fun co idx y host h => va_Nw.same (u := U) rfl rfl (qN co idx y host h)⟩, fun U hU hW => ⟨rfl, by rw [hU], by rw [hU]; exact hPc, va_K.moved hW.alike hK, hDc.weaken (fun _ _ _ _ => trivial), fun co idx y host h => va_Nw.warmM hW (hN co idx y host h)⟩⟩ rfl hnp hl.1 rfl (lv_room hrs8) hd hf) hS (fun q _ h => hFc q h) hFc (fun w' t H1 locs1 ht hvm hw hB hz1 hk1 hS1 => ?_)
  obtain ⟨hP1, hD1⟩ := hB
  rw [ht] at hP1
  obtain ⟨hP2, hD2⟩ := va_join (wr := wr) (w1 := w') hP hD isC isR hC hR2 hnR hdis hk1 hFc hP1 hD1
  exact k w' hw H1 locs1 ls hP2 hD2 hS1 hl
/-- a nest mate's constructor is called -/
theorem r_callN {co : Nat} {host : String} (hX : rX D A tys (pr_cn co) cc nL p s m args c) {M : am_M} {rm : Room} {mc ms b idx : Nat} {As rest : List Value} {wc wr : va_W} {post : va_W → Prop} (isC isR : List Nat) (hM : rM l D tys M rm (.ref b :: As) wc mc ms post) (hok : am_ok M) (hrt : am_rt M = none) (hnm : (am_y M).name = "<init>") (hinst : Cond.instanceMethod (am_y M) ∈ lw_g) (hlk : (co, idx, am_y M, host) ∈ pr_ns) (hrc : rm.cells = mc) (hrs : rm.slots = ms) (hnp : As.length = am_np M) (hR : rm.frames + 1 ≤ R.frames ∧ 8 + (am_ml M + 11) + rm.locals ≤ R.locals) (hd : decode cc pc = .ok (.invokespecial idx, 3)) (hf : cells + mc ≤ R.cells ∧ slots + ms ≤ R.slots) (hrs8 : (rest.map fun v => v.category).sum ≤ 8) (hC : isC.map (fun i => ws[i]?) = wc.map some) (hnC : va_nd isC = true) (hC2 : isC.filterMap (fun i => ws[i]?) = wc) (hR2 : isR.map (fun i => ws[i]?) = wr.map some) (hnR : va_nd isR = true) (hdis : ∀ i ∈ isR, i ∉ isC)
    (k : ∀ w', post w' → rG D A p l e R s m args below meth c nL Q (wr ++ w') (cells + mc) (slots + ms) (pc + 3) lv rest) : rG D A p l e R s m args below meth c nL Q ws cells slots pc lv (As.reverse ++ .ref b :: rest) := by
  intro H locs ls hP hD hS hl
  obtain ⟨hx, hb, hml, hown, hg, hK, hA, hN⟩ := hX
  have hPc := hP.sub (ws' := wc) isC hC2
  have hDc := hD.sub (ws' := wc) isC hnC hC
  have hFc := va_free (wc := wc) hD hS hA isC hC
  have hG : GoodIn lw_g (am_cw M :: lw_g) := am_gin (fun x hx => by
    rcases List.mem_cons.mp hx with rfl | h
    · exact hok.2.1
    · exact h)
  refine va_callv (va_runIN (As := As) (rest := rest) ⟨hx, hb, hml, hown, hg⟩ (hM H.size) ⟨va_cnB (Ts := lw_g) (am_np M) hg hG (by rw [← hrt]; rfl) hrc hrs (hN _ _ _ _ hlk) (hg _ hok.2.2.1) hok.2.2.2.2.1 hR, hnm, hg _ hinst⟩ ⟨fun a U g mk q => by obtain ⟨q0, q1, qP, qK, qD, qN⟩ := q; exact ⟨q0, q1, qP, va_K.moved (u := U) (U := U.calling g mk a) (Vm.Alike.refl U.vm) qK, qD, fun co idx y host h => va_Nw.same (u := U) rfl rfl (qN co idx y host h)⟩, fun U hU hW => ⟨rfl, by rw [hU], by rw [hU]; exact hPc, va_K.moved hW.alike hK, hDc.weaken (fun _ _ _ _ => trivial), fun co idx y host h => va_Nw.warmM hW (hN co idx y host h)⟩⟩ rfl hnp hl.1 rfl (lv_room hrs8) hd hf) hS (fun q _ h => hFc q h) hFc (fun w' t H1 locs1 ht hvm hw hB hz1 hk1 hS1 => ?_)
  obtain ⟨hP1, hD1⟩ := hB
  rw [ht] at hP1
  obtain ⟨hP2, hD2⟩ := va_join (wr := wr) (w1 := w') hP hD isC isR hC hR2 hnR hdis hk1 hFc hP1 hD1
  exact k w' hw H1 locs1 ls hP2 hD2 hS1 hl
end RWR
section RWE
variable {l : Launch} {D : va_G} {tys : List (ClassId × FieldType)}
/-- a constructor's beginning -/
theorem r_entry {M : am_M} (hok : am_ok M) (hrt : am_rt M = none) (hnm : (am_y M).name = "<init>") {rm : Room} {As : List Value} {ws : va_W} {mc ms : Nat} {post : va_W → Prop} (hA : (lg_sl As).length ≤ am_ml M)
    (k : ∀ (p : Program) (e : Env) (s : State) (m : MethodId) (args : Array Value) (below : List Frame) (meth : Method) (c : Code), rX D (va_A ws s.heap.size) tys (pr_cn (am_co M)) (am_b M) (am_ml M) p s m args c → meth.name = "<init>" → meth.sig.returnType = none → meth.locks = false → rG D (va_A ws s.heap.size) p l e rm s m args below meth c (am_ml M) (MQ below (va_Qv (fun w' : va_W => post w') (fun w' t => va_P D pr_cl w' t.heap ∧ va_D (va_A ws s.heap.size) w') (va_A ws s.heap.size)) args s mc ms (va_A ws s.heap.size)) ws 0 0 0 (lv_args 0 As) []) : rM l D tys M rm As ws mc ms post := by
  intro sz
  refine Met.ofW (cc := am_b M) (maxL := am_ml M) (ret := none) hok.2.2.2.1 (by rw [← hrt]; rfl) ?_
  intro p e s m args below meth c s₁ B hml hv
  obtain ⟨rfl, hsz, hP, hK, hD0, hN⟩ := hv
  subst hsz
  have hts := atoms_spec (ws := am_cw M :: lw_g) B.pre
  have hown : s.vm.findClass (pr_cn (am_co M)) = some m.cls := by rw [hok.2.2.2.2.2.1]; exact findClass_of_methodNamed B.named
  have hin : meth.name = "<init>" := ((name_of_methodNamed B.named B.method).1).trans hnm
  have hl := lv_entry As (n := am_ml M) hA
  rw [lg_entry_eq]
  exact k p e s m _ below meth c ⟨B.exec, B.bytes, hml, hown, fun w hw => hts w (List.mem_cons_of_mem _ hw), hK, fun q hq => Or.inr hq, hN⟩ hin B.returns B.notSynchronized s.heap [] _ hP (hD0.self (sz := s.heap.size)) va_S.rf hl
theorem r_ret {A : Nat → Prop} {p : Program} {e : Env} {R : Room} {s : State} {m : MethodId} {args : Array Value} {below : List Frame} {meth : Method} {c : Code} {nL : Nat} {own : String} {cc : ByteArray} {ws : va_W} {cells slots pc mc ms : Nat} {lv : List (Nat × Value)} {post : va_W → Prop} (hX : rX D A tys own cc nL p s m args c) (hr : meth.sig.returnType = none) (hlk : meth.locks = false) (hc : cells ≤ mc) (hs : slots ≤ ms) (hp : post ws) (hd : decode cc pc = .ok (.return_, 1)) : rG D A p l e R s m args below meth c nL (MQ below (va_Qv (fun w' : va_W => post w') (fun w' t => va_P D pr_cl w' t.heap ∧ va_D A w') A) args s mc ms A) ws cells slots pc lv [] := by
  intro H locs ls hP hD hS hl
  refine W.widen (k := mc) (n := ms) hc hs ?_
  exact W.vret hX.1 hX.2.1 hr (fun t ht hW => ⟨⟨ws, rfl, hp, by rw [ht]; exact hP, hD⟩, hS.F ht⟩) hS.2.2 hd hlk
end RWE
