/-! A CALL THAT THROWS, caught by the caller's only handler -/
section TCC
variable {p : Program} {l : Launch} {e : Env} {R : Room} {s : State} {m : MethodId} {args : Array Value} {below : List Frame} {meth : Method} {c : Code} {T : State} {locs : List Loc} {cells slots : Nat}
theorem tr_thrown (X : Stand p l e R s m args below meth c T locs cells slots) (hexec : p.tables.exec = Jvm.exec) {own C : String} {index : Nat} {y : MethodName} {bytes : ByteArray} {maxL : Nat} {ret : Option FieldType} {S : Spec} {P : Array Value → State → Prop} {XC : String}
    (hown : s.vm.findClass own = some m.cls) (hlink : (Cond.methodLink own index y).before args s = true) (hinst : (Cond.instanceMethod y).before args s = true) (hsel : (Cond.selects C y y).before args s = true)
    (hcode : (Cond.code y bytes maxL ret).before args s = true) (hini : (Cond.initialized y.cls).before args s = true) (hy : y.cls ≠ "java/lang/invoke/MethodHandle" ∧ y.cls ≠ "java/lang/invoke/VarHandle")
    (hM : MetFree l y S P (fun _ _ _ _ _ => True) (fun _ st oc t => oc = .threw st.heap.size ∧ st.WarmedH t.vm ∧ st.sameButNew ({ t with vm := st.vm } : State) [] 1 6 ∧ ∃ ce : Cell, t.heap[st.heap.size]? = some ce ∧ ce.vm = .none ∧ st.vm.findClass XC = some ce.cls))
    (hframes : S.room.frames + 1 ≤ R.frames) (hlocals : 8 + (maxL + 11) + S.room.locals ≤ R.locals) (hc0 : cells + S.room.cells ≤ R.cells) (hs0 : slots + S.room.slots ≤ R.slots)
    (hpre : ∀ (vm₁ : Vm) (g' : JFrame) (mk : MethodId) (a' : Array Value), s.WarmedH vm₁ → S.pre.before a' (T.setVm vm₁) = true)
    {b : Addr} {cellB : Cell} (hcell : T.heap[b]? = some cellB) (hobj : cellB.vm.isStatics = false) (hcls : s.vm.findClass C = some cellB.cls)
    {g : JFrame} (hg : g.method = m) (hsize : g.locals.size = c.maxLocals) {argsL rest : List Value} (hlen : ∀ sig, parseMethodDescriptor y.desc = some sig → argsL.length = sig.parameters.length)
    (hstack : g.stack = argsL.reverse ++ .ref b :: rest) (hW : 2 * g.monitorRoom + (rest.map fun v => v.category).sum ≤ 8) (hdg : decode c.code g.pc = .ok (.invokevirtual index, 3))
    (hPc : ∀ (vm₁ : Vm) (mk : MethodId), s.WarmedH vm₁ → P (Value.ref b :: argsL).toArray ((T.setVm vm₁).calling { g with stack := rest } mk (Value.ref b :: argsL).toArray)) :
    ∃ (T' : State), Stand p l e R s m args below meth c T' locs (cells + 1) (slots + 6) ∧ T'.heap.size ≤ T.heap.size + 1 ∧ (∀ q, q < T.heap.size → T'.heap[q]? = T.heap[q]?) ∧ (∃ ce : Cell, T'.heap[T.heap.size]? = some ce ∧ ce.vm = .none ∧ s.vm.findClass XC = some ce.cls) ∧
      ∀ target, Steps p.tables e below ((T'.setTop { g with stack := rest }).pushFrame (.throwing T.heap.size)) target → Steps p.tables e below (T.setTop g) target := by
  obtain ⟨mk, methM, hnamed, hmethM, hstM, habM⟩ := Cond.instanceMethod_spec hinst
  obtain ⟨methM', cM, hmethM', hcM, -, hlM, -, -, -, hsigM⟩ := Cond.code_spec hnamed hcode
  cases hmethM.symm.trans hmethM'
  obtain ⟨c2, r2, m2, q1, q2, q3, q4, kP, hkP, hkPi⟩ := Cond.selects_spec hsel
  cases hcls.symm.trans q1
  cases (State.methodFound?_of_named hnamed hy).symm.trans q2
  cases hnamed.symm.trans q3
  have hselP : selectMethod e.platform s.vm cellB.cls mk = .method mk := by rw [Launch.admits_selectMethod X.admits]; exact q4
  obtain ⟨vm₁, X₁, hstep₁⟩ := X.invokevirtual hexec hown hlink hnamed hmethM hstM hkP hkPi hy (a := b) (cell := cellB) hcell
    (fun z h => by rw [h] at hobj; cases hobj) hselP hmethM habM hkP hkPi (g := g) hg (argsL := argsL) (rest := rest) (hlen _ hsigM) hstack hdg
  have hg2 : ({ g with stack := rest } : JFrame).method = m := hg
  generalize hgg : ({ g with stack := rest } : JFrame) = g2 at *
  have hn := X₁.named hnamed
  have hU : (T.setVm vm₁).heap = T.heap := rfl
  generalize hUU : T.setVm vm₁ = U at *
  have h : At U g2.method c below := by rw [hg2]; exact X₁.here
  have hal := X₁.warmed.alike
  obtain ⟨kY, hkY, -⟩ := className_of_methodNamed hn
  have hinitY : kY.init = .initialized := by
    obtain ⟨kY0, hkY0, -⟩ := className_of_methodNamed hnamed
    obtain ⟨k9, hk9, he9⟩ := hal.2.2 _ _ hkY0
    have h8 : kY0.init = .initialized := Cond.initialized_spec (findClass_of_methodNamed hnamed) hkY0 hini
    cases hk9.symm.trans hkY
    rw [he9]
    exact h8
  have hsz2 : g2.locals.size = c.maxLocals := by rw [← hgg]; exact hsize
  have hd2 : decode c.code g2.pc = .ok (.invokevirtual index, 3) := by rw [← hgg]; exact hdg
  have hW2 : 2 * g2.monitorRoom + (g2.stack.map fun v => v.category).sum ≤ 8 := by rw [← hgg]; exact hW
  have happ : S.appliesLoose y e.platform (U.calling g2 mk (Value.ref b :: argsL).toArray) = true :=
    Spec.appliesLoose_calling (g := g2) h hd2 hn hkY hinitY
      (X₁.room_calling (g := g2) (R' := S.room) hsz2 (by rw [hal.method?]; exact hmethM) hcM hframes (by rw [hlM]; omega) hc0 hs0) (by rw [← hUU]; exact hpre vm₁ g2 mk _ (by rw [show vm₁ = U.vm by rw [← hUU]; rfl]; exact X₁.warmed))
  obtain ⟨mid, hmid⟩ := h.above
  have hfr : (U.setTop g2).frames = (.java g2 :: mid) ++ below := by rw [State.frames_setTop' g2 h.top, hmid]; rfl
  obtain ⟨o, s₂, hsteps, -, hend, hq⟩ := Steps.callFree hM p X.admits X.cas X.clock (acts := []) hfr happ (by rw [← hUU]; exact hPc vm₁ mk (by rw [show vm₁ = U.vm by rw [← hUU]; rfl]; exact X₁.warmed)) trivial
  obtain ⟨ho, hW₂, hsm, ce, hce1, hce2, hce3⟩ := hq
  have hst : ((U.setTop g2).pushFrame (.invoking mk (Value.ref b :: argsL).toArray)).heap.size = T.heap.size := by rw [← hU]; rfl
  rw [State.frames_setTop' g2 h.top] at hend
  rw [hst] at ho hce1
  subst ho
  obtain ⟨e2, q2, q3, q4, q5, q6⟩ := hsm
  have hf₂ : s₂.frames = .throwing T.heap.size :: .java g2 :: U.frames.tail := hend
  have hW' : U.WarmedH s₂.vm := hW₂
  have e3 : s₂ = ({ (U.calling g2 mk (Value.ref b :: argsL).toArray).setFrames s₂.frames with heap := s₂.heap, slotsUsed := s₂.slotsUsed } : State).setVm s₂.vm := by
    have : s₂ = ({ s₂ with vm := (U.calling g2 mk (Value.ref b :: argsL).toArray).vm } : State).setVm s₂.vm := rfl
    rw [show ({ s₂ with vm := (U.calling g2 mk (Value.ref b :: argsL).toArray).vm } : State) = _ from e2] at this
    exact this
  obtain ⟨g₀, hg0⟩ := Option.isSome_iff_exists.mp h.top
  obtain ⟨r, hr⟩ := State.topJava?_eq_some.mp hg0
  have hs₂ : s₂ = ((({ U with heap := s₂.heap, slotsUsed := s₂.slotsUsed } : State).setVm s₂.vm).setTop g2).pushFrame (.throwing T.heap.size) := by
    have hr' : (({ U with heap := s₂.heap, slotsUsed := s₂.slotsUsed } : State).setVm s₂.vm).frames = .java g₀ :: r := hr
    refine e3.trans ?_
    rw [hf₂, State.calling_eq h.top, State.setFrames_setFrames, State.pushFrame, State.frames_setTop _ hr', State.setTop_of_frames _ hr', State.setFrames_setFrames, hr]
    rfl
  have hsame : U.sameButNew ({ U with heap := s₂.heap, slotsUsed := s₂.slotsUsed } : State) [] 1 6 := by
    refine ⟨?_, q2, q3, q4, q5, q6⟩
    obtain ⟨t, ht, -⟩ := State.frames_cons hr
    show ({ U with heap := s₂.heap, slotsUsed := s₂.slotsUsed } : State) = { U.setFrames U.frames with heap := s₂.heap, slotsUsed := s₂.slotsUsed }
    rw [State.setFrames_self ht]
  have hstd : Stand p l e R s m args below meth c ((({ U with heap := s₂.heap, slotsUsed := s₂.slotsUsed } : State).setVm s₂.vm)) (locs ++ []) (cells + 1) (slots + 6) :=
    ⟨X₁.admits, X₁.cas, X₁.clock, X₁.frames, X₁.room, X₁.hears, X₁.method, X₁.code, (X₁.here.setHeapUsed s₂.heap s₂.slotsUsed).setVm hW'.alike, X₁.tail, State.WarmedH.trans X₁.warmed hW', X₁.limits, X₁.bytes, X₁.same.trans (hsame.setVm s.vm)⟩
  rw [List.append_nil] at hstd
  refine ⟨_, hstd, ?_, fun q hq => ?_, ⟨ce, hce1, hce2, ?_⟩, fun target hrest => hstep₁ _ fun acts => ?_⟩
  · have : s₂.heap.size ≤ T.heap.size + 1 := by rw [← hst]; exact q3
    exact this
  · have hq2 : q < ((U.setTop g2).pushFrame (.invoking mk (Value.ref b :: argsL).toArray)).heap.size := by rw [hst]; exact hq
    obtain ⟨c', h1, h2, h3, h4⟩ := q6 q _ (Array.getElem?_eq_getElem hq2)
    have h5 : c'.slots = (((U.setTop g2).pushFrame (.invoking mk (Value.ref b :: argsL).toArray)).heap[q]).slots := Array.ext_getElem? (fun i => h4 i (by simp))
    show s₂.heap[q]? = T.heap[q]?
    have h6 : s₂.heap[q]? = some c' := h1
    have h7 : T.heap[q]? = some (((U.setTop g2).pushFrame (.invoking mk (Value.ref b :: argsL).toArray)).heap[q]) := by
      have := Array.getElem?_eq_getElem hq2
      rw [← this]
      show T.heap[q]? = U.heap[q]?
      rw [← hU]
    rw [h6, h7, h2, h5]
  · have h9 : (U.calling g2 mk (Value.ref b :: argsL).toArray).vm.findClass XC = some ce.cls := hce3
    have h10 : U.vm.findClass XC = some ce.cls := h9
    rw [hal.findClass] at h10
    exact h10
  · rw [doInvoke_state]
    rw [← hs₂] at hrest
    exact hsteps.trans hrest
end TCC
