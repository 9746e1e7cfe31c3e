/-! EXCEPTIONS: the words that making them asks; from 'new' to the throw -/
def tr_X : String := "java/lang/IndexOutOfBoundsException"
def tr_A : String := "java/lang/IllegalArgumentException"
def tr_up : List String := ["java/lang/RuntimeException", "java/lang/Exception"]
def tr_sp : List Cond := [.laysStatic "java/lang/Throwable" "UNASSIGNED_STACK" "[Ljava/lang/StackTraceElement;", .laysStatic "java/lang/Throwable" "SUPPRESSED_SENTINEL" "Ljava/util/List;", .isRef (.static "java/lang/Throwable" "UNASSIGNED_STACK" "[Ljava/lang/StackTraceElement;"), .isRef (.static "java/lang/Throwable" "SUPPRESSED_SENTINEL" "Ljava/util/List;")]
def tr_dc : List Cond := [.castable tr_X tr_X, .castable tr_A tr_A, .declares ⟨"java/lang/RuntimeException", "<init>", "(Ljava/lang/String;)V"⟩, .declares ⟨"java/lang/Exception", "<init>", "(Ljava/lang/String;)V"⟩, .declares ⟨"java/lang/Throwable", "<init>", "(Ljava/lang/String;)V"⟩]
theorem tr_wX : ∀ a ∈ Bundle.ownAtoms "SyntaxRows" 77 tr_X tr_up, (a ∈ lw_tbl ∧ goodWord a = true) ∨ a ∈ tr_sp ++ tr_dc := by decide +kernel
theorem tr_wA : ∀ a ∈ Bundle.ownAtoms "SyntaxRows" 52 tr_A tr_up, (a ∈ lw_tbl ∧ goodWord a = true) ∨ a ∈ tr_sp ++ tr_dc := by decide +kernel
theorem tr_dc_in : ∀ a ∈ tr_dc, a ∈ lw_tbl := by decide +kernel
theorem tr_sp_in : (Cond.laysStatic "java/lang/Throwable" "UNASSIGNED_STACK" "[Ljava/lang/StackTraceElement;") ∈ lw_tbl ∧ (Cond.laysStatic "java/lang/Throwable" "SUPPRESSED_SENTINEL" "Ljava/util/List;") ∈ lw_tbl := by decide +kernel
theorem tr_cl : ((Cond.classLink "SyntaxRows" 73 tr_X) ∈ lw_tbl ∧ goodWord (Cond.classLink "SyntaxRows" 73 tr_X) = true) ∧ ((Cond.classLink "SyntaxRows" 48 tr_A) ∈ lw_tbl ∧ goodWord (Cond.classLink "SyntaxRows" 48 tr_A) = true) ∧ ((Cond.initialized tr_X) ∈ lw_tbl ∧ goodWord (Cond.initialized tr_X) = true) ∧ ((Cond.initialized tr_A) ∈ lw_tbl ∧ goodWord (Cond.initialized tr_A) = true) := by decide +kernel
section TRW
variable {p : Program} {l : Launch} {e : Env} {R : Room} {s : State} {m : MethodId} {args : Array Value} {below : List Frame} {meth : Method} {c : Code} {cc : ByteArray}
/-- how a method ends that throws a new exception of class X: nothing old has changed -/
def tr_Q (X : String) (below : List Frame) (s : State) (U : State) : Prop := U.status = .running ∧ Ended U below (.threw s.heap.size) ∧ s.WarmedH U.vm ∧ s.sameButNew ({ U with vm := s.vm } : State) [] 1 6 ∧ ∃ ce : Cell, U.heap[s.heap.size]? = some ce ∧ ce.vm = .none ∧ s.vm.findClass X = some ce.cls
set_option maxHeartbeats 1000000 in
theorem tr_W (hx : p.tables.exec = Jvm.exec) (htr : e.platform.stackTraces = false) (hb : c.code = cc) {X tx : String} {ic ik is q pc : Nat} {ls : Array Slot} (hown : s.vm.findClass "SyntaxRows" = some m.cls) (hfit : Bundle.fit X = true) (hat : ∀ a ∈ Bundle.ownAtoms "SyntaxRows" ic X tr_up, a.before args s = true)
    (hcl : (Cond.classLink "SyntaxRows" ik X).before args s = true) (hini : (Cond.initialized X).before args s = true) (hZ : vk_R "SyntaxRows" is tx q s) (hout : ∀ (n : Nat), ∀ y ∈ c.exceptionTable.toList, covers y n = false) (hls : ls.size = c.maxLocals)
    (d0 : decode cc pc = .ok (.new ik, 3)) (d3 : decode cc (pc + 3) = .ok (.dup, 1)) (d4 : decode cc (pc + 4) = .ok (.ldc is, 2)) (d6 : decode cc (pc + 6) = .ok (.invokespecial ic, 3)) (d9 : decode cc (pc + 9) = .ok (.athrow, 1)) (hlocks : meth.locks = false)
    (hR1 : 6 ≤ R.frames) (hR2 : 200 ≤ R.locals) (hR3 : 1 ≤ R.cells) (hR4 : 6 ≤ R.slots) : W p l e R s m args below meth c s.heap [] 0 0 (tr_Q X below s) (F0 m pc ls []) := by
  intro T hT X₀
  obtain ⟨vm₁, cX, kX, hfX, hkX, -, -, X₁, st1⟩ := X₀.newCold hx (own := "SyntaxRows") (C := X) (index := ik) (n := 6) hown hcl (hat (.instantiable X 6) (by simp [Bundle.ownAtoms])) hini (g := F0 m pc ls []) rfl (by rw [hb]; exact d0) (by omega) (by omega)
  have hsz : T.heap.size = s.heap.size := by rw [hT]
  generalize hT1 : (T.setVm vm₁).pushCell { cls := cX, slots := kX.instanceTypes.map defaultValue, vm := .none } = T1 at X₁ st1
  have hcellA : T1.heap[T.heap.size]? = some (freshCell cX kX) := by rw [← hT1]; exact State.heap_pushCell_size _ _
  have k1 : W p l e R s m args below meth c T1.heap [] (0 + 1) (0 + 6) (tr_Q X below s) (F0 m (pc + 3) ls [.ref T.heap.size]) := by
    refine lv_dup hx hb d3 rfl ?_
    refine va_ldcS hx hb hown hZ d4 ?_
    intro T2 hT2 X2
    obtain ⟨U, hsteps, hrun, hend, hW, hsame, ce, hce, K⟩ := X2.ctorThrowS hx htr (own := "SyntaxRows") (cls := X) (names := tr_up) (ic := ic) hown hfit (by decide +kernel) hat (fun y hy => by cases hy) hfX hkX (by rw [hT2]; exact hcellA) (by omega) (msg := .ref q) rfl
      (g := F0 m (pc + 6) ls [.ref q, .ref T.heap.size, .ref T.heap.size]) rfl hls rfl rfl (rest := []) rfl (by rw [hb]; exact d6) (by rw [hb]; exact d9) (hout _) (by simp [tr_up]; omega) (by simp [tr_up, Value.category]; omega)
    exact ⟨U, hsteps, hrun, by rw [← hsz]; exact hend, hW, hsame, ce, by rw [← hsz]; exact hce, K.vm, K.cls⟩
  obtain ⟨t, a1, a2⟩ := k1 T1 rfl X₁
  exact ⟨t, st1 _ a1, a2⟩
end TRW
