/-! METHODS of the abstract machine: a descriptor (name, code, locals, return type, class number, number of parameters, decoded code), its contract am_Mt, a point within it am_Rn, and the rules -/
abbrev am_M : Type := MethodName × ByteArray × Nat × Option FieldType × Nat × Nat × (Nat → Option (Instr × Nat))
abbrev am_y (M : am_M) : MethodName := M.1
abbrev am_b (M : am_M) : ByteArray := M.2.1
abbrev am_ml (M : am_M) : Nat := M.2.2.1
abbrev am_rt (M : am_M) : Option FieldType := M.2.2.2.1
abbrev am_co (M : am_M) : Nat := M.2.2.2.2.1
abbrev am_np (M : am_M) : Nat := M.2.2.2.2.2.1
abbrev am_tb (M : am_M) : Nat → Option (Instr × Nat) := M.2.2.2.2.2.2
def am_cw (M : am_M) : Cond := .code (am_y M) (am_b M) (am_ml M) (am_rt M)
def am_ok (M : am_M) : Prop := am_dok (am_b M) (am_tb M) ∧ am_cw M ∈ lw_g ∧ Cond.initialized (am_y M).cls ∈ lw_g ∧ plainName (am_y M).cls = true ∧ ((am_y M).cls ≠ "java/lang/invoke/MethodHandle" ∧ (am_y M).cls ≠ "java/lang/invoke/VarHandle" ∧ (parseMethodDescriptor (am_y M).desc).map (fun d => d.parameters.length) = some (am_np M)) ∧ pr_cn (am_co M) = (am_y M).cls ∧ am_ml M ≤ 21
def am_inst (M : am_M) : Prop := Cond.instanceMethod (am_y M) ∈ lw_g ∧ Cond.selects (am_y M).cls (am_y M) (am_y M) ∈ lw_g
def am_stat (M : am_M) : Prop := Cond.static (am_y M) ∈ lw_g
/-- the cells that a method may change: those of its world, and new ones -/
def am_A (ad : Nat → Nat) (n sz : Nat) : Nat → Prop := fun q => (∃ k, k < n ∧ q = ad k) ∨ sz ≤ q
theorem am_A_le {ad : Nat → Nat} {n sz sz' : Nat} (h : sz ≤ sz') : ∀ q, am_A ad n sz' q → am_A ad n sz q := fun q hq => hq.elim Or.inl (fun z => Or.inr (Nat.le_trans h z))
theorem am_ws_len {cA : Nat → ClassId} {ad : Nat → Nat} {w : am_W} : (am_ws cA ad w).length = w.length := by simp [am_ws]
theorem am_ws_in {cA : Nat → ClassId} {ad : Nat → Nat} {w : am_W} {k : Nat} {q : Nat × va_E} (h : (am_ws cA ad w)[k]? = some q) : k < w.length ∧ q.1 = ad k := by
  have hk : k < w.length := by
    have := (List.getElem?_eq_some_iff.mp h).1
    rwa [am_ws_len] at this
  refine ⟨hk, ?_⟩
  have h2 := am_ws_get (cA := cA) (ad := ad) (List.getElem?_eq_getElem hk)
  rw [h2] at h
  cases h
  rfl
theorem am_D_A {cA : Nat → ClassId} {ad : Nat → Nat} {w : am_W} {A : Nat → Prop} {sz : Nat} (h : va_D A (am_ws cA ad w)) : va_D (am_A ad w.length sz) (am_ws cA ad w) :=
  ⟨h.1, fun k q hk => Or.inl ⟨k, (am_ws_in hk).1, (am_ws_in hk).2⟩⟩
theorem am_K_to {ad : Nat → Nat} {fm : Value} {A A1 : Nat → Prop} {s U : State} (h : am_K ad fm A s) (hvm : s.vm.Alike U.vm) (hR : ∀ own k tx a, vk_R own k tx a s → vk_R own k tx a U) (hN : ∀ a i x b, va_Nw (.methodLinkNest a i x b) s → va_Nw (.methodLinkNest a i x b) U)
    (hq : ∀ a : Nat, a < s.heap.size → ¬ A a → U.heap[a]? = s.heap[a]?) (hA : ∀ q, A1 q → A q) : am_K ad fm A1 U := by
  obtain ⟨h1, h2, h3, h4⟩ := h
  refine ⟨fun i co idx tx bs hi => ?_, ((h2.kept hq).moved hvm).narrow hA, ((h3.kept hq).moved hvm).narrow hA, fun co idx y host hy => hN _ _ _ _ (h4 co idx y host hy)⟩
  obtain ⟨g1, g2, g3, g4, g5⟩ := h1 i co idx tx bs hi
  exact ⟨hR _ _ _ _ g1, ((g2.kept hq).moved hvm).narrow hA, ((g3.kept hq).moved hvm).narrow hA, ((g4.kept hq).moved hvm).narrow hA, ((g5.kept hq).moved hvm).narrow hA⟩
def am_rm (d : Nat) : Room := { frames := d, cells := 0, slots := 0, locals := 40 * d }
section AMD
variable (l : Launch) (D : va_G) (cA : Nat → ClassId) (ad : Nat → Nat) (fm : Value)
def am_Pc (As : List Value) (w : am_W) (sz : Nat) : Array Value → State → Prop := fun v U => v = (As.map (am_cv ad)).toArray ∧ U.heap.size = sz ∧ va_P D pr_cl (am_ws cA ad w) U.heap ∧ va_K D pr_cl (am_tys cA) U ∧ va_D (fun _ => True) (am_ws cA ad w) ∧ am_K ad fm (am_A ad w.length sz) U
def am_Qc (n sz : Nat) (post : Option Value → am_W → Prop) : Array Value → State → Outcome → State → Prop := fun _ st oc t => ∃ (v : Option Value) (w' : am_W), oc = .returned (v.map (am_cv ad)) ∧ post v w' ∧ w'.length = n ∧ va_P D pr_cl (am_ws cA ad w') t.heap ∧ va_D (am_A ad n sz) (am_ws cA ad w') ∧ va_F (am_A ad n sz) st t
/-- a method's contract: from args As and world w it returns, with an answer and a world of which post holds; d calls deep at most -/
def am_Mt (d : Nat) (M : am_M) (As : List Value) (w : am_W) (post : Option Value → am_W → Prop) : Prop :=
  ∀ sz : Nat, Met l (am_y M) (am_cw M :: lw_g) (am_rm d) (am_Pc D cA ad fm As w sz) (am_Qc D cA ad w.length sz post) 0 0 (am_A ad w.length sz)
/-- a point within a method -/
def am_Rn (d : Nat) (M : am_M) (n : Nat) (post : Option Value → am_W → Prop) (q : am_St) : Prop :=
  ∀ (p : Program) (e : Env) (R : Room) (s : State) (m : MethodId) (args : Array Value) (below : List Frame) (meth : Method) (c : Code), am_X D cA ad fm (am_co M) (am_b M) (am_ml M) p s m args c (am_A ad n s.heap.size) → meth.sig.returnType = am_rt M → meth.locks = false → d ≤ R.frames → 40 * d ≤ R.locals →
    am_G D cA ad (am_A ad n s.heap.size) p l e R s m args below meth c (am_ml M) 0 0 (MQ below (am_Qc D cA ad n s.heap.size post) args s 0 0 (am_A ad n s.heap.size)) q
end AMD
def am_arg : List Value → am_L
  | [] => []
  | v :: vs => if v.category = 2 then some v :: none :: am_arg vs else some v :: am_arg vs
def am_entry (nL : Nat) (As : List Value) : am_L := am_arg As ++ List.replicate (nL - (am_arg As).length) none
theorem am_arg_mem {ad : Nat → Nat} : ∀ (As : List Value) (i k : Nat) (v : Value), (am_arg As)[k]? = some (some v) → (i + k, am_cv ad v) ∈ lv_args i (As.map (am_cv ad))
  | [], i, k, v, h => by simp [am_arg] at h
  | u :: us, i, k, v, h => by
    unfold am_arg at h
    simp only [List.map_cons, lv_args, am_cv_cat]
    by_cases hc : u.category = 2
    · rw [if_pos hc] at h ⊢
      match k, h with
      | 0, h => simp at h; subst h; exact List.mem_cons_self
      | 1, h => simp at h
      | k + 2, h =>
        have h2 : (am_arg us)[k]? = some (some v) := by simpa using h
        have := am_arg_mem (ad := ad) us (i + 2) k v h2
        rw [show i + (k + 2) = i + 2 + k by omega]
        exact List.mem_cons_of_mem _ this
    · rw [if_neg hc] at h ⊢
      match k, h with
      | 0, h => simp at h; subst h; exact List.mem_cons_self
      | k + 1, h =>
        have h2 : (am_arg us)[k]? = some (some v) := by simpa using h
        have := am_arg_mem (ad := ad) us (i + 1) k v h2
        rw [show i + (k + 1) = i + 1 + k by omega]
        exact List.mem_cons_of_mem _ this
theorem am_arg_len {ad : Nat → Nat} : ∀ (As : List Value), (lg_sl (As.map (am_cv ad))).length = (am_arg As).length
  | [] => rfl
  | u :: us => by
    have ih := am_arg_len (ad := ad) us
    unfold lg_sl at ih ⊢
    unfold am_arg
    simp only [List.map_cons, List.flatMap_cons, List.length_append, am_cv_cat]
    by_cases hc : u.category = 2
    · simp only [hc, if_true]
      simp only [List.length_cons, List.length_nil]
      omega
    · simp only [hc, if_false]
      simp only [List.length_cons, List.length_nil]
      omega
theorem am_entry_has {ad : Nat → Nat} {As : List Value} {nL : Nat} (h : (am_arg As).length ≤ nL) : lv_has ((lg_sl (As.map (am_cv ad)) ++ List.replicate (nL - (lg_sl (As.map (am_cv ad))).length) Slot.unset).toArray) nL (am_lv ad (am_entry nL As)) := by
  refine am_has_mono (lv_entry (As.map (am_cv ad)) (n := nL) (by rw [am_arg_len]; exact h)) (fun q hq => ?_)
  obtain ⟨v, h1, h2⟩ := am_lv_mem.mp hq
  have h3 : (am_arg As)[q.1]? = some (some v) := by
    unfold am_entry at h1
    rw [List.getElem?_append] at h1
    split at h1
    · exact h1
    · rw [List.getElem?_replicate] at h1
      split at h1 <;> simp at h1
  have := am_arg_mem (ad := ad) As 0 q.1 v h3
  rw [Nat.zero_add, ← h2] at this
  exact this
section AMR
variable {l : Launch} {D : va_G} {cA : Nat → ClassId} {ad : Nat → Nat} {fm : Value} {d n : Nat} {M : am_M} {post : Option Value → am_W → Prop}
/-- a method's contract out of the walk of its body -/
theorem am_mt {As : List Value} {w : am_W} (hM : am_ok M) (hA : (am_arg As).length ≤ am_ml M) (h : am_Rn l D cA ad fm d M w.length post (0, am_entry (am_ml M) As, [], w)) : am_Mt l D cA ad fm d M As w post := by
  obtain ⟨h1, h2, h3, h4, h5, h6, h7⟩ := hM
  intro sz
  refine Met.ofW (cc := am_b M) (maxL := am_ml M) (ret := am_rt M) h4 rfl ?_
  intro p e s m args below meth c s₁ B hml hv
  obtain ⟨rfl, hsz, hP, hK, hD, hKn⟩ := hv
  subst hsz
  have hts := atoms_spec (ws := am_cw M :: lw_g) B.pre
  have hown : s.vm.findClass (pr_cn (am_co M)) = some m.cls := by rw [h6]; exact findClass_of_methodNamed B.named
  rw [lg_entry_eq]
  exact h p e _ s m _ below meth c ⟨B.exec, B.bytes, hml, hown, fun w hw => hts w (List.mem_cons_of_mem _ hw), hK, hKn, fun q hq => Or.inr hq⟩ B.returns B.notSynchronized (Nat.le_refl _) (Nat.le_refl _) s.heap [] _ hP (am_D_A hD) va_S.rf (am_entry_has hA)
theorem am_steps_r (hM : am_ok M) (k : Nat) {q q' : am_St} (h : am_steps (am_co M) (am_ml M) (am_tb M) k q = some q') (r : am_Rn l D cA ad fm d M n post q') : am_Rn l D cA ad fm d M n post q :=
  fun p e R s m args below meth c hX hr hk hf hl => am_g_steps hX hM.1 k h (r p e R s m args below meth c hX hr hk hf hl)
theorem am_br_r {b : Prop} [Decidable b] {t f : Nat} {L : am_L} {S : List Value} {w : am_W} (kt : b → am_Rn l D cA ad fm d M n post (t, L, S, w)) (kf : ¬ b → am_Rn l D cA ad fm d M n post (f, L, S, w)) : am_Rn l D cA ad fm d M n post (bif decide b then t else f, L, S, w) := by
  by_cases hb : b
  · rw [decide_eq_true hb]; exact kt hb
  · rw [decide_eq_false hb]; exact kf hb
theorem am_less_r {pc : Nat} {L : am_L} (L' : am_L) {S : List Value} {w : am_W} (hl : am_less L' L) (r : am_Rn l D cA ad fm d M n post (pc, L', S, w)) : am_Rn l D cA ad fm d M n post (pc, L, S, w) :=
  fun p e R s m args below meth c hX hr hk hf hlo => am_g_less hl (r p e R s m args below meth c hX hr hk hf hlo)
theorem am_eq_r {q q' : am_St} (e : q = q') (r : am_Rn l D cA ad fm d M n post q') : am_Rn l D cA ad fm d M n post q := e ▸ r
/-- returns -/
theorem am_iret_r (hM : am_ok M) {pc : Nat} {L : am_L} {x : Int32} {w : am_W} (ht : am_tb M pc = some (.ireturn, 1)) (hr : am_rt M = some .int) (hn : w.length = n) (hp : post (some (.int x)) w) : am_Rn l D cA ad fm d M n post (pc, L, [.int x], w) := by
  intro p e R s m args below meth c hX hr' hk hf hl H locs ls hP hD hS hlv
  obtain ⟨hx, hb, hml, hown, hts, hK, hKn, hA⟩ := hX
  exact W.iret hx hb (hr'.trans hr) (fun t ht' hW => ⟨some (.int x), w, rfl, hp, hn, by rw [ht']; exact hP, hD, hS.F ht'⟩) hS.2.2 (hM.1 _ _ ht) hk
theorem am_zret_r (hM : am_ok M) {ty : FieldType} {pc : Nat} {L : am_L} {x : Int32} {w : am_W} (ht : am_tb M pc = some (.ireturn, 1)) (hr : am_rt M = some ty) (hz : narrow ty (.int x) = .int x) (hn : w.length = n) (hp : post (some (.int x)) w) : am_Rn l D cA ad fm d M n post (pc, L, [.int x], w) := by
  intro p e R s m args below meth c hX hr' hk hf hl H locs ls hP hD hS hlv
  obtain ⟨hx, hb, hml, hown, hts, hK, hKn, hA⟩ := hX
  exact W.zret hx hb (hr'.trans hr) hz (fun t ht' hW => ⟨some (.int x), w, rfl, hp, hn, by rw [ht']; exact hP, hD, hS.F ht'⟩) hS.2.2 (hM.1 _ _ ht) hk
theorem am_lret_r (hM : am_ok M) {pc : Nat} {L : am_L} {x : Int64} {w : am_W} (ht : am_tb M pc = some (.lreturn, 1)) (hr : am_rt M = some .long) (hn : w.length = n) (hp : post (some (.long x)) w) : am_Rn l D cA ad fm d M n post (pc, L, [.long x], w) := by
  intro p e R s m args below meth c hX hr' hk hf hl H locs ls hP hD hS hlv
  obtain ⟨hx, hb, hml, hown, hts, hK, hKn, hA⟩ := hX
  exact W.lret hx hb (hr'.trans hr) (fun t ht' hW => ⟨some (.long x), w, rfl, hp, hn, by rw [ht']; exact hP, hD, hS.F ht'⟩) hS.2.2 (hM.1 _ _ ht) hk
theorem am_vret_r (hM : am_ok M) {pc : Nat} {L : am_L} {w : am_W} (ht : am_tb M pc = some (.return_, 1)) (hr : am_rt M = none) (hn : w.length = n) (hp : post none w) : am_Rn l D cA ad fm d M n post (pc, L, [], w) := by
  intro p e R s m args below meth c hX hr' hk hf hl H locs ls hP hD hS hlv
  obtain ⟨hx, hb, hml, hown, hts, hK, hKn, hA⟩ := hX
  exact W.vret hx hb (hr'.trans hr) (fun t ht' hW => ⟨none, w, rfl, hp, hn, by rw [ht']; exact hP, hD, hS.F ht'⟩) hS.2.2 (hM.1 _ _ ht) hk
/-- arrays -/
theorem am_iald_r (hM : am_ok M) {pc a t N : Nat} {f : Nat → Int32} {i : Int32} {L : am_L} {S : List Value} {w : am_W} (ht : am_tb M pc = some (.iaload, 1)) (hw : w[a]? = some (.inl (t, N, .inl f))) (hty : pr_ety[t]? = some .int) (hin : vp_in i N) (r : am_Rn l D cA ad fm d M n post (pc + 1, L, .int (f i.toNatClampNeg) :: S, w)) : am_Rn l D cA ad fm d M n post (pc, L, .int i :: .ref a :: S, w) := by
  intro p e R s m args below meth c hX hr' hk hf hl H locs ls hP hD hS hlv
  have hX0 := hX
  obtain ⟨hx, hb, hml, hown, hts, hK, hKn, hA⟩ := hX0
  exact va_iald hx hb hK hP a t (am_ws_get hw) (am_tys_get hty) hin (hM.1 _ _ ht) (r p e R s m args below meth c hX hr' hk hf hl H locs ls hP hD hS hlv)
theorem am_bald_r (hM : am_ok M) {pc a t N : Nat} {f : Nat → Int32} {i : Int32} {L : am_L} {S : List Value} {w : am_W} (ht : am_tb M pc = some (.baload, 1)) (hw : w[a]? = some (.inl (t, N, .inl f))) (hty : pr_ety[t]? = some .byte) (hin : vp_in i N) (r : am_Rn l D cA ad fm d M n post (pc + 1, L, .int (f i.toNatClampNeg) :: S, w)) : am_Rn l D cA ad fm d M n post (pc, L, .int i :: .ref a :: S, w) := by
  intro p e R s m args below meth c hX hr' hk hf hl H locs ls hP hD hS hlv
  have hX0 := hX
  obtain ⟨hx, hb, hml, hown, hts, hK, hKn, hA⟩ := hX0
  exact va_bald hx hb hK hP a t (am_ws_get hw) (am_tys_get hty) hin (hM.1 _ _ ht) (r p e R s m args below meth c hX hr' hk hf hl H locs ls hP hD hS hlv)
theorem am_lald_r (hM : am_ok M) {pc a t N : Nat} {f : Nat → Int64} {i : Int32} {L : am_L} {S : List Value} {w : am_W} (ht : am_tb M pc = some (.laload, 1)) (hw : w[a]? = some (.inl (t, N, .inr (.inl f)))) (hty : pr_ety[t]? = some .long) (hin : vp_in i N) (r : am_Rn l D cA ad fm d M n post (pc + 1, L, .long (f i.toNatClampNeg) :: S, w)) : am_Rn l D cA ad fm d M n post (pc, L, .int i :: .ref a :: S, w) := by
  intro p e R s m args below meth c hX hr' hk hf hl H locs ls hP hD hS hlv
  have hX0 := hX
  obtain ⟨hx, hb, hml, hown, hts, hK, hKn, hA⟩ := hX0
  exact va_lald hx hb hK hP a t (am_ws_get hw) (am_tys_get hty) hin (hM.1 _ _ ht) (r p e R s m args below meth c hX hr' hk hf hl H locs ls hP hD hS hlv)
theorem am_iast_r (hM : am_ok M) {pc a t N : Nat} {f : Nat → Int32} {i x : Int32} {L : am_L} {S : List Value} {w : am_W} (ht : am_tb M pc = some (.iastore, 1)) (hw : w[a]? = some (.inl (t, N, .inl f))) (hty : pr_ety[t]? = some .int) (hin : vp_in i N) (r : am_Rn l D cA ad fm d M n post (pc + 1, L, S, w.set a (.inl (t, N, .inl (upd f i.toNatClampNeg x))))) : am_Rn l D cA ad fm d M n post (pc, L, .int x :: .int i :: .ref a :: S, w) := by
  intro p e R s m args below meth c hX hr' hk hf hl H locs ls hP hD hS hlv
  have hX0 := hX
  obtain ⟨hx, hb, hml, hown, hts, hK, hKn, hA⟩ := hX0
  refine va_iast hx hb hK hP hD hS a t (am_ws_get hw) (am_tys_get hty) hin (hM.1 _ _ ht) (fun H1 locs1 hP1 hD1 hS1 => ?_)
  have e5 : (am_ws cA ad w).set a (ad a, .inl (cA t, N, .inl (upd f i.toNatClampNeg x))) = am_ws cA ad (w.set a (.inl (t, N, .inl (upd f i.toNatClampNeg x)))) := am_ws_set (x := .inl (t, N, .inl (upd f i.toNatClampNeg x)))
  rw [e5] at hP1 hD1
  exact r p e R s m args below meth c hX hr' hk hf hl H1 locs1 ls hP1 hD1 hS1 hlv
theorem am_bast_r (hM : am_ok M) {pc a t N : Nat} {f : Nat → Int32} {i x : Int32} {L : am_L} {S : List Value} {w : am_W} (ht : am_tb M pc = some (.bastore, 1)) (hw : w[a]? = some (.inl (t, N, .inl f))) (hty : pr_ety[t]? = some .byte) (hin : vp_in i N) (r : am_Rn l D cA ad fm d M n post (pc + 1, L, S, w.set a (.inl (t, N, .inl (upd f i.toNatClampNeg (vp_nar .byte x)))))) : am_Rn l D cA ad fm d M n post (pc, L, .int x :: .int i :: .ref a :: S, w) := by
  intro p e R s m args below meth c hX hr' hk hf hl H locs ls hP hD hS hlv
  have hX0 := hX
  obtain ⟨hx, hb, hml, hown, hts, hK, hKn, hA⟩ := hX0
  refine va_bast hx hb hK hP hD hS a t (am_ws_get hw) (am_tys_get hty) hin (hM.1 _ _ ht) (fun H1 locs1 hP1 hD1 hS1 => ?_)
  have e5 : (am_ws cA ad w).set a (ad a, .inl (cA t, N, .inl (upd f i.toNatClampNeg (vp_nar .byte x)))) = am_ws cA ad (w.set a (.inl (t, N, .inl (upd f i.toNatClampNeg (vp_nar .byte x))))) := am_ws_set (x := .inl (t, N, .inl (upd f i.toNatClampNeg (vp_nar .byte x))))
  rw [e5] at hP1 hD1
  exact r p e R s m args below meth c hX hr' hk hf hl H1 locs1 ls hP1 hD1 hS1 hlv
theorem am_last_r (hM : am_ok M) {pc a t N : Nat} {f : Nat → Int64} {i : Int32} {x : Int64} {L : am_L} {S : List Value} {w : am_W} (ht : am_tb M pc = some (.lastore, 1)) (hw : w[a]? = some (.inl (t, N, .inr (.inl f)))) (hty : pr_ety[t]? = some .long) (hin : vp_in i N) (r : am_Rn l D cA ad fm d M n post (pc + 1, L, S, w.set a (.inl (t, N, .inr (.inl (vp_updL f i.toNatClampNeg x)))))) : am_Rn l D cA ad fm d M n post (pc, L, .long x :: .int i :: .ref a :: S, w) := by
  intro p e R s m args below meth c hX hr' hk hf hl H locs ls hP hD hS hlv
  have hX0 := hX
  obtain ⟨hx, hb, hml, hown, hts, hK, hKn, hA⟩ := hX0
  refine va_last hx hb hK hP hD hS a t (am_ws_get hw) (am_tys_get hty) hin (hM.1 _ _ ht) (fun H1 locs1 hP1 hD1 hS1 => ?_)
  have e5 : (am_ws cA ad w).set a (ad a, .inl (cA t, N, .inr (.inl (vp_updL f i.toNatClampNeg x)))) = am_ws cA ad (w.set a (.inl (t, N, .inr (.inl (vp_updL f i.toNatClampNeg x))))) := am_ws_set (x := .inl (t, N, .inr (.inl (vp_updL f i.toNatClampNeg x))))
  rw [e5] at hP1 hD1
  exact r p e R s m args below meth c hX hr' hk hf hl H1 locs1 ls hP1 hD1 hS1 hlv
end AMR
