/-! CALLS of the abstract machine -/
section AMC
variable {l : Launch} {D : va_G} {cA : Nat → ClassId} {ad : Nat → Nat} {fm : Value}
theorem am_blind {As : List Value} {w : am_W} {sz : Nat} : FrameBlind (am_Pc D cA ad fm As w sz) := by
  intro a U g mk q
  obtain ⟨q0, q1, qP, qK, qD, qN⟩ := q
  exact ⟨q0, q1, qP, va_K.moved (u := U) (U := U.calling g mk a) (Vm.Alike.refl U.vm) qK, qD, am_K_to (s := U) (U := U.calling g mk a) qN (Vm.Alike.refl U.vm) (fun _ _ _ _ h => vk_R.same rfl h) (fun _ _ _ _ h => va_Nw.same rfl rfl h) (fun _ _ _ => rfl) (fun _ h => h)⟩
theorem am_pre {s U : State} {H : Heap} {locs : List Loc} {As : List Value} {w : am_W} {n : Nat} (hn : w.length = n) (hK : va_K D pr_cl (am_tys cA) s) (hKn : am_K ad fm (am_A ad n s.heap.size) s) (hP : va_P D pr_cl (am_ws cA ad w) H) (hD : va_D (am_A ad n s.heap.size) (am_ws cA ad w)) (hS : va_S (am_A ad n s.heap.size) s.heap H locs) (hU : U.heap = H) (hW : s.WarmedH U.vm) : am_Pc D cA ad fm As w H.size (As.map (am_cv ad)).toArray U := by
  subst hn
  refine ⟨rfl, by rw [hU], by rw [hU]; exact hP, va_K.moved hW.alike hK, hD.weaken (fun _ _ _ _ => trivial), ?_⟩
  refine am_K_to hKn hW.alike (fun _ _ _ _ h => h.warm hW) (fun _ _ _ _ h => h.warmM hW) (fun a h1 h2 => by rw [hU]; exact hS.2.1 a h1 h2) (am_A_le hS.1)
variable {p : Program} {e : Env} {R : Room} {s : State} {m : MethodId} {args : Array Value} {below : List Frame} {meth : Method} {c : Code} {cells slots : Nat} {Q : State → Prop} {H : Heap} {locs : List Loc} {n : Nat}
theorem am_go {pc : Nat} {ls : Array Slot} {st0 rest : List Value} {a : Array Value} {post : Option Value → am_W → Prop} (hr : va_Run p l e R s m args below meth c H locs cells slots 0 0 (F0 m pc ls st0) rest (am_Qc D cA ad n H.size post a) (am_A ad n H.size)) (hS : va_S (am_A ad n s.heap.size) s.heap H locs)
    (kk : ∀ (v : Option Value) (w' : am_W) (H1 : Heap) (locs1 : List Loc), post v w' → w'.length = n → va_P D pr_cl (am_ws cA ad w') H1 → va_D (am_A ad n s.heap.size) (am_ws cA ad w') → va_S (am_A ad n s.heap.size) s.heap H1 locs1 → W p l e R s m args below meth c H1 locs1 cells slots Q (F0 m (pc + 3) ls ((v.map (am_cv ad)).toList ++ rest))) : W p l e R s m args below meth c H locs cells slots Q (F0 m pc ls st0) := by
  intro T hT X
  obtain ⟨v0, st₀, t, T', L, h0, X', hL, e1, e2, ⟨v, w', hv, hp, hn, hP, hD, hz, hk⟩, st⟩ := hr T hT X
  cases hv
  rw [h0] at hz hk
  have hAA := am_A_le (ad := ad) (n := n) hS.1
  obtain ⟨t2, a1, b1⟩ := kk v w' T'.heap (locs ++ L) hp hn (by rw [e1]; exact hP) (hD.weaken (fun _ q _ h => hAA q.1 h))
    ⟨Nat.le_trans hS.1 (by rw [e1]; exact hz), fun q h1 h2 => by rw [e1, hk q (Nat.lt_of_lt_of_le h1 hS.1) (fun z => h2 (hAA q z))]; exact hS.2.1 q h1 h2, fun q hq => by
      rcases List.mem_append.mp hq with h | h
      · exact hS.2.2 q h
      · exact hAA _ (hL q h)⟩ T' rfl X'
  exact ⟨t2, st t2 a1, b1⟩
variable {co nL pc idx d : Nat} {cc : ByteArray} {M' : am_M} {L : am_L} {As rest : List Value} {w : am_W} {a : Nat} {post' : Option Value → am_W → Prop}
theorem am_gin {ws : List Cond} (h : ∀ x ∈ ws, x ∈ lw_g) : GoodIn lw_g ws := fun x hx => ⟨h x hx, am_good x (h x hx)⟩
/-- receivers: an object of the world, or a text -/
def am_rcv (w : am_W) (a : Nat) (C : String) : Prop := (∃ (ci : Nat) (fs : List Value) (q : vw_C), w[a]? = some (.inr (ci, fs)) ∧ pr_cl[ci]? = some q ∧ q.1 = C) ∨ (C = "java/lang/String" ∧ ∃ (i : Nat) (x : Nat × Nat × String × List Int32), a = 1000 + i ∧ pr_st[i]? = some x)
theorem am_rcv_at {C : String} (h : am_rcv w a C) (hK : va_K D pr_cl (am_tys cA) s) (hKn : am_K ad fm (am_A ad n s.heap.size) s) (hP : va_P D pr_cl (am_ws cA ad w) H) (hS : va_S (am_A ad n s.heap.size) s.heap H locs) : ∃ cell : Cell, H[ad a]? = some cell ∧ cell.vm.isStatics = false ∧ s.vm.findClass C = some cell.cls := by
  rcases h with ⟨ci, fs, q, h1, h2, rfl⟩ | ⟨rfl, i, ⟨co, idx, tx, bs⟩, rfl, h1⟩
  · exact va_recv hK hP h2 (am_ws_get h1)
  · obtain ⟨cell, g1, g2, g3, -⟩ := (hKn.1 _ _ _ _ _ h1).2.1.kept hS.2.1
    exact ⟨cell, g1, g2, g3⟩
theorem am_cat_sum : (rest.map (am_cv ad)).map (fun v => v.category) = rest.map (fun v => v.category) := by
  simp [List.map_map, Function.comp_def, am_cv_cat]
theorem am_g_callV (hX : am_X D cA ad fm co cc nL p s m args c (am_A ad n s.heap.size)) (hdec : decode cc pc = .ok (.invokevirtual idx, 3)) (hM' : am_ok M') (hi : am_inst M') (hlk : Cond.methodLink (pr_cn co) idx (am_y M') ∈ lw_g) (hrc : am_rcv w a (am_y M').cls) (hMt : am_Mt l D cA ad fm d M' (.ref a :: As) w post') (hlen : As.length = am_np M') (hn : w.length = n) (hd : d + 1 ≤ R.frames) (hlo : 40 * (d + 1) ≤ R.locals) (hcs : cells ≤ R.cells ∧ slots ≤ R.slots) (hrs : (rest.map fun v => v.category).sum ≤ 8)
    (k : ∀ (v : Option Value) (w' : am_W), post' v w' → w'.length = n → am_G D cA ad (am_A ad n s.heap.size) p l e R s m args below meth c nL cells slots Q (pc + 3, L, v.toList ++ rest, w')) : am_G D cA ad (am_A ad n s.heap.size) p l e R s m args below meth c nL cells slots Q (pc, L, As.reverse ++ .ref a :: rest, w) := by
  intro H locs ls hP hD hS hl
  obtain ⟨hx, hb, hml, hown, hts, hK, hKn, hA⟩ := hX
  obtain ⟨m1, m2, m3, m4, m5, m6, m7⟩ := hM'
  have cw : CallW R s args (pr_cn co) (am_y M').cls idx (am_y M') (am_b M') (am_ml M') (am_rt M') (am_cw M' :: lw_g) (am_rm d) 0 0 (am_np M') :=
    cwV (Ts := lw_g) (am_np M') hts (am_gin (fun x hx => by
      rcases List.mem_append.mp hx with h | h
      · simp only [List.mem_cons, List.not_mem_nil, or_false] at h
        rcases h with rfl | rfl | rfl | rfl
        · exact hlk
        · exact hi.1
        · exact hi.2
        · exact m3
      · rcases List.mem_cons.mp h with rfl | h
        · exact m2
        · exact h)) rfl rfl rfl ⟨rfl, m5⟩ ⟨hd, by show 8 + (am_ml M' + 11) + 40 * d ≤ R.locals; omega⟩
  have e1 : (As.reverse ++ .ref a :: rest).map (am_cv ad) = (As.map (am_cv ad)).reverse ++ .ref (ad a) :: rest.map (am_cv ad) := by simp [am_cv]
  have hMt' := hMt H.size
  rw [hn] at hMt'
  have run := va_runV (l := l) (e := e) (below := below) (meth := meth) (cells := cells) (slots := slots) (locs := locs) (g := F0 m pc ls ((As.map (am_cv ad)).reverse ++ .ref (ad a) :: rest.map (am_cv ad))) (rest := rest.map (am_cv ad)) (As := As.map (am_cv ad)) (b := ad a) (Ts := lw_g) ⟨hx, hb, hml, hown, hts⟩ hMt' cw ⟨am_blind, am_rcv_at hrc hK hKn hP hS, fun U hU hW => am_pre (As := .ref a :: As) hn hK hKn hP hD hS hU hW⟩ rfl (by rw [List.length_map]; exact hlen) hl.1 rfl (lv_room (by rw [am_cat_sum]; exact hrs)) hdec hcs
  show W p l e R s m args below meth c H locs cells slots Q (F0 m pc ls ((As.reverse ++ .ref a :: rest).map (am_cv ad)))
  rw [e1]
  refine am_go run hS (fun v w' H1 locs1 hp hn' hP1 hD1 hS1 => ?_)
  have := k v w' hp hn' H1 locs1 ls hP1 hD1 hS1 hl
  have e2 : (v.toList ++ rest).map (am_cv ad) = (v.map (am_cv ad)).toList ++ rest.map (am_cv ad) := by cases v <;> simp
  rw [← e2]
  exact this
theorem am_g_callS (hX : am_X D cA ad fm co cc nL p s m args c (am_A ad n s.heap.size)) (hdec : decode cc pc = .ok (.invokestatic idx, 3)) (hM' : am_ok M') (hi : am_stat M') (hlk : Cond.methodLink (pr_cn co) idx (am_y M') ∈ lw_g) (hMt : am_Mt l D cA ad fm d M' As w post') (hlen : As.length = am_np M') (hn : w.length = n) (hd : d + 1 ≤ R.frames) (hlo : 40 * (d + 1) ≤ R.locals) (hcs : cells ≤ R.cells ∧ slots ≤ R.slots) (hrs : (rest.map fun v => v.category).sum ≤ 8)
    (k : ∀ (v : Option Value) (w' : am_W), post' v w' → w'.length = n → am_G D cA ad (am_A ad n s.heap.size) p l e R s m args below meth c nL cells slots Q (pc + 3, L, v.toList ++ rest, w')) : am_G D cA ad (am_A ad n s.heap.size) p l e R s m args below meth c nL cells slots Q (pc, L, As.reverse ++ rest, w) := by
  intro H locs ls hP hD hS hl
  obtain ⟨hx, hb, hml, hown, hts, hK, hKn, hA⟩ := hX
  obtain ⟨m1, m2, m3, m4, m5, m6, m7⟩ := hM'
  have cb : CallB R s args (pr_cn co) idx (am_y M') (am_b M') (am_ml M') (am_rt M') (am_cw M' :: lw_g) (am_rm d) 0 0 (am_np M') :=
    callB_of (Ts := lw_g) (am_np M') hts (am_gin (fun x hx => by
      rcases List.mem_cons.mp hx with rfl | h
      · exact m2
      · exact h)) rfl rfl rfl (hts _ m3) (hts _ hlk) m5 ⟨hd, by show 8 + (am_ml M' + 11) + 40 * d ≤ R.locals; omega⟩
  have e1 : (As.reverse ++ rest).map (am_cv ad) = (As.map (am_cv ad)).reverse ++ rest.map (am_cv ad) := by simp
  have hMt' := hMt H.size
  rw [hn] at hMt'
  have run := va_runS (l := l) (e := e) (below := below) (meth := meth) (cells := cells) (slots := slots) (locs := locs) (g := F0 m pc ls ((As.map (am_cv ad)).reverse ++ rest.map (am_cv ad))) (rest := rest.map (am_cv ad)) (As := As.map (am_cv ad)) (Ts := lw_g) ⟨hx, hb, hml, hown, hts⟩ hMt' ⟨cb, hts _ hi⟩ ⟨am_blind, fun U hU hW => am_pre hn hK hKn hP hD hS hU hW⟩ rfl (by rw [List.length_map]; exact hlen) hl.1 rfl (lv_room (by rw [am_cat_sum]; exact hrs)) hdec hcs
  show W p l e R s m args below meth c H locs cells slots Q (F0 m pc ls ((As.reverse ++ rest).map (am_cv ad)))
  rw [e1]
  refine am_go run hS (fun v w' H1 locs1 hp hn' hP1 hD1 hS1 => ?_)
  have := k v w' hp hn' H1 locs1 ls hP1 hD1 hS1 hl
  have e2 : (v.toList ++ rest).map (am_cv ad) = (v.map (am_cv ad)).toList ++ rest.map (am_cv ad) := by cases v <;> simp
  rw [← e2]
  exact this
theorem am_g_callN (hX : am_X D cA ad fm co cc nL p s m args c (am_A ad n s.heap.size)) (hdec : decode cc pc = .ok (.invokestatic idx, 3)) (hM' : am_ok M') (hi : am_stat M') {host : String} (hlk : (co, idx, am_y M', host) ∈ pr_ns) (hMt : am_Mt l D cA ad fm d M' As w post') (hlen : As.length = am_np M') (hn : w.length = n) (hd : d + 1 ≤ R.frames) (hlo : 40 * (d + 1) ≤ R.locals) (hcs : cells ≤ R.cells ∧ slots ≤ R.slots) (hrs : (rest.map fun v => v.category).sum ≤ 8)
    (k : ∀ (v : Option Value) (w' : am_W), post' v w' → w'.length = n → am_G D cA ad (am_A ad n s.heap.size) p l e R s m args below meth c nL cells slots Q (pc + 3, L, v.toList ++ rest, w')) : am_G D cA ad (am_A ad n s.heap.size) p l e R s m args below meth c nL cells slots Q (pc, L, As.reverse ++ rest, w) := by
  intro H locs ls hP hD hS hl
  obtain ⟨hx, hb, hml, hown, hts, hK, hKn, hA⟩ := hX
  obtain ⟨m1, m2, m3, m4, m5, m6, m7⟩ := hM'
  have cb : va_CN R s args (pr_cn co) idx (am_y M') host (am_b M') (am_ml M') (am_rt M') (am_cw M' :: lw_g) (am_rm d) 0 0 (am_np M') :=
    va_cnB (Ts := lw_g) (am_np M') hts (am_gin (fun x hx => by
      rcases List.mem_cons.mp hx with rfl | h
      · exact m2
      · exact h)) rfl rfl rfl (hKn.2.2.2 _ _ _ _ hlk) (hts _ m3) m5 ⟨hd, by show 8 + (am_ml M' + 11) + 40 * d ≤ R.locals; omega⟩
  have e1 : (As.reverse ++ rest).map (am_cv ad) = (As.map (am_cv ad)).reverse ++ rest.map (am_cv ad) := by simp
  have hMt' := hMt H.size
  rw [hn] at hMt'
  have run := va_runSN (l := l) (e := e) (below := below) (meth := meth) (cells := cells) (slots := slots) (locs := locs) (g := F0 m pc ls ((As.map (am_cv ad)).reverse ++ rest.map (am_cv ad))) (rest := rest.map (am_cv ad)) (As := As.map (am_cv ad)) (Ts := lw_g) ⟨hx, hb, hml, hown, hts⟩ hMt' ⟨cb, hts _ hi, trivial⟩ ⟨am_blind, fun U hU hW => am_pre hn hK hKn hP hD hS hU hW⟩ rfl (by rw [List.length_map]; exact hlen) hl.1 rfl (lv_room (by rw [am_cat_sum]; exact hrs)) hdec hcs
  show W p l e R s m args below meth c H locs cells slots Q (F0 m pc ls ((As.reverse ++ rest).map (am_cv ad)))
  rw [e1]
  refine am_go run hS (fun v w' H1 locs1 hp hn' hP1 hD1 hS1 => ?_)
  have := k v w' hp hn' H1 locs1 ls hP1 hD1 hS1 hl
  have e2 : (v.toList ++ rest).map (am_cv ad) = (v.map (am_cv ad)).toList ++ rest.map (am_cv ad) := by cases v <;> simp
  rw [← e2]
  exact this
end AMC
section AMQ
variable {l : Launch} {D : va_G} {cA : Nat → ClassId} {ad : Nat → Nat} {fm : Value} {d n : Nat} {M M' : am_M} {post post' : Option Value → am_W → Prop} {pc idx a : Nat} {L : am_L} {As rest : List Value} {w : am_W}
/-- the rules of calls, within a method; st is the stack at the call -/
theorem am_callV_r {st : List Value} (hM : am_ok M) (ht : am_tb M pc = some (.invokevirtual idx, 3)) (hst : st = As.reverse ++ .ref a :: rest) (hM' : am_ok M') (hi : am_inst M') (hlk : Cond.methodLink (pr_cn (am_co M)) idx (am_y M') ∈ lw_g) (hrc : am_rcv w a (am_y M').cls) (hlen : As.length = am_np M') (hn : w.length = n) (hrs : (rest.map fun v => v.category).sum ≤ 8) (hMt : am_Mt l D cA ad fm d M' (.ref a :: As) w post')
    (k : ∀ (v : Option Value) (w' : am_W), post' v w' → w'.length = n → am_Rn l D cA ad fm (d + 1) M n post (pc + 3, L, v.toList ++ rest, w')) : am_Rn l D cA ad fm (d + 1) M n post (pc, L, st, w) := by
  subst hst
  intro p e R s m args below meth c hX hr hk hf hl
  exact am_g_callV hX (hM.1 _ _ ht) hM' hi hlk hrc hMt hlen hn hf hl ⟨Nat.zero_le _, Nat.zero_le _⟩ hrs (fun v w' hp hn' => k v w' hp hn' p e R s m args below meth c hX hr hk hf hl)
theorem am_callS_r {st : List Value} (hM : am_ok M) (ht : am_tb M pc = some (.invokestatic idx, 3)) (hst : st = As.reverse ++ rest) (hM' : am_ok M') (hi : am_stat M') (hlk : Cond.methodLink (pr_cn (am_co M)) idx (am_y M') ∈ lw_g) (hlen : As.length = am_np M') (hn : w.length = n) (hrs : (rest.map fun v => v.category).sum ≤ 8) (hMt : am_Mt l D cA ad fm d M' As w post')
    (k : ∀ (v : Option Value) (w' : am_W), post' v w' → w'.length = n → am_Rn l D cA ad fm (d + 1) M n post (pc + 3, L, v.toList ++ rest, w')) : am_Rn l D cA ad fm (d + 1) M n post (pc, L, st, w) := by
  subst hst
  intro p e R s m args below meth c hX hr hk hf hl
  exact am_g_callS hX (hM.1 _ _ ht) hM' hi hlk hMt hlen hn hf hl ⟨Nat.zero_le _, Nat.zero_le _⟩ hrs (fun v w' hp hn' => k v w' hp hn' p e R s m args below meth c hX hr hk hf hl)
theorem am_callN_r {st : List Value} (hM : am_ok M) (ht : am_tb M pc = some (.invokestatic idx, 3)) (hst : st = As.reverse ++ rest) (hM' : am_ok M') (hi : am_stat M') {host : String} (hlk : (am_co M, idx, am_y M', host) ∈ pr_ns) (hlen : As.length = am_np M') (hn : w.length = n) (hrs : (rest.map fun v => v.category).sum ≤ 8) (hMt : am_Mt l D cA ad fm d M' As w post')
    (k : ∀ (v : Option Value) (w' : am_W), post' v w' → w'.length = n → am_Rn l D cA ad fm (d + 1) M n post (pc + 3, L, v.toList ++ rest, w')) : am_Rn l D cA ad fm (d + 1) M n post (pc, L, st, w) := by
  subst hst
  intro p e R s m args below meth c hX hr hk hf hl
  exact am_g_callN hX (hM.1 _ _ ht) hM' hi hlk hMt hlen hn hf hl ⟨Nat.zero_le _, Nat.zero_le _⟩ hrs (fun v w' hp hn' => k v w' hp hn' p e R s m args below meth c hX hr hk hf hl)
/-- a boolean field is written -/
theorem am_putz_r (hM : am_ok M) {ci cj kk : Nat} {x : Int32} {fs S : List Value} (ht : am_tb M pc = some (.putfield idx, 3)) (hf : am_look (pr_fl (am_co M)) idx = some (ci, kk, 2)) (hw : w[a]? = some (.inr (ci, fs))) (hk : kk < fs.length) (hz : narrow .boolean (.int x) = .int x) (hfit : fits .boolean (.int x) = true) (r : am_Rn l D cA ad fm d M n post (pc + 3, L, S, w.set a (.inr (ci, fs.set kk (.int x))))) : am_Rn l D cA ad fm d M n post (pc, L, .int x :: .ref a :: S, w) := by
  intro p e R s m args below meth c hX hr' hlk hfr hl H locs ls hP hD hS hlv
  have hX0 := hX
  obtain ⟨hx, hb, hml, hown, hts, hK, hKn, hA⟩ := hX0
  obtain ⟨C, T, N, ty0, ⟨c1, c2, c3, c4⟩, h2, h3, -, -, h6⟩ := pr_flok hf
  obtain ⟨g1, g2⟩ := h6 rfl
  refine va_put (D := D) (ci := ci) (v := .int x) (ty := .boolean) (C := C) (T := T) (N := N) (fs := fs.map (am_cv ad)) hx hb hts c2 ty0 c3 c4 hown hK hP hD hS a (am_ws_get hw) c1 kk h2 (hts _ h3) (fun _ h9 => h9) g2 (by rw [← g1]; exact c3 kk h2) hz hfit (by rw [List.length_map]; exact hk) (hM.1 _ _ ht) (fun H1 locs1 hP1 hD1 hS1 => ?_)
  have e5 : (am_ws cA ad w).set a (ad a, .inr (ci, (fs.map (am_cv ad)).set kk (.int x))) = am_ws cA ad (w.set a (.inr (ci, fs.set kk (.int x)))) := by
    rw [← am_ws_set]
    simp only [am_ce, List.map_set, am_cv]
  rw [e5] at hP1 hD1
  exact r p e R s m args below meth c hX hr' hlk hfr hl H1 locs1 ls hP1 hD1 hS1 hlv
/-- texts: their fields and bytes -/
theorem am_sval_r (hM : am_ok M) {i : Nat} {S : List Value} {x : Nat × Nat × String × List Int32} (ht : am_tb M pc = some (.getfield 9, 3)) (hc : am_co M = 7) (hi : pr_st[i]? = some x) (r : am_Rn l D cA ad fm d M n post (pc + 3, L, .ref (2000 + i) :: S, w)) : am_Rn l D cA ad fm d M n post (pc, L, .ref (1000 + i) :: S, w) := by
  intro p e R s m args below meth c hX hr' hlk hfr hl H locs ls hP hD hS hlv
  have hX0 := hX
  obtain ⟨hx, hb, hml, hown, hts, hK, hKn, hA⟩ := hX0
  rw [hc] at hown
  obtain ⟨co, ix, tx, bs⟩ := x
  exact vk_getf hx hb (hKn.1 _ _ _ _ _ hi).2.2.2.1 hS hown (ref := "java/lang/String") (hts _ (am_two (ws := [.fieldLink "java/lang/String" 9 "java/lang/String" "value" "[B"]) (by decide +kernel) _ List.mem_cons_self)) (fun _ h => h) (hM.1 _ _ ht) (r p e R s m args below meth c hX hr' hlk hfr hl H locs ls hP hD hS hlv)
theorem am_scod_r (hM : am_ok M) {i : Nat} {S : List Value} {x : Nat × Nat × String × List Int32} (ht : am_tb M pc = some (.getfield 15, 3)) (hc : am_co M = 7) (hi : pr_st[i]? = some x) (r : am_Rn l D cA ad fm d M n post (pc + 3, L, .int 0 :: S, w)) : am_Rn l D cA ad fm d M n post (pc, L, .ref (1000 + i) :: S, w) := by
  intro p e R s m args below meth c hX hr' hlk hfr hl H locs ls hP hD hS hlv
  have hX0 := hX
  obtain ⟨hx, hb, hml, hown, hts, hK, hKn, hA⟩ := hX0
  rw [hc] at hown
  obtain ⟨co, ix, tx, bs⟩ := x
  exact vk_getf hx hb (hKn.1 _ _ _ _ _ hi).2.2.1 hS hown (ref := "java/lang/String") (hts _ (am_two (ws := [.fieldLink "java/lang/String" 15 "java/lang/String" "coder" "B"]) (by decide +kernel) _ List.mem_cons_self)) (fun _ h => h) (hM.1 _ _ ht) (r p e R s m args below meth c hX hr' hlk hfr hl H locs ls hP hD hS hlv)
theorem am_slen_r (hM : am_ok M) {i : Nat} {S : List Value} {co ix : Nat} {tx : String} {bs : List Int32} (ht : am_tb M pc = some (.arraylength, 1)) (hi : pr_st[i]? = some (co, ix, tx, bs)) (r : am_Rn l D cA ad fm d M n post (pc + 1, L, .int (Int32.ofNat bs.length) :: S, w)) : am_Rn l D cA ad fm d M n post (pc, L, .ref (2000 + i) :: S, w) := by
  intro p e R s m args below meth c hX hr' hlk hfr hl H locs ls hP hD hS hlv
  have hX0 := hX
  obtain ⟨hx, hb, hml, hown, hts, hK, hKn, hA⟩ := hX0
  exact va_tlen hx hb (hKn.1 _ _ _ _ _ hi).2.2.2.2 hS rfl (hM.1 _ _ ht) (r p e R s m args below meth c hX hr' hlk hfr hl H locs ls hP hD hS hlv)
theorem am_sbyt_r (hM : am_ok M) {i : Nat} {j : Int32} {S : List Value} {co ix : Nat} {tx : String} {bs : List Int32} (ht : am_tb M pc = some (.baload, 1)) (hi : pr_st[i]? = some (co, ix, tx, bs)) (hin : vp_in j bs.length) (r : am_Rn l D cA ad fm d M n post (pc + 1, L, .int (bs.getD j.toNatClampNeg 0) :: S, w)) : am_Rn l D cA ad fm d M n post (pc, L, .int j :: .ref (2000 + i) :: S, w) := by
  intro p e R s m args below meth c hX hr' hlk hfr hl H locs ls hP hD hS hlv
  have hX0 := hX
  obtain ⟨hx, hb, hml, hown, hts, hK, hKn, hA⟩ := hX0
  exact va_tb hx hb (hKn.1 _ _ _ _ _ hi).2.2.2.2 hS hin rfl (hM.1 _ _ ht) (r p e R s m args below meth c hX hr' hlk hfr hl H locs ls hP hD hS hlv)
theorem am_compact_r (hM : am_ok M) {S : List Value} (ht : am_tb M pc = some (.getstatic 38, 3)) (hc : am_co M = 7) (r : am_Rn l D cA ad fm d M n post (pc + 3, L, .int 1 :: S, w)) : am_Rn l D cA ad fm d M n post (pc, L, S, w) := by
  intro p e R s m args below meth c hX hr' hlk hfr hl H locs ls hP hD hS hlv
  have hX0 := hX
  obtain ⟨hx, hb, hml, hown, hts, hK, hKn, hA⟩ := hX0
  rw [hc] at hown
  exact va_gets hx hb hKn.2.1 hS hown (ref := "java/lang/String") (hts _ (am_two (ws := [.fieldLink "java/lang/String" 38 "java/lang/String" "COMPACT_STRINGS" "Z"]) (by decide +kernel) _ List.mem_cons_self)) (fun _ h => h) (hM.1 _ _ ht) (r p e R s m args below meth c hX hr' hlk hfr hl H locs ls hP hD hS hlv)
theorem am_format_r (hM : am_ok M) {S : List Value} (ht : am_tb M pc = some (.getstatic 1053, 3)) (hc : am_co M = 7) (r : am_Rn l D cA ad fm d M n post (pc + 3, L, fm :: S, w)) : am_Rn l D cA ad fm d M n post (pc, L, S, w) := by
  intro p e R s m args below meth c hX hr' hlk hfr hl H locs ls hP hD hS hlv
  have hX0 := hX
  obtain ⟨hx, hb, hml, hown, hts, hK, hKn, hA⟩ := hX0
  rw [hc] at hown
  exact va_gets hx hb hKn.2.2.1 hS hown (ref := "jdk/internal/util/Preconditions") (hts _ (am_two (ws := [.fieldLink "java/lang/String" 1053 "jdk/internal/util/Preconditions" "SIOOBE_FORMATTER" "Ljava/util/function/BiFunction;"]) (by decide +kernel) _ List.mem_cons_self)) (fun _ h => h) (hM.1 _ _ ht) (r p e R s m args below meth c hX hr' hlk hfr hl H locs ls hP hD hS hlv)
end AMQ
