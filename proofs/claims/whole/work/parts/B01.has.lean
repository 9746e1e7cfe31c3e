/-! has, without any trace: nothing is written -/
section TRH
variable {D : va_G} {cA : Nat → ClassId} {ad : Nat → Nat} {fm : Value} {co : Nat} {cc : ByteArray} {A : Nat → Prop} {p : Program} {l : Launch} {e : Env} {R : Room} {s : State} {m : MethodId} {args : Array Value} {below : List Frame} {meth : Method} {c : Code} {nL cells slots : Nat} {Q : State → Prop} {H : Heap} {locs : List Loc} {ls : Array Slot}
/-- a field of the world is read -/
theorem am_w_getf (hX : am_X D cA ad fm co cc nL p s m args c A) {idx pc : Nat} {S S' : List Value} {w : am_W} (h : am_getf co idx pc [] S w = some (pc + 3, [], S', w)) (hd : decode cc pc = .ok (.getfield idx, 3)) (hP : va_P D pr_cl (am_ws cA ad w) H) (k : W p l e R s m args below meth c H locs cells slots Q (F0 m (pc + 3) ls (S'.map (am_cv ad)))) : W p l e R s m args below meth c H locs cells slots Q (F0 m pc ls (S.map (am_cv ad))) := by
  obtain ⟨hx, hb, hml, hown, hts, hK, hKn, hA⟩ := hX
  unfold am_getf at h
  split at h
  · rename_i a st
    split at h
    · rename_i ci kk tg hf
      split at h
      · rename_i cj fs hw
        cases hc : Nat.beq ci cj with
        | false => rw [hc] at h; cases h
        | true =>
          rw [hc] at h
          have hcj := Nat.eq_of_beq_eq_true hc
          subst hcj
          dsimp only [cond_true] at h
          split at h
          · rename_i v hv
            have h1 := Option.some.inj h
            have h9 : v :: st = S' := congrArg (fun z => z.2.2.1) h1
            subst h9
            obtain ⟨C, T, N, ty0, ⟨c1, c2, c3, c4⟩, h2, h3, -⟩ := pr_flok hf
            exact va_get (D := D) (ci := ci) (v := am_cv ad v) (C := C) (T := T) (N := N) (fs := fs.map (am_cv ad)) hx hb hts c2 hown hK hP a (am_ws_get hw) c1 kk h2 (hts _ h3) (fun _ h9 => h9) (by rw [List.getElem?_map, hv]; rfl) hd k
          · cases h
      · cases h
    · cases h
  · cases h
/-- what a method answers that writes nothing -/
def tr_Qp (v : Int32) : Array Value → State → Outcome → State → Prop := fun _ st o t => o = .returned (some (.int v)) ∧ t.heap = st.heap
theorem tr_hasV (C : wd_C) (Y : wd_Y) (og : Nat → Int64) (nv u : Nat) (hV : vsz C nv u) (x : Int32) (sz : Nat) : Met l (am_y m_V_has) (am_cw m_V_has :: lw_g) (am_rm 0) (am_Pc D cA ad fm [.ref 3, .int x] (wd C Y og) sz) (tr_Qp (bz (isV nv x))) 0 0 (fun _ => False) := by
  obtain ⟨h1, h2, h3, h4, h5, h6, h7⟩ := ok_V_has
  refine Met.ofW (cc := am_b m_V_has) (maxL := am_ml m_V_has) (ret := am_rt m_V_has) h4 rfl ?_
  intro p e s m args below meth c s₁ B hml hv
  obtain ⟨rfl, hsz, hP, hK, hD, hKn⟩ := hv
  subst hsz
  have hts := atoms_spec (ws := am_cw m_V_has :: lw_g) B.pre
  have hown : s.vm.findClass (pr_cn (am_co m_V_has)) = some m.cls := by rw [h6]; exact findClass_of_methodNamed B.named
  have hX : am_X D cA ad fm (am_co m_V_has) (am_b m_V_has) (am_ml m_V_has) p s m ([Value.ref 3, Value.int x].map (am_cv ad)).toArray c (am_A ad (wd C Y og).length s.heap.size) := ⟨B.exec, B.bytes, hml, hown, fun w hw => hts w (List.mem_cons_of_mem _ hw), hK, hKn, fun q hq => Or.inr hq⟩
  have hr := B.returns
  have hlk := B.notSynchronized
  have hx := B.exec
  have hb := B.bytes
  rw [lg_entry_eq]
  suffices hh : ∀ ls : Array Slot, lv_has ls 2 [(0, .ref (ad 3)), (1, .int x)] → W p l e (headSpec (am_cw m_V_has :: lw_g) (am_rm 0)).room s m ([Value.ref 3, Value.int x].map (am_cv ad)).toArray below meth c s.heap [] 0 0 (MQ below (tr_Qp (bz (isV nv x))) ([Value.ref 3, Value.int x].map (am_cv ad)).toArray s 0 0 (fun _ => False)) (F0 m 0 ls []) from hh _ (am_entry_has (ad := ad) (As := [.ref 3, .int x]) (by simp [am_arg, Value.category, m_V_has, am_ml]))
  intro ls hl
  have fin : ∀ (v : Int32) (_ : v = bz (isV nv x)) (_ : narrow .boolean (.int v) = .int v), W p l e (headSpec (am_cw m_V_has :: lw_g) (am_rm 0)).room s m ([Value.ref 3, Value.int x].map (am_cv ad)).toArray below meth c s.heap [] 0 0 (MQ below (tr_Qp (bz (isV nv x))) ([Value.ref 3, Value.int x].map (am_cv ad)).toArray s 0 0 (fun _ => False)) (F0 m 17 ls [.int v]) := fun v hv hz =>
    W.zret hx hb hr hz (fun t ht' hW => ⟨by rw [hv], ht'⟩) (fun q hq => by cases hq) (h1 _ _ (rfl : am_tb m_V_has 17 = some (.ireturn, 1))) hlk
  refine lv_iload_n hx hb (h1 _ _ (rfl : am_tb m_V_has 0 = some (.iload_n 1, 1))) rfl (lv_at hl 1 rfl) ?_
  refine lv_if_lt hx hb (h1 _ _ (rfl : am_tb m_V_has 1 = some (.ifCond .lt 15, 3))) (tgt := 16) rfl (fun h => ?_) (fun h => ?_)
  · refine lv_iconst hx hb (h1 _ _ (rfl : am_tb m_V_has 16 = some (.iconst 0, 1))) (v := 0) rfl ?_
    exact fin 0 (by rw [isV, decide_eq_false (fun z => absurd h (Int32.not_lt.mpr z))]; rfl) rfl
  · refine lv_iload_n hx hb (h1 _ _ (rfl : am_tb m_V_has 4 = some (.iload_n 1, 1))) rfl (lv_at hl 1 rfl) ?_
    refine lv_aload_n hx hb (h1 _ _ (rfl : am_tb m_V_has 5 = some (.aload_n 0, 1))) rfl (lv_at hl 0 rfl) ?_
    refine am_w_getf hX (S := [.ref 3, .int x]) (S' := [.int (C.1 1), .int x]) (w := wd C Y og) rfl (h1 _ _ (rfl : am_tb m_V_has 6 = some (.getfield 44, 3))) hP ?_
    rw [hV.1]
    refine lv_icmp_ge hx hb (h1 _ _ (rfl : am_tb m_V_has 9 = some (.if_icmp .ge 7, 3))) (tgt := 16) rfl (fun h2 => ?_) (fun h2 => ?_)
    · refine lv_iconst hx hb (h1 _ _ (rfl : am_tb m_V_has 16 = some (.iconst 0, 1))) (v := 0) rfl ?_
      exact fin 0 (by rw [isV, decide_eq_false (p := x < nI nv) (Int32.not_lt.mpr h2), Bool.and_false]; rfl) rfl
    · refine lv_iconst hx hb (h1 _ _ (rfl : am_tb m_V_has 12 = some (.iconst 1, 1))) (v := 1) rfl ?_
      refine lv_goto hx hb (h1 _ _ (rfl : am_tb m_V_has 13 = some (.goto 4, 3))) (tgt := 17) rfl ?_
      exact fin 1 (by rw [isV, decide_eq_true (Int32.not_lt.mp h), decide_eq_true (Int32.not_le.mp h2)]; rfl) rfl
theorem tr_hasO (C : wd_C) (Y : wd_Y) (og : Nat → Int64) (no : Nat) (hn : C.1 3 = nI no) (x : Int32) (sz : Nat) : Met l (am_y m_O_has) (am_cw m_O_has :: lw_g) (am_rm 0) (am_Pc D cA ad fm [.ref 14, .int x] (wd C Y og) sz) (tr_Qp (bz (isV no x))) 0 0 (fun _ => False) := by
  obtain ⟨h1, h2, h3, h4, h5, h6, h7⟩ := ok_O_has
  refine Met.ofW (cc := am_b m_O_has) (maxL := am_ml m_O_has) (ret := am_rt m_O_has) h4 rfl ?_
  intro p e s m args below meth c s₁ B hml hv
  obtain ⟨rfl, hsz, hP, hK, hD, hKn⟩ := hv
  subst hsz
  have hts := atoms_spec (ws := am_cw m_O_has :: lw_g) B.pre
  have hown : s.vm.findClass (pr_cn (am_co m_O_has)) = some m.cls := by rw [h6]; exact findClass_of_methodNamed B.named
  have hX : am_X D cA ad fm (am_co m_O_has) (am_b m_O_has) (am_ml m_O_has) p s m ([Value.ref 14, Value.int x].map (am_cv ad)).toArray c (am_A ad (wd C Y og).length s.heap.size) := ⟨B.exec, B.bytes, hml, hown, fun w hw => hts w (List.mem_cons_of_mem _ hw), hK, hKn, fun q hq => Or.inr hq⟩
  have hr := B.returns
  have hlk := B.notSynchronized
  have hx := B.exec
  have hb := B.bytes
  rw [lg_entry_eq]
  suffices hh : ∀ ls : Array Slot, lv_has ls 2 [(0, .ref (ad 14)), (1, .int x)] → W p l e (headSpec (am_cw m_O_has :: lw_g) (am_rm 0)).room s m ([Value.ref 14, Value.int x].map (am_cv ad)).toArray below meth c s.heap [] 0 0 (MQ below (tr_Qp (bz (isV no x))) ([Value.ref 14, Value.int x].map (am_cv ad)).toArray s 0 0 (fun _ => False)) (F0 m 0 ls []) from hh _ (am_entry_has (ad := ad) (As := [.ref 14, .int x]) (by simp [am_arg, Value.category, m_O_has, am_ml]))
  intro ls hl
  have fin : ∀ (v : Int32) (_ : v = bz (isV no x)) (_ : narrow .boolean (.int v) = .int v), W p l e (headSpec (am_cw m_O_has :: lw_g) (am_rm 0)).room s m ([Value.ref 14, Value.int x].map (am_cv ad)).toArray below meth c s.heap [] 0 0 (MQ below (tr_Qp (bz (isV no x))) ([Value.ref 14, Value.int x].map (am_cv ad)).toArray s 0 0 (fun _ => False)) (F0 m 17 ls [.int v]) := fun v hv hz =>
    W.zret hx hb hr hz (fun t ht' hW => ⟨by rw [hv], ht'⟩) (fun q hq => by cases hq) (h1 _ _ (rfl : am_tb m_O_has 17 = some (.ireturn, 1))) hlk
  refine lv_iload_n hx hb (h1 _ _ (rfl : am_tb m_O_has 0 = some (.iload_n 1, 1))) rfl (lv_at hl 1 rfl) ?_
  refine lv_if_lt hx hb (h1 _ _ (rfl : am_tb m_O_has 1 = some (.ifCond .lt 15, 3))) (tgt := 16) rfl (fun h => ?_) (fun h => ?_)
  · refine lv_iconst hx hb (h1 _ _ (rfl : am_tb m_O_has 16 = some (.iconst 0, 1))) (v := 0) rfl ?_
    exact fin 0 (by rw [isV, decide_eq_false (fun z => absurd h (Int32.not_lt.mpr z))]; rfl) rfl
  · refine lv_iload_n hx hb (h1 _ _ (rfl : am_tb m_O_has 4 = some (.iload_n 1, 1))) rfl (lv_at hl 1 rfl) ?_
    refine lv_aload_n hx hb (h1 _ _ (rfl : am_tb m_O_has 5 = some (.aload_n 0, 1))) rfl (lv_at hl 0 rfl) ?_
    refine am_w_getf hX (S := [.ref 14, .int x]) (S' := [.int (C.1 3), .int x]) (w := wd C Y og) rfl (h1 _ _ (rfl : am_tb m_O_has 6 = some (.getfield 15, 3))) hP ?_
    rw [hn]
    refine lv_icmp_ge hx hb (h1 _ _ (rfl : am_tb m_O_has 9 = some (.if_icmp .ge 7, 3))) (tgt := 16) rfl (fun h2 => ?_) (fun h2 => ?_)
    · refine lv_iconst hx hb (h1 _ _ (rfl : am_tb m_O_has 16 = some (.iconst 0, 1))) (v := 0) rfl ?_
      exact fin 0 (by rw [isV, decide_eq_false (p := x < nI no) (Int32.not_lt.mpr h2), Bool.and_false]; rfl) rfl
    · refine lv_iconst hx hb (h1 _ _ (rfl : am_tb m_O_has 12 = some (.iconst 1, 1))) (v := 1) rfl ?_
      refine lv_goto hx hb (h1 _ _ (rfl : am_tb m_O_has 13 = some (.goto 4, 3))) (tgt := 17) rfl ?_
      exact fin 1 (by rw [isV, decide_eq_true (Int32.not_lt.mp h), decide_eq_true (Int32.not_le.mp h2)]; rfl) rfl
end TRH
