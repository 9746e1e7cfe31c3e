/-! ONE INSTRUCTION of the abstract machine, and that the real one follows it. Printed by wip/gen/gen04.py -/
abbrev am_St : Type := Nat × am_L × List Value × am_W
def am_nx (pc : Nat) (L : am_L) (S : List Value) (w : am_W) : Option am_St := some (pc, L, S, w)
def am_tg (pc : Nat) (off : Int) : Nat := ((pc : Int) + off).toNat
def am_br (b : Bool) (pc : Nat) (off : Int) (L : am_L) (S : List Value) (w : am_W) : Option am_St := bif decide (0 ≤ (pc : Int) + off) then some (bif b then am_tg pc off else pc + 3, L, S, w) else none
def am_brn (b : Bool) (pc : Nat) (off : Int) (L : am_L) (S : List Value) (w : am_W) : Option am_St := bif decide (0 ≤ (pc : Int) + off) then some (bif b then pc + 3 else am_tg pc off, L, S, w) else none
theorem am_tg_eq {pc : Nat} {off : Int} (h : decide (0 ≤ (pc : Int) + off) = true) : (pc : Int) + off = ((am_tg pc off : Nat) : Int) := by
  have := of_decide_eq_true h
  unfold am_tg
  omega
def am_getf (co idx pc : Nat) (L : am_L) (S : List Value) (w : am_W) : Option am_St := match S with
  | .ref a :: st => match am_look (pr_fl co) idx with
    | some (ci, k, _) => match w[a]? with
      | some (.inr (cj, fs)) => bif Nat.beq ci cj then (match fs[k]? with
        | some v => some (pc + 3, L, v :: st, w)
        | none => none) else none
      | _ => none
    | none => none
  | _ => none
def am_vt (v : Value) (tg : Nat) : Bool := match v with
  | .int _ => Nat.beq tg 0
  | .long _ => Nat.beq tg 1
  | _ => false
def am_putf (co idx pc : Nat) (L : am_L) (S : List Value) (w : am_W) : Option am_St := match S with
  | v :: .ref a :: st => match am_look (pr_fl co) idx with
    | some (ci, k, tg) => match w[a]? with
      | some (.inr (cj, fs)) => bif Nat.beq ci cj && Nat.blt k fs.length && am_vt v tg then some (pc + 3, L, st, w.set a (.inr (cj, fs.set k v))) else none
      | _ => none
    | none => none
  | _ => none
def am_tsw (pc : Nat) (d lo hi : Int) (offs : Array Int) (x : Int32) : Nat := if x.toInt < lo ∨ hi < x.toInt then am_tg pc d else am_tg pc (offs.getD (x.toInt - lo).toNat d)
def am_lsw (pc : Nat) (d : Int) (ps : Array (Int × Int)) (x : Int32) : Nat := am_tg pc (Op.lookupswitch.offset ps.toList d x.toInt)
def am_ins (co nL : Nat) (ins : Instr) (pc : Nat) (L : am_L) (S : List Value) (w : am_W) : Option am_St := match ins with
  | .iconst n => some (pc + 1, L, .int (Int32.ofInt n) :: S, w)
  | .bipush n => some (pc + 2, L, .int (Int8.ofInt n).toInt32 :: S, w)
  | .sipush n => some (pc + 3, L, .int (Int16.ofInt n).toInt32 :: S, w)
  | .lconst n => some (pc + 1, L, .long (Int64.ofNat (n : Nat)) :: S, w)
  | .aconst_null => some (pc + 1, L, .null :: S, w)
  | .ldc2_w k => match am_look (pr_lg co) k with
    | some v => some (pc + 3, L, .long v :: S, w)
    | none => none
  | .ldc k => match am_look (pr_ss co) k with
    | some i => some (pc + 2, L, .ref (1000 + i) :: S, w)
    | none => none
  | .ldc_w k => match am_look (pr_ss co) k with
    | some i => some (pc + 3, L, .ref (1000 + i) :: S, w)
    | none => none
  | .iload k => match am_loc L k with
    | some (.int x) => some (pc + 2, L, .int x :: S, w)
    | _ => none
  | .iload_n k => match am_loc L (k : Nat) with
    | some (.int x) => some (pc + 1, L, .int x :: S, w)
    | _ => none
  | .lload k => match am_loc L k with
    | some (.long x) => some (pc + 2, L, .long x :: S, w)
    | _ => none
  | .lload_n k => match am_loc L (k : Nat) with
    | some (.long x) => some (pc + 1, L, .long x :: S, w)
    | _ => none
  | .aload k => match am_loc L k with
    | some (.ref x) => some (pc + 2, L, .ref x :: S, w)
    | some .null => some (pc + 2, L, .null :: S, w)
    | _ => none
  | .aload_n k => match am_loc L (k : Nat) with
    | some (.ref x) => some (pc + 1, L, .ref x :: S, w)
    | some .null => some (pc + 1, L, .null :: S, w)
    | _ => none
  | .istore k => match S with
    | .int x :: st => bif Nat.blt k nL then some (pc + 2, am_sto1 L k (.int x), st, w) else none
    | _ => none
  | .istore_n k => match S with
    | .int x :: st => bif Nat.blt (k : Nat) nL then some (pc + 1, am_sto1 L (k : Nat) (.int x), st, w) else none
    | _ => none
  | .astore k => match S with
    | .ref x :: st => bif Nat.blt k nL then some (pc + 2, am_sto1 L k (.ref x), st, w) else none
    | _ => none
  | .astore_n k => match S with
    | .ref x :: st => bif Nat.blt (k : Nat) nL then some (pc + 1, am_sto1 L (k : Nat) (.ref x), st, w) else none
    | _ => none
  | .lstore k => match S with
    | .long x :: st => bif Nat.blt (k + 1) nL then some (pc + 2, am_sto2 L k (.long x), st, w) else none
    | _ => none
  | .lstore_n k => match S with
    | .long x :: st => bif Nat.blt ((k : Nat) + 1) nL then some (pc + 1, am_sto2 L (k : Nat) (.long x), st, w) else none
    | _ => none
  | .iinc k n => match am_loc L k with
    | some (.int x) => bif Nat.blt k nL then some (pc + 3, am_sto1 L k (.int (x + Int32.ofInt n)), S, w) else none
    | _ => none
  | .iadd => match S with
    | .int y :: .int x :: st => some (pc + 1, L, .int (x + y) :: st, w)
    | _ => none
  | .isub => match S with
    | .int y :: .int x :: st => some (pc + 1, L, .int (x - y) :: st, w)
    | _ => none
  | .imul => match S with
    | .int y :: .int x :: st => some (pc + 1, L, .int (x * y) :: st, w)
    | _ => none
  | .iand => match S with
    | .int y :: .int x :: st => some (pc + 1, L, .int (x &&& y) :: st, w)
    | _ => none
  | .ior => match S with
    | .int y :: .int x :: st => some (pc + 1, L, .int (x ||| y) :: st, w)
    | _ => none
  | .ixor => match S with
    | .int y :: .int x :: st => some (pc + 1, L, .int (x ^^^ y) :: st, w)
    | _ => none
  | .ishl => match S with
    | .int y :: .int x :: st => some (pc + 1, L, .int (x <<< (y &&& 31)) :: st, w)
    | _ => none
  | .ishr => match S with
    | .int y :: .int x :: st => some (pc + 1, L, .int (x >>> (y &&& 31)) :: st, w)
    | _ => none
  | .iushr => match S with
    | .int y :: .int x :: st => some (pc + 1, L, .int ((x.toUInt32 >>> (y.toUInt32 &&& Int32.toUInt32 31)).toInt32) :: st, w)
    | _ => none
  | .idiv => match S with
    | .int y :: .int x :: st => bif decide (y = 0) then none else some (pc + 1, L, .int (x / y) :: st, w)
    | _ => none
  | .irem => match S with
    | .int y :: .int x :: st => bif decide (y = 0) then none else some (pc + 1, L, .int (x - x / y * y) :: st, w)
    | _ => none
  | .ladd => match S with
    | .long y :: .long x :: st => some (pc + 1, L, .long (x + y) :: st, w)
    | _ => none
  | .lsub => match S with
    | .long y :: .long x :: st => some (pc + 1, L, .long (x - y) :: st, w)
    | _ => none
  | .lmul => match S with
    | .long y :: .long x :: st => some (pc + 1, L, .long (x * y) :: st, w)
    | _ => none
  | .land => match S with
    | .long y :: .long x :: st => some (pc + 1, L, .long (x &&& y) :: st, w)
    | _ => none
  | .lor => match S with
    | .long y :: .long x :: st => some (pc + 1, L, .long (x ||| y) :: st, w)
    | _ => none
  | .lxor => match S with
    | .long y :: .long x :: st => some (pc + 1, L, .long (x ^^^ y) :: st, w)
    | _ => none
  | .ldiv => match S with
    | .long y :: .long x :: st => bif decide (y = 0) then none else some (pc + 1, L, .long (x / y) :: st, w)
    | _ => none
  | .lrem => match S with
    | .long y :: .long x :: st => bif decide (y = 0) then none else some (pc + 1, L, .long (x - x / y * y) :: st, w)
    | _ => none
  | .lshl => match S with
    | .int y :: .long x :: st => some (pc + 1, L, .long (x <<< (y.toInt64 &&& 63)) :: st, w)
    | _ => none
  | .lshr => match S with
    | .int y :: .long x :: st => some (pc + 1, L, .long (x >>> (y.toInt64 &&& 63)) :: st, w)
    | _ => none
  | .lushr => match S with
    | .int y :: .long x :: st => some (pc + 1, L, .long ((x.toUInt64 >>> (y.toInt64.toUInt64 &&& Int64.toUInt64 63)).toInt64) :: st, w)
    | _ => none
  | .lcmp => match S with
    | .long y :: .long x :: st => some (pc + 1, L, .int (lg_cmp x y) :: st, w)
    | _ => none
  | .i2l => match S with
    | .int x :: st => some (pc + 1, L, .long x.toInt64 :: st, w)
    | _ => none
  | .l2i => match S with
    | .long x :: st => some (pc + 1, L, .int x.toInt32 :: st, w)
    | _ => none
  | .i2b => match S with
    | .int x :: st => some (pc + 1, L, .int x.toInt8.toInt32 :: st, w)
    | _ => none
  | .i2s => match S with
    | .int x :: st => some (pc + 1, L, .int x.toInt16.toInt32 :: st, w)
    | _ => none
  | .i2c => match S with
    | .int x :: st => some (pc + 1, L, .int (x.toUInt32 % 65536).toInt32 :: st, w)
    | _ => none
  | .ineg => match S with
    | .int x :: st => some (pc + 1, L, .int (-x) :: st, w)
    | _ => none
  | .lneg => match S with
    | .long x :: st => some (pc + 1, L, .long (-x) :: st, w)
    | _ => none
  | .dup => match S with
    | v :: st => bif Nat.beq v.category 1 then some (pc + 1, L, v :: v :: st, w) else none
    | _ => none
  | .pop => match S with
    | v :: st => bif Nat.beq v.category 1 then some (pc + 1, L, st, w) else none
    | _ => none
  | .dup_x1 => match S with
    | v :: u :: st => bif Nat.beq v.category 1 && Nat.beq u.category 1 then some (pc + 1, L, v :: u :: v :: st, w) else none
    | _ => none
  | .dup2 => match S with
    | v :: u :: st => bif Nat.beq v.category 1 && Nat.beq u.category 1 then some (pc + 1, L, v :: u :: v :: u :: st, w) else none
    | _ => none
  | .goto off => bif decide (0 ≤ (pc : Int) + off) then some (am_tg pc off, L, S, w) else none
  | .ifCond cd off => match S with
    | .int x :: st => match cd with
      | .eq => am_br (decide (x = 0)) pc off L st w
      | .ne => am_brn (decide (x = 0)) pc off L st w
      | .lt => am_br (decide (x < 0)) pc off L st w
      | .ge => am_br (decide (0 ≤ x)) pc off L st w
      | .gt => am_br (decide (0 < x)) pc off L st w
      | .le => am_br (decide (x ≤ 0)) pc off L st w
    | _ => none
  | .if_icmp cd off => match S with
    | .int y :: .int x :: st => match cd with
      | .eq => am_br (decide (x = y)) pc off L st w
      | .ne => am_brn (decide (x = y)) pc off L st w
      | .lt => am_br (decide (x < y)) pc off L st w
      | .ge => am_br (decide (y ≤ x)) pc off L st w
      | .gt => am_br (decide (y < x)) pc off L st w
      | .le => am_br (decide (x ≤ y)) pc off L st w
    | _ => none
  | .tableswitch d lo hi offs => match S with
    | .int x :: st => bif decide (0 ≤ (pc : Int) + d) && decide (offs.size = (hi - lo + 1).toNat) && decide (lo ≤ hi) && offs.all (fun q => decide (0 ≤ (pc : Int) + q)) then some (am_tsw pc d lo hi offs x, L, st, w) else none
    | _ => none
  | .lookupswitch d ps => match S with
    | .int x :: st => bif decide (0 ≤ (pc : Int) + d) && ((ps.toList.zip (ps.toList.drop 1)).all (fun q => decide (q.1.1 < q.2.1))) && ps.toList.all (fun q => decide (0 ≤ (pc : Int) + q.2)) then some (am_lsw pc d ps x, L, st, w) else none
    | _ => none
  | .getfield idx => am_getf co idx pc L S w
  | .putfield idx => am_putf co idx pc L S w
  | _ => none
/-- how long an instruction is that am_ins knows (0: any) -/
def am_len : Instr → Nat
  | .bipush _ => 2
  | .sipush _ => 3
  | .ldc2_w _ => 3
  | .ldc _ => 2
  | .ldc_w _ => 3
  | .iload _ => 2
  | .lload _ => 2
  | .aload _ => 2
  | .istore _ => 2
  | .astore _ => 2
  | .lstore _ => 2
  | .iinc _ _ => 3
  | .goto _ => 3
  | .ifCond _ _ => 3
  | .if_icmp _ _ => 3
  | .getfield _ => 3
  | .putfield _ => 3
  | .tableswitch _ _ _ _ => 0
  | .lookupswitch _ _ => 0
  | _ => 1
def am_step (co nL : Nat) (tb : Nat → Option (Instr × Nat)) (q : am_St) : Option am_St := match tb q.1 with
  | some (ins, len) => bif Nat.beq (am_len ins) len || Nat.beq (am_len ins) 0 then am_ins co nL ins q.1 q.2.1 q.2.2.1 q.2.2.2 else none
  | none => none
def am_steps (co nL : Nat) (tb : Nat → Option (Instr × Nat)) : Nat → am_St → Option am_St
  | 0, q => some q
  | n + 1, q => match am_step co nL tb q with
    | some q' => am_steps co nL tb n q'
    | none => none
/-- element types of the worlds' arrays, in the order in which they are made -/
def pr_ety : List FieldType := [.byte, .int, .long, .int, .int, .int, .int, .int, .int, .int, .byte, .int, .byte, .int, .int, .int, .long, .int, .int, .int, .int, .int, .int, .int, .int, .int, .int, .int, .int, .int, .long]
def am_tys (cA : Nat → ClassId) : List (ClassId × FieldType) := pr_ety.mapIdx (fun t ty => (cA t, ty))
theorem am_tys_get {cA : Nat → ClassId} {t : Nat} {ty : FieldType} (h : pr_ety[t]? = some ty) : (am_tys cA)[t]? = some (cA t, ty) := by
  simp [am_tys, List.getElem?_mapIdx, h]
/-- what stands outside of the worlds and is only read: texts, two statics, links of nest mates -/
def am_K (ad : Nat → Nat) (fm : Value) (A : Nat → Prop) (s : State) : Prop :=
  (∀ (i co idx : Nat) (tx : String) (bs : List Int32), pr_st[i]? = some (co, idx, tx, bs) → vk_R (pr_cn co) idx tx (ad (1000 + i)) s ∧ va_O "java/lang/String" (ad (1000 + i)) A s s.heap ∧ va_OF "java/lang/String" "coder" "B" (.int 0) (ad (1000 + i)) A s s.heap ∧ va_OF "java/lang/String" "value" "[B" (.ref (ad (2000 + i))) (ad (1000 + i)) A s s.heap ∧ va_T .byte (ad (2000 + i)) bs.length (fun j => .int (bs.getD j 0)) A s s.heap) ∧
  va_Z "java/lang/String" "COMPACT_STRINGS" "Z" (.int 1) A s s.heap ∧ va_Z "jdk/internal/util/Preconditions" "SIOOBE_FORMATTER" "Ljava/util/function/BiFunction;" (am_cv ad fm) A s s.heap ∧
  ∀ (co idx : Nat) (y : MethodName) (host : String), (co, idx, y, host) ∈ pr_ns → va_Nw (.methodLinkNest (pr_cn co) idx y host) s
/-- where the machine stands: class number co, code cc, so many locals -/
def am_X (D : va_G) (cA : Nat → ClassId) (ad : Nat → Nat) (fm : Value) (co : Nat) (cc : ByteArray) (nL : Nat) (p : Program) (s : State) (m : MethodId) (args : Array Value) (c : Code) (A : Nat → Prop) : Prop :=
  p.tables.exec = Jvm.exec ∧ c.code = cc ∧ c.maxLocals = nL ∧ s.vm.findClass (pr_cn co) = some m.cls ∧ (∀ w ∈ lw_g, w.before args s = true) ∧ va_K D pr_cl (am_tys cA) s ∧ am_K ad fm A s ∧ ∀ q, s.heap.size ≤ q → A q
section AMG
variable (D : va_G) (cA : Nat → ClassId) (ad : Nat → Nat) (A : Nat → Prop) (p : Program) (l : Launch) (e : Env) (R : Room) (s : State) (m : MethodId) (args : Array Value) (below : List Frame) (meth : Method) (c : Code) (nL cells slots : Nat) (Q : State → Prop)
/-- the real machine, wherever it holds this state, comes to Q -/
def am_G (q : am_St) : Prop := ∀ (H : Heap) (locs : List Loc) (ls : Array Slot), va_P D pr_cl (am_ws cA ad q.2.2.2) H → va_D A (am_ws cA ad q.2.2.2) → va_S A s.heap H locs → lv_has ls nL (am_lv ad q.2.1) → W p l e R s m args below meth c H locs cells slots Q (F0 m q.1 ls (q.2.2.1.map (am_cv ad)))
end AMG
section AMS
variable {D : va_G} {cA : Nat → ClassId} {ad : Nat → Nat} {fm : Value} {co : Nat} {cc : ByteArray} {A : Nat → Prop} {p : Program} {l : Launch} {e : Env} {R : Room} {s : State} {m : MethodId} {args : Array Value} {below : List Frame} {meth : Method} {c : Code} {nL cells slots : Nat} {Q : State → Prop}
theorem am_g_br {b : Prop} [Decidable b] {pc : Nat} {off : Int} {L : am_L} {S : List Value} {w : am_W} {q' : am_St} (h : am_br (decide b) pc off L S w = some q') (k : am_G D cA ad A p l e R s m args below meth c nL cells slots Q q') :
    (pc : Int) + off = ((am_tg pc off : Nat) : Int) ∧ (b → am_G D cA ad A p l e R s m args below meth c nL cells slots Q (am_tg pc off, L, S, w)) ∧ (¬ b → am_G D cA ad A p l e R s m args below meth c nL cells slots Q (pc + 3, L, S, w)) := by
  unfold am_br at h
  cases hd : decide (0 ≤ (pc : Int) + off) with
  | false => rw [hd] at h; cases h
  | true =>
    rw [hd] at h
    have h1 : (bif decide b then am_tg pc off else pc + 3, L, S, w) = q' := Option.some.inj h
    subst h1
    refine ⟨am_tg_eq hd, fun hb => ?_, fun hb => ?_⟩
    · rw [decide_eq_true hb] at k; exact k
    · rw [decide_eq_false hb] at k; exact k
theorem am_g_brn {b : Prop} [Decidable b] {pc : Nat} {off : Int} {L : am_L} {S : List Value} {w : am_W} {q' : am_St} (h : am_brn (decide b) pc off L S w = some q') (k : am_G D cA ad A p l e R s m args below meth c nL cells slots Q q') :
    (pc : Int) + off = ((am_tg pc off : Nat) : Int) ∧ (¬ b → am_G D cA ad A p l e R s m args below meth c nL cells slots Q (am_tg pc off, L, S, w)) ∧ (b → am_G D cA ad A p l e R s m args below meth c nL cells slots Q (pc + 3, L, S, w)) := by
  unfold am_brn at h
  cases hd : decide (0 ≤ (pc : Int) + off) with
  | false => rw [hd] at h; cases h
  | true =>
    rw [hd] at h
    have h1 : (bif decide b then pc + 3 else am_tg pc off, L, S, w) = q' := Option.some.inj h
    subst h1
    refine ⟨am_tg_eq hd, fun hb => ?_, fun hb => ?_⟩
    · rw [decide_eq_false hb] at k; exact k
    · rw [decide_eq_true hb] at k; exact k
theorem am_g_getf (hX : am_X D cA ad fm co cc nL p s m args c A) {idx pc : Nat} {L : am_L} {S : List Value} {w : am_W} {q' : am_St} (h : am_getf co idx pc L S w = some q') (hd : decode cc pc = .ok (.getfield idx, 3)) (k : am_G D cA ad A p l e R s m args below meth c nL cells slots Q q') : am_G D cA ad A p l e R s m args below meth c nL cells slots Q (pc, L, S, w) := by
  intro H locs ls hP hD hS hl
  obtain ⟨hx, hb, hml, hown, hts, hK, hKn, hA⟩ := hX
  unfold am_getf at h
  split at h
  · rename_i a st
    split at h
    · rename_i ci kk tg hf
      split at h
      · rename_i cj fs hw
        cases hc : Nat.beq ci cj with
        | false => rw [hc] at h; cases h
        | true =>
          rw [hc] at h
          have hcj := Nat.eq_of_beq_eq_true hc
          subst hcj
          dsimp only [cond_true] at h
          split at h
          · rename_i v hv
            have h1 := Option.some.inj h
            subst h1
            obtain ⟨C, T, N, ty0, ⟨c1, c2, c3, c4⟩, h2, h3, -⟩ := pr_flok hf
            exact va_get (D := D) (ci := ci) (v := am_cv ad v) (C := C) (T := T) (N := N) (fs := fs.map (am_cv ad)) hx hb hts c2 hown hK hP a (am_ws_get hw) c1 kk h2 (hts _ h3) (fun _ h9 => h9) (by rw [List.getElem?_map, hv]; rfl) hd (k H locs ls hP hD hS hl)
          · cases h
      · cases h
    · cases h
  · cases h
theorem am_g_putf (hX : am_X D cA ad fm co cc nL p s m args c A) {idx pc : Nat} {L : am_L} {S : List Value} {w : am_W} {q' : am_St} (h : am_putf co idx pc L S w = some q') (hd : decode cc pc = .ok (.putfield idx, 3)) (k : am_G D cA ad A p l e R s m args below meth c nL cells slots Q q') : am_G D cA ad A p l e R s m args below meth c nL cells slots Q (pc, L, S, w) := by
  intro H locs ls hP hD hS hl
  obtain ⟨hx, hb, hml, hown, hts, hK, hKn, hA⟩ := hX
  unfold am_putf at h
  split at h
  · rename_i v a st
    split at h
    · rename_i ci kk tg hf
      split at h
      · rename_i cj fs hw
        generalize hg : (Nat.beq ci cj && Nat.blt kk fs.length && am_vt v tg) = g at h
        cases g with
        | false => cases h
        | true =>
          have h1 := Option.some.inj h
          subst h1
          simp only [Bool.and_eq_true] at hg
          obtain ⟨⟨hc, hlen⟩, hv⟩ := hg
          have hcj := Nat.eq_of_beq_eq_true hc
          subst hcj
          have hlen' : kk < fs.length := Nat.lt_of_lt_of_le (Nat.lt_succ_self kk) (Nat.le_of_ble_eq_true hlen)
          obtain ⟨C, T, N, ty0, ⟨c1, c2, c3, c4⟩, h2, h3, h4, h5, -⟩ := pr_flok hf
          have fin : ∀ (ty : FieldType), ty0 kk = ty → (T kk).2.2.2 = false → narrow ty (am_cv ad v) = am_cv ad v → fits ty (am_cv ad v) = true → W p l e R s m args below meth c H locs cells slots Q (F0 m pc ls (am_cv ad v :: .ref (ad a) :: st.map (am_cv ad))) := by
            intro ty e1 e2 e3 e4
            refine va_put (D := D) (ci := ci) (v := am_cv ad v) (ty := ty) (C := C) (T := T) (N := N) (fs := fs.map (am_cv ad)) hx hb hts c2 ty0 c3 c4 hown hK hP hD hS a (am_ws_get hw) c1 kk h2 (hts _ h3) (fun _ h9 => h9) e2 (by rw [← e1]; exact c3 kk h2) e3 e4 (by rw [List.length_map]; exact hlen') hd (fun H1 locs1 hP1 hD1 hS1 => ?_)
            have e5 : (am_ws cA ad w).set a (ad a, .inr (ci, (fs.map (am_cv ad)).set kk (am_cv ad v))) = am_ws cA ad (w.set a (.inr (ci, fs.set kk v))) := by
              rw [← am_ws_set]
              simp only [am_ce, List.map_set]
            rw [e5] at hP1 hD1
            exact k H1 locs1 ls hP1 hD1 hS1 hl
          cases v with
          | int x =>
            obtain ⟨g1, g2⟩ := h4 (Nat.eq_of_beq_eq_true hv)
            exact fin .int g1 g2 rfl rfl
          | long x =>
            obtain ⟨g1, g2⟩ := h5 (Nat.eq_of_beq_eq_true hv)
            exact fin .long g1 g2 rfl rfl
          | _ => cases hv
      · cases h
    · cases h
  · cases h
theorem am_ldcwS {H : Heap} {locs : List Loc} {pc : Nat} {ls : Array Slot} {rest : List Value} (hexec : p.tables.exec = Jvm.exec) (hb : c.code = cc) {own tx : String} {index q : Nat} (hown : s.vm.findClass own = some m.cls) (hZ : vk_R own index tx q s) (hdg : decode cc pc = .ok (.ldc_w index, 3))
    (k : W p l e R s m args below meth c H locs cells slots Q (F0 m (pc + 3) ls (.ref q :: rest))) : W p l e R s m args below meth c H locs cells slots Q (F0 m pc ls rest) := by
  intro T hT X
  obtain ⟨t, a1, b1⟩ := k T hT X
  exact ⟨t, Stand.ldcStringW X hexec hown (text := tx) (a := q) hZ.1 hZ.2 (g := F0 m pc ls rest) rfl (by rw [hb]; exact hdg) t a1, b1⟩
set_option maxHeartbeats 4000000 in
set_option maxRecDepth 100000 in
theorem am_sim (hX : am_X D cA ad fm co cc nL p s m args c A) {ins : Instr} {pc len : Nat} {L : am_L} {S : List Value} {w : am_W} {q' : am_St} (h : am_ins co nL ins pc L S w = some q') (hd : decode cc pc = .ok (ins, len)) (hlen : am_len ins = len ∨ am_len ins = 0) (k : am_G D cA ad A p l e R s m args below meth c nL cells slots Q q') : am_G D cA ad A p l e R s m args below meth c nL cells slots Q (pc, L, S, w) := by
  have hX0 := hX
  obtain ⟨hx, hb, hml, hown, hts, hK, hKn, hA⟩ := hX0
  unfold am_ins at h
  split at h
  · rcases hlen with hlen | hlen
    · subst hlen
      have h1 := Option.some.inj h
      subst h1
      intro H locs ls hP hD hS hl
      exact lv_iconst hx hb hd rfl (k H locs ls hP hD hS hl)
    · cases hlen
  · rcases hlen with hlen | hlen
    · subst hlen
      have h1 := Option.some.inj h
      subst h1
      intro H locs ls hP hD hS hl
      exact lv_bipush hx hb hd rfl (k H locs ls hP hD hS hl)
    · cases hlen
  · rcases hlen with hlen | hlen
    · subst hlen
      have h1 := Option.some.inj h
      subst h1
      intro H locs ls hP hD hS hl
      exact lv_sipush hx hb hd rfl (k H locs ls hP hD hS hl)
    · cases hlen
  · rcases hlen with hlen | hlen
    · subst hlen
      have h1 := Option.some.inj h
      subst h1
      intro H locs ls hP hD hS hl
      exact lv_lconst hx hb hd rfl (k H locs ls hP hD hS hl)
    · cases hlen
  · rcases hlen with hlen | hlen
    · subst hlen
      have h1 := Option.some.inj h
      subst h1
      intro H locs ls hP hD hS hl
      exact lv_null hx hb hd (k H locs ls hP hD hS hl)
    · cases hlen
  · rcases hlen with hlen | hlen
    · subst hlen
      split at h
      · rename_i v hf
        have h1 := Option.some.inj h
        subst h1
        intro H locs ls hP hD hS hl
        exact lv_ldc2 hx hb hown (hts _ (pr_lgok hf)) hd (k H locs ls hP hD hS hl)
      · cases h
    · cases hlen
  · rcases hlen with hlen | hlen
    · subst hlen
      split at h
      · rename_i i hf
        have h1 := Option.some.inj h
        subst h1
        intro H locs ls hP hD hS hl
        obtain ⟨tx, bs, hs⟩ := pr_ssok hf
        exact va_ldcS hx hb hown (hKn.1 _ _ _ _ _ hs).1 hd (k H locs ls hP hD hS hl)
      · cases h
    · cases hlen
  · rcases hlen with hlen | hlen
    · subst hlen
      split at h
      · rename_i i hf
        have h1 := Option.some.inj h
        subst h1
        intro H locs ls hP hD hS hl
        obtain ⟨tx, bs, hs⟩ := pr_ssok hf
        exact am_ldcwS hx hb hown (hKn.1 _ _ _ _ _ hs).1 hd (k H locs ls hP hD hS hl)
      · cases h
    · cases hlen
  · rcases hlen with hlen | hlen
    · subst hlen
      split at h
      · rename_i x hf
        have h1 := Option.some.inj h
        subst h1
        intro H locs ls hP hD hS hl
        exact lv_iload hx hb hd (am_has_at hl (am_loc_get hf)) (k H locs ls hP hD hS hl)
      · cases h
    · cases hlen
  · rcases hlen with hlen | hlen
    · subst hlen
      split at h
      · rename_i x hf
        have h1 := Option.some.inj h
        subst h1
        intro H locs ls hP hD hS hl
        exact lv_iload_n hx hb hd rfl (am_has_at hl (am_loc_get hf)) (k H locs ls hP hD hS hl)
      · cases h
    · cases hlen
  · rcases hlen with hlen | hlen
    · subst hlen
      split at h
      · rename_i x hf
        have h1 := Option.some.inj h
        subst h1
        intro H locs ls hP hD hS hl
        exact lv_lload hx hb hd (am_has_at hl (am_loc_get hf)) (k H locs ls hP hD hS hl)
      · cases h
    · cases hlen
  · rcases hlen with hlen | hlen
    · subst hlen
      split at h
      · rename_i x hf
        have h1 := Option.some.inj h
        subst h1
        intro H locs ls hP hD hS hl
        exact lv_lload_n hx hb hd rfl (am_has_at hl (am_loc_get hf)) (k H locs ls hP hD hS hl)
      · cases h
    · cases hlen
  · rcases hlen with hlen | hlen
    · subst hlen
      split at h
      · rename_i x hf
        have h1 := Option.some.inj h
        subst h1
        intro H locs ls hP hD hS hl
        exact lv_aload hx hb hd (am_has_at hl (am_loc_get hf)) (k H locs ls hP hD hS hl)
      · rename_i hf
        have h1 := Option.some.inj h
        subst h1
        intro H locs ls hP hD hS hl
        exact lv_aloadN hx hb hd (am_has_at hl (am_loc_get hf)) (k H locs ls hP hD hS hl)
      · cases h
    · cases hlen
  · rcases hlen with hlen | hlen
    · subst hlen
      split at h
      · rename_i x hf
        have h1 := Option.some.inj h
        subst h1
        intro H locs ls hP hD hS hl
        exact lv_aload_n hx hb hd rfl (am_has_at hl (am_loc_get hf)) (k H locs ls hP hD hS hl)
      · rename_i hf
        have h1 := Option.some.inj h
        subst h1
        intro H locs ls hP hD hS hl
        exact lv_aload_nN hx hb hd rfl (am_has_at hl (am_loc_get hf)) (k H locs ls hP hD hS hl)
      · cases h
    · cases hlen
  · rename_i kv
    rcases hlen with hlen | hlen
    · subst hlen
      split at h
      · rename_i x st
        generalize hg : Nat.blt kv nL = g at h
        cases g with
        | false => cases h
        | true =>
          have h1 := Option.some.inj h
          subst h1
          have hn := Nat.le_of_ble_eq_true hg
          intro H locs ls hP hD hS hl
          exact lv_istore hx hb hd hl hn rfl (fun ls1 hl1 => k H locs ls1 hP hD hS (am_has_sto1 hl1))
      · cases h
    · cases hlen
  · rename_i kv
    rcases hlen with hlen | hlen
    · subst hlen
      split at h
      · rename_i x st
        generalize hg : Nat.blt (kv : Nat) nL = g at h
        cases g with
        | false => cases h
        | true =>
          have h1 := Option.some.inj h
          subst h1
          have hn := Nat.le_of_ble_eq_true hg
          intro H locs ls hP hD hS hl
          exact lv_istore_n hx hb hd rfl hl hn rfl (fun ls1 hl1 => k H locs ls1 hP hD hS (am_has_sto1 hl1))
      · cases h
    · cases hlen
  · rename_i kv
    rcases hlen with hlen | hlen
    · subst hlen
      split at h
      · rename_i x st
        generalize hg : Nat.blt kv nL = g at h
        cases g with
        | false => cases h
        | true =>
          have h1 := Option.some.inj h
          subst h1
          have hn := Nat.le_of_ble_eq_true hg
          intro H locs ls hP hD hS hl
          exact lv_astore hx hb hd hl hn rfl (fun ls1 hl1 => k H locs ls1 hP hD hS (am_has_sto1 hl1))
      · cases h
    · cases hlen
  · rename_i kv
    rcases hlen with hlen | hlen
    · subst hlen
      split at h
      · rename_i x st
        generalize hg : Nat.blt (kv : Nat) nL = g at h
        cases g with
        | false => cases h
        | true =>
          have h1 := Option.some.inj h
          subst h1
          have hn := Nat.le_of_ble_eq_true hg
          intro H locs ls hP hD hS hl
          exact lv_astore_n hx hb hd rfl hl hn rfl (fun ls1 hl1 => k H locs ls1 hP hD hS (am_has_sto1 hl1))
      · cases h
    · cases hlen
  · rename_i kv
    rcases hlen with hlen | hlen
    · subst hlen
      split at h
      · rename_i x st
        generalize hg : Nat.blt (kv + 1) nL = g at h
        cases g with
        | false => cases h
        | true =>
          have h1 := Option.some.inj h
          subst h1
          have hn := Nat.le_of_ble_eq_true hg
          intro H locs ls hP hD hS hl
          exact lv_lstore hx hb hd hl hn rfl (fun ls1 hl1 => k H locs ls1 hP hD hS (am_has_sto2 hl1))
      · cases h
    · cases hlen
  · rename_i kv
    rcases hlen with hlen | hlen
    · subst hlen
      split at h
      · rename_i x st
        generalize hg : Nat.blt ((kv : Nat) + 1) nL = g at h
        cases g with
        | false => cases h
        | true =>
          have h1 := Option.some.inj h
          subst h1
          have hn := Nat.le_of_ble_eq_true hg
          intro H locs ls hP hD hS hl
          exact lv_lstore_n hx hb hd rfl hl hn rfl (fun ls1 hl1 => k H locs ls1 hP hD hS (am_has_sto2 hl1))
      · cases h
    · cases hlen
  · rename_i kv nv
    rcases hlen with hlen | hlen
    · subst hlen
      split at h
      · rename_i x hf
        generalize hg : Nat.blt kv nL = g at h
        cases g with
        | false => cases h
        | true =>
          have h1 := Option.some.inj h
          subst h1
          have hn := Nat.le_of_ble_eq_true hg
          intro H locs ls hP hD hS hl
          obtain ⟨j, hj⟩ := List.getElem?_of_mem (am_lv_mem (ad := ad) (q := (kv, Value.int x)).mpr ⟨_, am_loc_get hf, rfl⟩)
          exact lv_iinc hx hb hd hl hj rfl hn rfl (fun ls1 hl1 => k H locs ls1 hP hD hS (am_has_sto1 (v := .int (x + Int32.ofInt nv)) hl1))
      · cases h
    · cases hlen
  · rcases hlen with hlen | hlen
    · subst hlen
      split at h
      · have h1 := Option.some.inj h
        subst h1
        intro H locs ls hP hD hS hl
        exact lv_iadd hx hb hd (k H locs ls hP hD hS hl)
      · cases h
    · cases hlen
  · rcases hlen with hlen | hlen
    · subst hlen
      split at h
      · have h1 := Option.some.inj h
        subst h1
        intro H locs ls hP hD hS hl
        exact lv_isub hx hb hd (k H locs ls hP hD hS hl)
      · cases h
    · cases hlen
  · rcases hlen with hlen | hlen
    · subst hlen
      split at h
      · have h1 := Option.some.inj h
        subst h1
        intro H locs ls hP hD hS hl
        exact lv_imul hx hb hd (k H locs ls hP hD hS hl)
      · cases h
    · cases hlen
  · rcases hlen with hlen | hlen
    · subst hlen
      split at h
      · have h1 := Option.some.inj h
        subst h1
        intro H locs ls hP hD hS hl
        exact lv_iand hx hb hd (k H locs ls hP hD hS hl)
      · cases h
    · cases hlen
  · rcases hlen with hlen | hlen
    · subst hlen
      split at h
      · have h1 := Option.some.inj h
        subst h1
        intro H locs ls hP hD hS hl
        exact lv_ior hx hb hd (k H locs ls hP hD hS hl)
      · cases h
    · cases hlen
  · rcases hlen with hlen | hlen
    · subst hlen
      split at h
      · have h1 := Option.some.inj h
        subst h1
        intro H locs ls hP hD hS hl
        exact lv_ixor hx hb hd (k H locs ls hP hD hS hl)
      · cases h
    · cases hlen
  · rcases hlen with hlen | hlen
    · subst hlen
      split at h
      · have h1 := Option.some.inj h
        subst h1
        intro H locs ls hP hD hS hl
        exact lv_ishl hx hb hd (k H locs ls hP hD hS hl)
      · cases h
    · cases hlen
  · rcases hlen with hlen | hlen
    · subst hlen
      split at h
      · have h1 := Option.some.inj h
        subst h1
        intro H locs ls hP hD hS hl
        exact lv_ishr hx hb hd (k H locs ls hP hD hS hl)
      · cases h
    · cases hlen
  · rcases hlen with hlen | hlen
    · subst hlen
      split at h
      · have h1 := Option.some.inj h
        subst h1
        intro H locs ls hP hD hS hl
        exact lv_iushr hx hb hd rfl (k H locs ls hP hD hS hl)
      · cases h
    · cases hlen
  · rcases hlen with hlen | hlen
    · subst hlen
      split at h
      · rename_i y x st
        generalize hg : decide (y = 0) = g at h
        cases g with
        | true => cases h
        | false =>
          have h1 := Option.some.inj h
          subst h1
          intro H locs ls hP hD hS hl
          exact lv_idiv hx hb hd (of_decide_eq_false hg) (k H locs ls hP hD hS hl)
      · cases h
    · cases hlen
  · rcases hlen with hlen | hlen
    · subst hlen
      split at h
      · rename_i y x st
        generalize hg : decide (y = 0) = g at h
        cases g with
        | true => cases h
        | false =>
          have h1 := Option.some.inj h
          subst h1
          intro H locs ls hP hD hS hl
          exact lv_irem hx hb hd (of_decide_eq_false hg) (k H locs ls hP hD hS hl)
      · cases h
    · cases hlen
  · rcases hlen with hlen | hlen
    · subst hlen
      split at h
      · have h1 := Option.some.inj h
        subst h1
        intro H locs ls hP hD hS hl
        exact lv_ladd hx hb hd (k H locs ls hP hD hS hl)
      · cases h
    · cases hlen
  · rcases hlen with hlen | hlen
    · subst hlen
      split at h
      · have h1 := Option.some.inj h
        subst h1
        intro H locs ls hP hD hS hl
        exact lv_lsub hx hb hd (k H locs ls hP hD hS hl)
      · cases h
    · cases hlen
  · rcases hlen with hlen | hlen
    · subst hlen
      split at h
      · have h1 := Option.some.inj h
        subst h1
        intro H locs ls hP hD hS hl
        exact lv_lmul hx hb hd (k H locs ls hP hD hS hl)
      · cases h
    · cases hlen
  · rcases hlen with hlen | hlen
    · subst hlen
      split at h
      · have h1 := Option.some.inj h
        subst h1
        intro H locs ls hP hD hS hl
        exact lv_land hx hb hd (k H locs ls hP hD hS hl)
      · cases h
    · cases hlen
  · rcases hlen with hlen | hlen
    · subst hlen
      split at h
      · have h1 := Option.some.inj h
        subst h1
        intro H locs ls hP hD hS hl
        exact lv_lor hx hb hd (k H locs ls hP hD hS hl)
      · cases h
    · cases hlen
  · rcases hlen with hlen | hlen
    · subst hlen
      split at h
      · have h1 := Option.some.inj h
        subst h1
        intro H locs ls hP hD hS hl
        exact lv_lxor hx hb hd (k H locs ls hP hD hS hl)
      · cases h
    · cases hlen
  · rcases hlen with hlen | hlen
    · subst hlen
      split at h
      · rename_i y x st
        generalize hg : decide (y = 0) = g at h
        cases g with
        | true => cases h
        | false =>
          have h1 := Option.some.inj h
          subst h1
          intro H locs ls hP hD hS hl
          exact lv_ldiv hx hb hd (of_decide_eq_false hg) (k H locs ls hP hD hS hl)
      · cases h
    · cases hlen
  · rcases hlen with hlen | hlen
    · subst hlen
      split at h
      · rename_i y x st
        generalize hg : decide (y = 0) = g at h
        cases g with
        | true => cases h
        | false =>
          have h1 := Option.some.inj h
          subst h1
          intro H locs ls hP hD hS hl
          exact lv_lrem hx hb hd (of_decide_eq_false hg) (k H locs ls hP hD hS hl)
      · cases h
    · cases hlen
  · rcases hlen with hlen | hlen
    · subst hlen
      split at h
      · have h1 := Option.some.inj h
        subst h1
        intro H locs ls hP hD hS hl
        exact lv_lshl hx hb hd rfl (k H locs ls hP hD hS hl)
      · cases h
    · cases hlen
  · rcases hlen with hlen | hlen
    · subst hlen
      split at h
      · have h1 := Option.some.inj h
        subst h1
        intro H locs ls hP hD hS hl
        exact lv_lshr hx hb hd rfl (k H locs ls hP hD hS hl)
      · cases h
    · cases hlen
  · rcases hlen with hlen | hlen
    · subst hlen
      split at h
      · have h1 := Option.some.inj h
        subst h1
        intro H locs ls hP hD hS hl
        exact lv_lushr hx hb hd rfl (k H locs ls hP hD hS hl)
      · cases h
    · cases hlen
  · rcases hlen with hlen | hlen
    · subst hlen
      split at h
      · have h1 := Option.some.inj h
        subst h1
        intro H locs ls hP hD hS hl
        exact W.lcmp hx hb hd (k H locs ls hP hD hS hl)
      · cases h
    · cases hlen
  · rcases hlen with hlen | hlen
    · subst hlen
      split at h
      · have h1 := Option.some.inj h
        subst h1
        intro H locs ls hP hD hS hl
        exact lv_i2l hx hb hd rfl (k H locs ls hP hD hS hl)
      · cases h
    · cases hlen
  · rcases hlen with hlen | hlen
    · subst hlen
      split at h
      · have h1 := Option.some.inj h
        subst h1
        intro H locs ls hP hD hS hl
        exact lv_l2i hx hb hd rfl (k H locs ls hP hD hS hl)
      · cases h
    · cases hlen
  · rcases hlen with hlen | hlen
    · subst hlen
      split at h
      · have h1 := Option.some.inj h
        subst h1
        intro H locs ls hP hD hS hl
        exact lv_i2b hx hb hd rfl (k H locs ls hP hD hS hl)
      · cases h
    · cases hlen
  · rcases hlen with hlen | hlen
    · subst hlen
      split at h
      · have h1 := Option.some.inj h
        subst h1
        intro H locs ls hP hD hS hl
        exact lv_i2s hx hb hd rfl (k H locs ls hP hD hS hl)
      · cases h
    · cases hlen
  · rcases hlen with hlen | hlen
    · subst hlen
      split at h
      · have h1 := Option.some.inj h
        subst h1
        intro H locs ls hP hD hS hl
        exact lv_i2c hx hb hd rfl (k H locs ls hP hD hS hl)
      · cases h
    · cases hlen
  · rcases hlen with hlen | hlen
    · subst hlen
      split at h
      · have h1 := Option.some.inj h
        subst h1
        intro H locs ls hP hD hS hl
        exact lv_ineg hx hb hd (k H locs ls hP hD hS hl)
      · cases h
    · cases hlen
  · rcases hlen with hlen | hlen
    · subst hlen
      split at h
      · have h1 := Option.some.inj h
        subst h1
        intro H locs ls hP hD hS hl
        exact lv_lneg hx hb hd (k H locs ls hP hD hS hl)
      · cases h
    · cases hlen
  · rcases hlen with hlen | hlen
    · subst hlen
      split at h
      · rename_i v st
        generalize hg : (Nat.beq v.category 1) = g at h
        cases g with
        | false => cases h
        | true =>
          have h1 := Option.some.inj h
          subst h1
          intro H locs ls hP hD hS hl
          exact lv_dup hx hb hd (by rw [am_cv_cat]; exact Nat.eq_of_beq_eq_true hg) (k H locs ls hP hD hS hl)
      · cases h
    · cases hlen
  · rcases hlen with hlen | hlen
    · subst hlen
      split at h
      · rename_i v st
        generalize hg : (Nat.beq v.category 1) = g at h
        cases g with
        | false => cases h
        | true =>
          have h1 := Option.some.inj h
          subst h1
          intro H locs ls hP hD hS hl
          exact lv_pop hx hb hd (by rw [am_cv_cat]; exact Nat.eq_of_beq_eq_true hg) (k H locs ls hP hD hS hl)
      · cases h
    · cases hlen
  · rcases hlen with hlen | hlen
    · subst hlen
      split at h
      · rename_i v u st
        generalize hg : (Nat.beq v.category 1 && Nat.beq u.category 1) = g at h
        cases g with
        | false => cases h
        | true =>
          have h1 := Option.some.inj h
          subst h1
          simp only [Bool.and_eq_true] at hg
          intro H locs ls hP hD hS hl
          exact lv_dup_x1 hx hb hd (by rw [am_cv_cat]; exact Nat.eq_of_beq_eq_true hg.1) (by rw [am_cv_cat]; exact Nat.eq_of_beq_eq_true hg.2) (k H locs ls hP hD hS hl)
      · cases h
    · cases hlen
  · rcases hlen with hlen | hlen
    · subst hlen
      split at h
      · rename_i v u st
        generalize hg : (Nat.beq v.category 1 && Nat.beq u.category 1) = g at h
        cases g with
        | false => cases h
        | true =>
          have h1 := Option.some.inj h
          subst h1
          simp only [Bool.and_eq_true] at hg
          intro H locs ls hP hD hS hl
          exact lv_dup2_11 hx hb hd (by rw [am_cv_cat]; exact Nat.eq_of_beq_eq_true hg.1) (by rw [am_cv_cat]; exact Nat.eq_of_beq_eq_true hg.2) (k H locs ls hP hD hS hl)
      · cases h
    · cases hlen
  · rename_i off
    rcases hlen with hlen | hlen
    · subst hlen
      generalize hg : decide (0 ≤ (pc : Int) + off) = g at h
      cases g with
      | false => cases h
      | true =>
        have h1 := Option.some.inj h
        subst h1
        intro H locs ls hP hD hS hl
        exact lv_goto hx hb hd (am_tg_eq hg) (k H locs ls hP hD hS hl)
    · cases hlen
  · rcases hlen with hlen | hlen
    · subst hlen
      split at h
      · split at h
        · obtain ⟨h1, h2, h3⟩ := am_g_br h k
          intro H locs ls hP hD hS hl
          exact lv_if_eq hx hb hd h1 (fun z => h2 z H locs ls hP hD hS hl) (fun z => h3 z H locs ls hP hD hS hl)
        · obtain ⟨h1, h2, h3⟩ := am_g_brn h k
          intro H locs ls hP hD hS hl
          exact lv_if_ne hx hb hd h1 (fun z => h2 z H locs ls hP hD hS hl) (fun z => h3 z H locs ls hP hD hS hl)
        · obtain ⟨h1, h2, h3⟩ := am_g_br h k
          intro H locs ls hP hD hS hl
          exact lv_if_lt hx hb hd h1 (fun z => h2 z H locs ls hP hD hS hl) (fun z => h3 z H locs ls hP hD hS hl)
        · obtain ⟨h1, h2, h3⟩ := am_g_br h k
          intro H locs ls hP hD hS hl
          exact lv_if_ge hx hb hd h1 (fun z => h2 z H locs ls hP hD hS hl) (fun z => h3 z H locs ls hP hD hS hl)
        · obtain ⟨h1, h2, h3⟩ := am_g_br h k
          intro H locs ls hP hD hS hl
          exact lv_if_gt hx hb hd h1 (fun z => h2 z H locs ls hP hD hS hl) (fun z => h3 z H locs ls hP hD hS hl)
        · obtain ⟨h1, h2, h3⟩ := am_g_br h k
          intro H locs ls hP hD hS hl
          exact lv_if_le hx hb hd h1 (fun z => h2 z H locs ls hP hD hS hl) (fun z => h3 z H locs ls hP hD hS hl)
      · cases h
    · cases hlen
  · rcases hlen with hlen | hlen
    · subst hlen
      split at h
      · split at h
        · obtain ⟨h1, h2, h3⟩ := am_g_br h k
          intro H locs ls hP hD hS hl
          exact lv_icmp_eq hx hb hd h1 (fun z => h2 z H locs ls hP hD hS hl) (fun z => h3 z H locs ls hP hD hS hl)
        · obtain ⟨h1, h2, h3⟩ := am_g_brn h k
          intro H locs ls hP hD hS hl
          exact lv_icmp_ne hx hb hd h1 (fun z => h2 z H locs ls hP hD hS hl) (fun z => h3 z H locs ls hP hD hS hl)
        · obtain ⟨h1, h2, h3⟩ := am_g_br h k
          intro H locs ls hP hD hS hl
          exact lv_icmp_lt hx hb hd h1 (fun z => h2 z H locs ls hP hD hS hl) (fun z => h3 z H locs ls hP hD hS hl)
        · obtain ⟨h1, h2, h3⟩ := am_g_br h k
          intro H locs ls hP hD hS hl
          exact lv_icmp_ge hx hb hd h1 (fun z => h2 z H locs ls hP hD hS hl) (fun z => h3 z H locs ls hP hD hS hl)
        · obtain ⟨h1, h2, h3⟩ := am_g_br h k
          intro H locs ls hP hD hS hl
          exact lv_icmp_gt hx hb hd h1 (fun z => h2 z H locs ls hP hD hS hl) (fun z => h3 z H locs ls hP hD hS hl)
        · obtain ⟨h1, h2, h3⟩ := am_g_br h k
          intro H locs ls hP hD hS hl
          exact lv_icmp_le hx hb hd h1 (fun z => h2 z H locs ls hP hD hS hl) (fun z => h3 z H locs ls hP hD hS hl)
      · cases h
    · cases hlen
  · rename_i d lo hi offs
    split at h
    · rename_i x st
      generalize hg : (decide (0 ≤ (pc : Int) + d) && decide (offs.size = (hi - lo + 1).toNat) && decide (lo ≤ hi) && offs.all (fun q => decide (0 ≤ (pc : Int) + q))) = g at h
      cases g with
      | false => cases h
      | true =>
        have h1 := Option.some.inj h
        subst h1
        simp only [Bool.and_eq_true, decide_eq_true_eq] at hg
        obtain ⟨⟨⟨g1, g2⟩, g3⟩, g4⟩ := hg
        intro H locs ls hP hD hS hl
        by_cases hz : x.toInt < lo ∨ hi < x.toInt
        · refine lv_tableOut (tgt := am_tg pc d) hx hb hd hz (am_tg_eq (decide_eq_true g1)) ?_
          have := k H locs ls hP hD hS hl
          simpa only [am_tsw, if_pos hz] using this
        · have hin : (x.toInt - lo).toNat < offs.size := by omega
          have ho : offs[(x.toInt - lo).toNat]? = some (offs[(x.toInt - lo).toNat]) := Array.getElem?_eq_getElem hin
          have hall : 0 ≤ (pc : Int) + offs[(x.toInt - lo).toNat] := by
            have := Array.all_eq_true.mp g4 _ hin
            exact of_decide_eq_true this
          refine lv_tableIn (tgt := am_tg pc offs[(x.toInt - lo).toNat]) hx hb hd (fun z => hz (Or.inl z)) (fun z => hz (Or.inr z)) ho (am_tg_eq (decide_eq_true hall)) ?_
          have := k H locs ls hP hD hS hl
          have e1 : am_tsw pc d lo hi offs x = am_tg pc offs[(x.toInt - lo).toNat] := by
            unfold am_tsw
            rw [if_neg hz, Array.getD_eq_getD_getElem?, ho]
            rfl
          rw [e1] at this
          exact this
    · cases h
  · rename_i d ps
    split at h
    · rename_i x st
      generalize hg : (decide (0 ≤ (pc : Int) + d) && ((ps.toList.zip (ps.toList.drop 1)).all (fun q => decide (q.1.1 < q.2.1))) && ps.toList.all (fun q => decide (0 ≤ (pc : Int) + q.2))) = g at h
      cases g with
      | false => cases h
      | true =>
        have h1 := Option.some.inj h
        subst h1
        simp only [Bool.and_eq_true] at hg
        obtain ⟨⟨g1, g2⟩, g3⟩ := hg
        intro H locs ls hP hD hS hl
        have hoff : ∀ (r : List (Int × Int)), (∀ q ∈ r, 0 ≤ (pc : Int) + q.2) → 0 ≤ (pc : Int) + Op.lookupswitch.offset r d x.toInt := by
          intro r
          induction r with
          | nil => intro _; exact of_decide_eq_true g1
          | cons q r ih =>
            intro hr
            unfold Op.lookupswitch.offset
            by_cases hq : q.1 = x.toInt
            · simp [hq]
              exact hr q List.mem_cons_self
            · have := ih (fun z hz => hr z (List.mem_cons_of_mem _ hz))
              simp [hq]
              exact this
        exact lv_lookup (tgt := am_tg pc (Op.lookupswitch.offset ps.toList d x.toInt)) hx hb hd (by simpa using g2) rfl (am_tg_eq (decide_eq_true (hoff _ (fun q hq => of_decide_eq_true (List.all_eq_true.mp g3 q hq))))) (k H locs ls hP hD hS hl)
    · cases h
  · rcases hlen with hlen | hlen
    · subst hlen
      exact am_g_getf hX h hd k
    · cases hlen
  · rcases hlen with hlen | hlen
    · subst hlen
      exact am_g_putf hX h hd k
    · cases hlen
  · cases h
theorem am_g_step (hX : am_X D cA ad fm co cc nL p s m args c A) {tb : Nat → Option (Instr × Nat)} (ht : am_dok cc tb) {q q' : am_St} (h : am_step co nL tb q = some q') (k : am_G D cA ad A p l e R s m args below meth c nL cells slots Q q') : am_G D cA ad A p l e R s m args below meth c nL cells slots Q q := by
  unfold am_step at h
  split at h
  · rename_i ins len hf
    generalize hg : (Nat.beq (am_len ins) len || Nat.beq (am_len ins) 0) = g at h
    cases g with
    | false => cases h
    | true =>
      simp only [Bool.or_eq_true] at hg
      exact am_sim hX h (ht _ _ hf) (hg.imp Nat.eq_of_beq_eq_true Nat.eq_of_beq_eq_true) k
  · cases h
theorem am_g_steps (hX : am_X D cA ad fm co cc nL p s m args c A) {tb : Nat → Option (Instr × Nat)} (ht : am_dok cc tb) : ∀ (n : Nat) {q q' : am_St}, am_steps co nL tb n q = some q' → am_G D cA ad A p l e R s m args below meth c nL cells slots Q q' → am_G D cA ad A p l e R s m args below meth c nL cells slots Q q
  | 0, q, q', h, k => by cases h; exact k
  | n + 1, q, q', h, k => by
    unfold am_steps at h
    split at h
    · rename_i q1 h1
      exact am_g_step hX ht h1 (am_g_steps hX ht n h k)
    · cases h
/-- fewer locals -/
theorem am_g_less {pc : Nat} {L L' : am_L} {S : List Value} {w : am_W} (hl : am_less L' L) (k : am_G D cA ad A p l e R s m args below meth c nL cells slots Q (pc, L', S, w)) : am_G D cA ad A p l e R s m args below meth c nL cells slots Q (pc, L, S, w) :=
  fun H locs ls hP hD hS h => k H locs ls hP hD hS (am_has_less h hl)
end AMS
