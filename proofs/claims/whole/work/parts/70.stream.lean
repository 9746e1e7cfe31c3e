/-! STREAMS: what is read of them -/
def tpL (b : Nat → Int32) (f : Nat) : Nat → List Int32
  | 0 => []
  | m + 1 => tpL b f m ++ [b (f + m)]
theorem tpL_len (b : Nat → Int32) (f : Nat) : ∀ m, (tpL b f m).length = m
  | 0 => rfl
  | m + 1 => by rw [tpL, List.length_append, tpL_len b f m]; rfl
def tlO (x : Int64) : Option Nat := if x < 0 then none else some x.toNatClampNeg
def slP (b : Nat → Int32) (w : Nat) : Nat := if b (w + 6) = 13 then w + 7 else w + 6
abbrev StL : Type := (Int32 × Nat × Int32) ⊕ (List Int32 × Nat × Int32)
def stE (b : Nat → Int32) (w f len e : Nat) (bit : Int32) : StL := if 400 < len then .inl (8, w, bit) else .inr (tpL b f len, e, bit)
def stR (n : Nat) (b : Nat → Int32) (w : Nat) (tm : Option Nat) : StL :=
  if b (slP b w) = 10 then
    match (match tm with
      | some m => if wdA b st_9 (leE b (slP b w + 1 + m)) = true then some m else none
      | none => none) with
    | some m => stE b w (slP b w + 1) m (leE b (slP b w + 1 + m) + 9) 0
    | none => match txF b st_9 (n - (slP b w + 1)) (slP b w + 1) with
      | none => .inl (8, w, 0)
      | some e => stE b w (slP b w + 1) (blE b (slP b w + 1) e - (slP b w + 1)) (e + 9) 4
  else .inl (if slP b w < n then 2 else 1, slP b w, 0)
/-- a stream's value -/
def vtS (V : VT) (v dc : Nat) (bs : List Int32) : VT := (upd V.1 v 9, vp_updL V.2.1 v 0, va_up V.2.2.1 v [dc], va_up V.2.2.2 v bs)
theorem vtS_byte (V : VT) (v dc : Nat) (bs : List Int32) (c : Int32) : vtByte (vtS V v dc bs) v c = vtS V v dc (bs ++ [c]) := by
  unfold vtByte vtS
  simp only [up_up, up_at]
theorem vtS_bs (V : VT) (v dc : Nat) (bs : List Int32) : (vtS V v dc bs).2.2.2 v = bs := up_at _ _ _
theorem vtS_part (V : VT) (v dc : Nat) : vtPart (vtLeaf V v 9 0 []) v dc = vtS V v dc [] := by
  unfold vtPart vtLeaf vtS
  simp only [up_up, up_at, List.nil_append]
theorem wdA_in {n : Nat} {b : Nat → Int32} (hb : ∀ k, n ≤ k → b k = -1) {k : Nat} (h : wdA b st_9 k = true) : k + 9 ≤ n := by
  unfold wdA at h
  have h1 : txA b st_9 k = true := (Bool.and_eq_true_iff.mp h).1
  have h2 : b (k + 8) = 109 := by
    simp only [st_9, txA, Bool.and_eq_true, decide_eq_true_eq] at h1
    exact h1.2.2.2.2.2.2.2.2.1
  rcases Nat.lt_or_ge (k + 8) n with g | g
  · omega
  · rw [hb _ g] at h2
    exact absurd h2 (by decide)
theorem txF_some {b : Nat → Int32} {bs : List Int32} : ∀ {f k e : Nat}, txF b bs f k = some e → k ≤ e ∧ e < k + f ∧ txA b bs e = true
  | 0, k, e, h => by cases h
  | f + 1, k, e, h => by
    rw [txF] at h
    split at h
    · rename_i hq
      cases h
      exact ⟨Nat.le_refl _, by omega, hq⟩
    · have := txF_some h
      exact ⟨by omega, by omega, this.2.2⟩
theorem txA_in {n : Nat} {b : Nat → Int32} (hb : ∀ k, n ≤ k → b k = -1) {k : Nat} (h1 : txA b st_9 k = true) : k + 9 ≤ n := by
  have h2 : b (k + 8) = 109 := by
    simp only [st_9, txA, Bool.and_eq_true, decide_eq_true_eq] at h1
    exact h1.2.2.2.2.2.2.2.2.1
  rcases Nat.lt_or_ge (k + 8) n with g | g
  · omega
  · rw [hb _ g] at h2
    exact absurd h2 (by decide)
theorem leE_ge (b : Nat → Int32) (k : Nat) : k ≤ leE b k ∧ leE b k ≤ k + 2 := by
  unfold leE
  split
  · omega
  · split <;> omega
theorem blE_bd (b : Nat → Int32) (f t : Nat) (h : f ≤ t) : f ≤ blE b f t ∧ blE b f t ≤ t := by
  unfold blE
  split
  · omega
  · split <;> omega
/-- where Length stands in no object's row yet -/
theorem fnO_skip {E E' : Nat → Nat → Int32} {a g : Int32} {no : Nat} (h : ∀ i, i < no → ∀ j, j < 8 → E' i j = E i j) (h2 : E' no 2 = -1) : fnO E' a g (no + 1) = fnO E a g no := by
  have key : ∀ m, m ≤ no → fnO E' a g m = fnO E a g m := by
    intro m
    induction m with
    | zero => intro _; rfl
    | succ m ih =>
      intro hm
      rw [fnO, fnO, h m (by omega) 0 (by omega), h m (by omega) 1 (by omega), h m (by omega) 2 (by omega), ih (by omega)]
  rw [fnO, if_neg (fun z => z.2.2 h2)]
  exact key no (Nat.le_refl _)
def obV (nv no : Nat) (E : Nat → Nat → Int32) : Prop := ∀ i, i < no → E i 2 = -1 ∨ ∃ w, w < nv ∧ E i 2 = nI w
section T70
variable {V : VT} {E : Nat → Nat → Int32} {no dc t w i w2 : Nat}
theorem tlN_0 (h : prF (isLn V) (V.2.2.1 dc) = none) : tlN V E no dc = -1 := by rw [tlN, h]
theorem tlN_2 (h : prF (isLn V) (V.2.2.1 dc) = some (t, w)) (h2 : V.1 w = 2) : tlN V E no dc = V.2.1 w := by rw [tlN, h]; exact if_pos h2
theorem tlN_n (h : prF (isLn V) (V.2.2.1 dc) = some (t, w)) (h2 : ¬ V.1 w = 2) (h8 : ¬ V.1 w = 8) : tlN V E no dc = -1 := by rw [tlN, h]; exact (if_neg h2).trans (if_neg h8)
theorem tlN_8 (h : prF (isLn V) (V.2.2.1 dc) = some (t, w)) (h8 : V.1 w = 8) : tlN V E no dc = (match fnO E (V.2.1 w - V.2.1 w / 1000000000 * 1000000000).toInt32 (V.2.1 w / 1000000000).toInt32 no with
    | none => -1
    | some i => if V.1 (E i 2).toNatClampNeg = 2 then V.2.1 (E i 2).toNatClampNeg else -1) := by rw [tlN, h]; exact (if_neg (by rw [h8]; decide)).trans (if_pos h8)
theorem tlN_8n (h : prF (isLn V) (V.2.2.1 dc) = some (t, w)) (h8 : V.1 w = 8) (hf : fnO E (V.2.1 w - V.2.1 w / 1000000000 * 1000000000).toInt32 (V.2.1 w / 1000000000).toInt32 no = none) : tlN V E no dc = -1 := by rw [tlN_8 h h8, hf]
theorem tlN_82 (h : prF (isLn V) (V.2.2.1 dc) = some (t, w)) (h8 : V.1 w = 8) (hf : fnO E (V.2.1 w - V.2.1 w / 1000000000 * 1000000000).toInt32 (V.2.1 w / 1000000000).toInt32 no = some i) (he : E i 2 = nI w2) (hw : w2 < 300) (h2 : V.1 w2 = 2) : tlN V E no dc = V.2.1 w2 := by
  rw [tlN_8 h h8, hf]
  show (if V.1 (E i 2).toNatClampNeg = 2 then V.2.1 (E i 2).toNatClampNeg else -1) = _
  rw [he, nI_clamp (by omega), if_pos h2]
theorem tlN_8x (h : prF (isLn V) (V.2.2.1 dc) = some (t, w)) (h8 : V.1 w = 8) (hf : fnO E (V.2.1 w - V.2.1 w / 1000000000 * 1000000000).toInt32 (V.2.1 w / 1000000000).toInt32 no = some i) (he : E i 2 = nI w2) (hw : w2 < 300) (h2 : ¬ V.1 w2 = 2) : tlN V E no dc = -1 := by
  rw [tlN_8 h h8, hf]
  show (if V.1 (E i 2).toNatClampNeg = 2 then V.2.1 (E i 2).toNatClampNeg else -1) = _
  rw [he, nI_clamp (by omega), if_neg h2]
end T70
/-- what a whole number comes to as a length -/
theorem nb_len {x : Int64} (h : x = -1 ∨ ∃ m, m < 1000000000 ∧ (x = lN m ∨ x = -(lN m))) : (∃ m, m < 1000000000 ∧ x = lN m ∧ x.toInt32 = nI m ∧ tlO x = some m) ∨ (x < 0 ∧ x.toInt32 < 0 ∧ tlO x = none) := by
  have neg : ∀ y : Int64, y < 0 → tlO y = none := fun y hy => if_pos hy
  have pos : ∀ m, m < 1000000000 → (∃ m', m' < 1000000000 ∧ lN m = lN m' ∧ (lN m).toInt32 = nI m' ∧ tlO (lN m) = some m') := fun m hm => by
    refine ⟨m, hm, rfl, lN_i m, ?_⟩
    have e1 : (lN m).toInt = (m : Int) := lN_toInt (by omega)
    unfold tlO
    rw [if_neg (fun z => by rw [Int64.lt_iff_toInt_lt, e1] at z; have : (0 : Int64).toInt = 0 := by decide
                            omega)]
    show some ((lN m).toInt.toNat) = some m
    rw [e1]
    rfl
  rcases h with h | ⟨m, hm, h | h⟩
  · subst h
    exact Or.inr ⟨by decide, by decide, neg _ (by decide)⟩
  · subst h
    exact Or.inl (pos m hm)
  · subst h
    rcases Nat.eq_zero_or_pos m with z | z
    · subst z
      exact Or.inl (pos 0 (by omega))
    · right
      have e1 : (lN m).toInt = (m : Int) := lN_toInt (by omega)
      have e2 : (-(lN m)).toInt = -(m : Int) := by
        rw [Int64.toInt_neg, e1]
        exact Int.bmod_eq_of_le (by omega) (by omega)
      have h1 : -(lN m) < 0 := by
        rw [Int64.lt_iff_toInt_lt, e2]
        have : (0 : Int64).toInt = 0 := by decide
        omega
      refine ⟨h1, ?_, neg _ h1⟩
      rw [Int32.lt_iff_toInt_lt, Int64.toInt_toInt32, e2]
      have : (0 : Int32).toInt = 0 := by decide
      rw [Int.bmod_eq_of_le (by omega) (by omega), this]
      omega
