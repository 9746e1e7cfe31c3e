/-! OBJECTS in rows, and what Length tells -/
def prF (p : Nat → Bool) : List Nat → Option (Nat × Nat)
  | k :: x :: r => if p k = true then some (k, x) else prF p r
  | _ => none
theorem prF_find {g : Nat → Int32} {p : Nat → Bool} : ∀ {ks : List Nat}, hld g ks → (keysOf ks).find? p = (prF p ks).map (fun z => z.1)
  | [], _ => rfl
  | [_], h => absurd h (by simp [hld])
  | k :: x :: r, h => by
    rw [keysOf, prF]
    by_cases hp : p k = true
    · rw [List.find?_cons_of_pos hp, if_pos hp]; rfl
    · rw [List.find?_cons_of_neg hp, if_neg hp]
      exact prF_find (ks := r) h.2
theorem prF_hld {g : Nat → Int32} {p : Nat → Bool} : ∀ {ks : List Nat} {k x : Nat}, hld g ks → prF p ks = some (k, x) → g k = nI x ∧ k ∈ ks ∧ x ∈ ks ∧ k ∈ keysOf ks ∧ p k = true
  | [], k, x, _, h => by cases h
  | [_], k, x, h0, h => by cases h
  | a :: c :: r, k, x, h0, h => by
    rw [prF] at h
    by_cases hp : p a = true
    · rw [if_pos hp] at h
      cases h
      exact ⟨h0.1, by simp, by simp, by simp [keysOf], hp⟩
    · rw [if_neg hp] at h
      obtain ⟨h1, h2, h3, h4, h5⟩ := prF_hld (ks := r) h0.2 h
      exact ⟨h1, by simp [h2], by simp [h3], by simp [keysOf, h4], h5⟩
/-- the latest object with a value, so called -/
def fnO (E : Nat → Nat → Int32) (a g : Int32) : Nat → Option Nat
  | 0 => none
  | i + 1 => if E i 0 = a ∧ E i 1 = g ∧ ¬ E i 2 = -1 then some i else fnO E a g i
theorem fnO_some {E : Nat → Nat → Int32} {a g : Int32} : ∀ {m i : Nat}, fnO E a g m = some i → i < m ∧ ¬ E i 2 = -1
  | 0, i, h => by cases h
  | m + 1, i, h => by
    rw [fnO] at h
    split at h
    · rename_i hc
      cases h
      exact ⟨by omega, hc.2.2⟩
    · have := fnO_some h
      exact ⟨by omega, this.2⟩
def obC (C : wd_C) (no : Nat) (E : Nat → Nat → Int32) : Prop := C.1 3 = nI no ∧ no ≤ 20 ∧ ∀ i, i < no → ∀ j, j < 8 → C.2.1 10 (i * 8 + j) = E i j
def obY (Y : wd_Y) (no : Nat) (E : Nat → Nat → Int32) : Prop := Y.1 2 = nI no ∧ no ≤ 20 ∧ ∀ i, i < no → ∀ j, j < 8 → Y.2.1 1 (8 * i + j) = E i j
/-- of each row: its value, or a fault; its numbers -/
def obI (nv no : Nat) (E : Nat → Nat → Int32) : Prop := ∀ i, i < no → ((E i 2 = -1 ∧ ¬ E i 3 = 0) ∨ (∃ w, w < nv ∧ E i 2 = nI w ∧ E i 3 = 0)) ∧ (∃ a, a < 1000000000 ∧ E i 0 = nI a) ∧ ∃ g, g < 1000000000 ∧ E i 1 = nI g
theorem lN_toInt63 {n : Nat} (h : n < 2 ^ 63) : (lN n).toInt = (n : Int) := by
  exact Int64.toInt_ofNat_of_lt h
theorem lN_div {m k : Nat} (hm : m < 2 ^ 62) (hk : k < 2 ^ 62) : lN m / lN k = lN (m / k) := by
  apply Int64.toInt_inj.mp
  have h3 : m / k ≤ m := Nat.div_le_self _ _
  rw [Int64.toInt_div, lN_toInt63 (by omega), lN_toInt63 (by omega), lN_toInt63 (by omega)]
  have e : (m : Int).tdiv (k : Int) = ((m / k : Nat) : Int) := by
    rw [Int.tdiv_eq_ediv_of_nonneg (by omega)]
    rfl
  rw [e]
  generalize m / k = q at h3
  exact Int.bmod_eq_of_le (by omega) (by omega)
theorem lN_sub' {a b : Nat} (h : b ≤ a) : lN a - lN b = lN (a - b) := lN_sub h
/-- both parts of a reference's number -/
theorem rf_parts {a g : Nat} (ha : a < 1000000000) (hg : g < 1000000000) : (lN g * 1000000000 + lN a) / 1000000000 = lN g ∧ (lN g * 1000000000 + lN a) - (lN g * 1000000000 + lN a) / 1000000000 * 1000000000 = lN a := by
  have e : lN g * 1000000000 + lN a = lN (g * 1000000000 + a) := by
    rw [show (1000000000 : Int64) = lN 1000000000 from rfl, lN_mul, lN_add]
  have h1 : lN (g * 1000000000 + a) / 1000000000 = lN g := by
    rw [show (1000000000 : Int64) = lN 1000000000 from rfl, lN_div (by omega) (by omega)]
    congr 1
    omega
  rw [e]
  refine ⟨h1, ?_⟩
  rw [h1, show (1000000000 : Int64) = lN 1000000000 from rfl, lN_mul, lN_sub (by omega)]
  congr 1
  omega
def isLn (V : VT) : Nat → Bool := fun a => decide (V.2.2.2 a = st_8)
/-- what Length tells: -1 for nothing of use -/
def tlN (V : VT) (E : Nat → Nat → Int32) (no dc : Nat) : Int64 := match prF (isLn V) (V.2.2.1 dc) with
  | none => -1
  | some (_, w) => if V.1 w = 2 then V.2.1 w else if V.1 w = 8 then (match fnO E (V.2.1 w - V.2.1 w / 1000000000 * 1000000000).toInt32 (V.2.1 w / 1000000000).toInt32 no with
    | none => -1
    | some i => if V.1 (E i 2).toNatClampNeg = 2 then V.2.1 (E i 2).toNatClampNeg else -1) else -1
