/-! BYTES: the shared words of both classes. A tape is its size n and its bytes b, with b k = -1 from n on -/
def isWh (c : Int32) : Bool := decide (c = 0) || decide (c = 9) || decide (c = 10) || decide (c = 12) || decide (c = 13) || decide (c = 32)
def isLE (c : Int32) : Bool := decide (c = 10) || decide (c = 13)
def isFig (c : Int32) : Bool := decide (48 ≤ c) && decide (c ≤ 57)
def isSg (c : Int32) : Bool := decide (c = 40) || decide (c = 41) || decide (c = 60) || decide (c = 62) || decide (c = 91) || decide (c = 93) || decide (c = 123) || decide (c = 125) || decide (c = 47) || decide (c = 37)
def isReg (c : Int32) : Bool := decide (33 ≤ c) && decide (c ≤ 126) && !isSg c
def hexV (c : Int32) : Int32 := if isFig c = true then c - 48 else if 97 ≤ c ∧ c ≤ 102 then c - 97 + 10 else if 65 ≤ c ∧ c ≤ 70 then c - 65 + 10 else -1
/-- the component's tape -/
def tpC (C : wd_C) (n : Nat) (b : Nat → Int32) : Prop := C.1 0 = nI n ∧ n ≤ 1600 ∧ (∀ k, k < n → ∃ j, j < 256 ∧ b k = nI j ∧ C.2.1 0 k = (nI j).toInt8.toInt32) ∧ ∀ k, n ≤ k → b k = -1
theorem by_all : ∀ j, j < 256 → ((nI j).toInt8.toInt32 &&& 255 = nI j ∧ (j < 128 → (nI j).toInt8.toInt32 = nI j) ∧ (128 ≤ j → (nI j).toInt8.toInt32 < 0)) := by decide +kernel
theorem tpC_at {C : wd_C} {n : Nat} {b : Nat → Int32} (h : tpC C n b) {k : Nat} (hk : k < n) : C.2.1 0 k &&& 255 = b k := by
  obtain ⟨j, h1, h2, h3⟩ := h.2.2.1 k hk
  rw [h2, h3]
  exact (by_all j h1).1
theorem tpC_raw {C : wd_C} {n : Nat} {b : Nat → Int32} (h : tpC C n b) {k x : Nat} (hk : k < n) (hx : x < 128) : C.2.1 0 k = nI x ↔ b k = nI x := by
  obtain ⟨j, h1, h2, h3⟩ := h.2.2.1 k hk
  obtain ⟨-, g1, g2⟩ := by_all j h1
  rw [h2, h3]
  by_cases hj : j < 128
  · rw [g1 hj]
  · constructor
    · intro e
      have := g2 (by omega)
      rw [e] at this
      exact absurd this (nI_pos (by omega))
    · intro e
      have := (nI_eq (by omega) (by omega)).mp e
      omega
/-- behind white: within a remark or not -/
def bwh (b : Nat → Int32) : Nat → Nat → Bool → Nat
  | 0, k, _ => k
  | f + 1, k, r => if isLE (b k) = true then bwh b f (k + 1) false else if b k = 37 then bwh b f (k + 1) true else if r = false ∧ isWh (b k) = false then k else bwh b f (k + 1) r
def skW (n : Nat) (b : Nat → Int32) (k : Nat) : Nat := bwh b (n - k) k false
/-- behind a word -/
def bwd (b : Nat → Int32) : Nat → Nat → Nat
  | 0, k => k
  | f + 1, k => if isReg (b k) = true then bwd b f (k + 1) else k
def wEnd (n : Nat) (b : Nat → Int32) (k : Nat) : Nat := bwd b (n - k) k
/-- behind the end of a line, if one stands there -/
def leE (b : Nat → Int32) (k : Nat) : Nat := if b k = 13 ∧ b (k + 1) = 10 then k + 2 else if isLE (b k) = true then k + 1 else k
/-- a text stands there -/
def txA (b : Nat → Int32) : List Int32 → Nat → Bool
  | [], _ => true
  | x :: r, k => decide (b k = x) && txA b r (k + 1)
def wdA (b : Nat → Int32) (bs : List Int32) (k : Nat) : Bool := txA b bs k && !isReg (b (k + bs.length))
/-- where a text stands first -/
def txF (b : Nat → Int32) (bs : List Int32) : Nat → Nat → Option Nat
  | 0, _ => none
  | f + 1, k => if txA b bs k = true then some k else txF b bs f (k + 1)
/-- behind at most nine figures; then nine at most, at least one, and no regular byte behind them -/
def fgE (b : Nat → Int32) : Nat → Nat → Nat
  | 0, k => k
  | f + 1, k => if isFig (b k) = true then fgE b f (k + 1) else k
def fgW (b : Nat → Int32) (k : Nat) : Option Nat := if fgE b 9 k = k ∨ isReg (b (fgE b 9 k)) = true then none else some (fgE b 9 k)
def oN : Option Nat → Int32
  | none => -1
  | some k => nI k
def fgS (b : Nat → Int32) : Nat → Nat → Int32 → Int32
  | 0, _, a => a
  | m + 1, k, a => fgS b m (k + 1) (a * 10 + b k - 48)
theorem bwh_le (b : Nat → Int32) : ∀ (f k : Nat) (r : Bool), k ≤ bwh b f k r ∧ bwh b f k r ≤ k + f
  | 0, k, r => ⟨Nat.le_refl _, Nat.le_refl _⟩
  | f + 1, k, r => by
    unfold bwh
    have h1 := bwh_le b f (k + 1) false
    have h2 := bwh_le b f (k + 1) true
    have h3 := bwh_le b f (k + 1) r
    split
    · omega
    · split
      · omega
      · split <;> omega
theorem skW_le (n : Nat) (b : Nat → Int32) {k : Nat} (h : k ≤ n) : k ≤ skW n b k ∧ skW n b k ≤ n := by
  have := bwh_le b (n - k) k false
  unfold skW
  omega
theorem bwd_le (b : Nat → Int32) : ∀ (f k : Nat), k ≤ bwd b f k ∧ bwd b f k ≤ k + f
  | 0, k => ⟨Nat.le_refl _, Nat.le_refl _⟩
  | f + 1, k => by
    unfold bwd
    have h1 := bwd_le b f (k + 1)
    split <;> omega
theorem wEnd_le (n : Nat) (b : Nat → Int32) {k : Nat} (h : k ≤ n) : k ≤ wEnd n b k ∧ wEnd n b k ≤ n := by
  have := bwd_le b (n - k) k
  unfold wEnd
  omega
theorem bwd_in (b : Nat → Int32) : ∀ (f k j : Nat), k ≤ j → j < bwd b f k → isReg (b j) = true
  | 0, k, j, h1, h2 => absurd h2 (by unfold bwd; omega)
  | f + 1, k, j, h1, h2 => by
    unfold bwd at h2
    split at h2
    · rename_i h3
      by_cases e : j = k
      · rw [e]; exact h3
      · exact bwd_in b f (k + 1) j (by omega) h2
    · omega
theorem fgE_le (b : Nat → Int32) : ∀ (f k : Nat), k ≤ fgE b f k ∧ fgE b f k ≤ k + f
  | 0, k => ⟨Nat.le_refl _, Nat.le_refl _⟩
  | f + 1, k => by
    unfold fgE
    have h1 := fgE_le b f (k + 1)
    split <;> omega
theorem isLE_37 : isLE 37 = false := by decide
theorem wEnd_out {n : Nat} {b : Nat → Int32} {j : Nat} (h : n ≤ j) : wEnd n b j = j := by
  unfold wEnd
  rw [show n - j = 0 by omega, bwd]
theorem wEnd_reg {n : Nat} {b : Nat → Int32} {j : Nat} (h : j < n) (hr : isReg (b j) = true) : wEnd n b j = wEnd n b (j + 1) := by
  unfold wEnd
  rw [show n - j = (n - (j + 1)) + 1 by omega, bwd, if_pos hr]
theorem wEnd_not {n : Nat} {b : Nat → Int32} {j : Nat} (hr : isReg (b j) = false) : wEnd n b j = j := by
  unfold wEnd
  cases hm : n - j with
  | zero => rw [bwd]
  | succ m => rw [bwd, if_neg (by rw [hr]; decide)]
theorem bwh_stop {b : Nat → Int32} {f k : Nat} (h1 : isLE (b k) = false) (h2 : ¬ b k = 37) (h3 : isWh (b k) = false) : bwh b (f + 1) k false = k := by
  rw [bwh, if_neg (by rw [h1]; decide), if_neg h2, if_pos ⟨rfl, h3⟩]
theorem fgE_yes {b : Nat → Int32} {f k : Nat} (h : isFig (b k) = true) : fgE b (f + 1) k = fgE b f (k + 1) := by rw [fgE, if_pos h]
theorem fgE_no {b : Nat → Int32} {f k : Nat} (h : isFig (b k) = false) : fgE b f k = k := by
  cases f with
  | zero => rw [fgE]
  | succ f => rw [fgE, if_neg (by rw [h]; decide)]
def fgR (b : Nat → Int32) (k e : Nat) : Option Nat := if e = k ∨ isReg (b e) = true then none else some e
theorem fgR_a {b : Nat → Int32} {k e : Nat} (h : e = k) : fgR b k e = none := if_pos (Or.inl h)
theorem fgR_b {b : Nat → Int32} {k e : Nat} (h : isReg (b e) = true) : fgR b k e = none := if_pos (Or.inr h)
theorem fgR_c {b : Nat → Int32} {k e : Nat} (h1 : ¬ e = k) (h : isReg (b e) = false) : fgR b k e = some e := if_neg (fun z => z.elim h1 (fun y => by rw [h] at y; cases y))
theorem fgW_R (b : Nat → Int32) (k : Nat) : fgW b k = fgR b k (fgE b 9 k) := rfl
/-- the reference's tape -/
def tpY (Y : wd_Y) (n : Nat) (b : Nat → Int32) : Prop := Y.1 1 = nI n ∧ n ≤ 1600 ∧ (∀ k, k < n → Y.2.1 0 k = b k) ∧ (∀ k, n ≤ k → b k = -1) ∧ ∀ k, k < n → ∃ j, j < 256 ∧ b k = nI j
theorem isWh_37 : isWh 37 = false := by decide
theorem isWh_LE {c : Int32} (h : isLE c = true) : isWh c = true := by
  simp [isLE] at h
  simp [isWh]
  rcases h with h | h <;> simp [h]
theorem isWh_m1 : isWh (-1) = false := by decide
theorem isReg_m1 : isReg (-1) = false := by decide
theorem isFig_m1 : isFig (-1) = false := by decide
theorem bwh_wh {b : Nat → Int32} {f k : Nat} (h : isWh (b k) = true) : bwh b (f + 1) k false = bwh b f (k + 1) false := by
  rw [bwh]
  by_cases h1 : isLE (b k) = true
  · rw [if_pos h1]
  · rw [if_neg h1, if_neg (fun e => by rw [e, isWh_37] at h; cases h), if_neg (fun e => by rw [e.2] at h; cases h)]
theorem bwh_37 {b : Nat → Int32} {f k : Nat} {r : Bool} (h : b k = 37) : bwh b (f + 1) k r = bwh b f (k + 1) true := by
  rw [bwh, if_neg (by rw [h, isLE_37]; decide), if_pos h]
theorem bwh_in {b : Nat → Int32} {f k : Nat} (h : isLE (b k) = false) : bwh b (f + 1) k true = bwh b f (k + 1) true := by
  rw [bwh, if_neg (by rw [h]; decide)]
  by_cases h1 : b k = 37
  · rw [if_pos h1]
  · rw [if_neg h1, if_neg (fun e => by cases e.1)]
theorem bwh_end {b : Nat → Int32} {f k : Nat} (h : isLE (b k) = true) : bwh b f k true = bwh b f k false := by
  cases f with
  | zero => rfl
  | succ f => rw [bwh, bwh, if_pos h, if_pos h]
theorem bwh_no {b : Nat → Int32} {f k : Nat} (h1 : isWh (b k) = false) (h2 : ¬ b k = 37) : bwh b f k false = k := by
  cases f with
  | zero => rfl
  | succ f =>
    rw [bwh, if_neg (fun e => by rw [isWh_LE e] at h1; cases h1), if_neg h2, if_pos ⟨rfl, h1⟩]
