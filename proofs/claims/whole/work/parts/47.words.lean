/-! WORDS: numbers, references, truth, null: what is read of them -/
def sgB (c : Int32) : Bool := decide (c = 43) || decide (c = 45)
def nbB (b : Nat → Int32) : Nat → Nat → Nat → Nat → Nat → Int64 → Option (Nat × Nat × Nat × Int64)
  | 0, _, pt, bf, bh, s => some (pt, bf, bh, s)
  | m + 1, k, pt, bf, bh, s => if b k = 46 ∧ pt = 0 then nbB b m (k + 1) 1 bf bh s else if isFig (b k) = true then nbB b m (k + 1) pt (bf + (1 - pt)) (bh + pt) (s * 10 + (b k).toInt64 - 48) else none
def nbA (b : Nat → Int32) : Nat → Nat → Nat → Nat × Option (Nat × Nat × Nat × Int64)
  | 0, _, sg => (sg, some (0, 0, 0, 0))
  | m + 1, k, sg => if sgB (b k) = true then nbA b m (k + 1) (sg + 1) else (sg, nbB b (m + 1) k 0 0 0 0)
def m10 : Nat → Int64 → Int64
  | 0, s => s
  | f + 1, s => m10 f (s * 10)
def nbF (b : Nat → Int32) (p e : Nat) : Nat × Option (Nat × Nat × Nat × Int64) → LF
  | (_, none) => .inl (2, p)
  | (sg, some (pt, bf, bh, s)) => if bf + bh = 0 then .inl (2, p) else if 9 < bf ∨ 6 < bh then .inl (4, p) else .inr (if 0 < pt then 3 else 2, if b p = 45 then -(m10 (if 0 < pt then 6 - bh else 0) s) else m10 (if 0 < pt then 6 - bh else 0) s, [], e, if 1 < sg then 1 else 0)
def nbL (b : Nat → Int32) (p e : Nat) : LF := nbF b p e (nbA b (e - p) p 0)
def rfN (n : Nat) (b : Nat → Int32) (p : Nat) : Int64 := lN (fgV b (skW n b (wEnd n b p)) (wEnd n b (skW n b (wEnd n b p)) - skW n b (wEnd n b p))) * 1000000000 + lN (fgV b p (wEnd n b p - p))
def wdL (n : Nat) (b : Nat → Int32) (p : Nat) : LF := match prW n b st_3 p with
  | some t => .inr (8, rfN n b p, [], t + 1, 0)
  | none => if wdA b st_4 p = true then .inr (0, 0, [], wEnd n b p, 0) else if wdA b st_5 p = true then .inr (1, 1, [], wEnd n b p, 0) else if wdA b st_6 p = true then .inr (1, 0, [], wEnd n b p, 0) else nbL b p (wEnd n b p)
section N47
variable {b : Nat → Int32} {m k pt bf bh sg : Nat} {s : Int64}
theorem nbB_pt (h : b k = 46) (h0 : pt = 0) : nbB b (m + 1) k pt bf bh s = nbB b m (k + 1) (pt + 1) bf bh s := by rw [nbB, if_pos ⟨h, h0⟩, h0]
theorem nbB_fig (h : ¬ (b k = 46 ∧ pt = 0)) (h0 : isFig (b k) = true) : nbB b (m + 1) k pt bf bh s = nbB b m (k + 1) pt (bf + (1 - pt)) (bh + pt) (s * 10 + (b k).toInt64 - 48) := by rw [nbB, if_neg h, if_pos h0]
theorem nbB_bad (h : ¬ (b k = 46 ∧ pt = 0)) (h0 : isFig (b k) = false) : nbB b (m + 1) k pt bf bh s = none := by rw [nbB, if_neg h, if_neg (by rw [h0]; decide)]
theorem nbA_sg (h : b k = 43 ∨ b k = 45) : nbA b (m + 1) k sg = nbA b m (k + 1) (sg + 1) := by rw [nbA, if_pos (by rcases h with h | h <;> simp [sgB, h])]
theorem nbA_no (h : ¬ b k = 43) (h2 : ¬ b k = 45) : nbA b (m + 1) k sg = (sg, nbB b (m + 1) k 0 0 0 0) := by rw [nbA, if_neg (by simp [sgB, h, h2])]
end N47
theorem fgS_0 {b : Nat → Int32} {k e : Nat} (hk : k ≤ e) (h : ∀ j, k ≤ j → j < e → isFig (b j) = true) : fgS b (e - k) k 0 = nI (fgV b k (e - k)) := by
  have := fgS_eq (b := b) (k := k) (e - k) 0 (fun j a c => h j a (by omega))
  rw [Nat.zero_add] at this
  exact this
theorem fgV_9 {b : Nat → Int32} {k e : Nat} (hk : k ≤ e) (h9 : e ≤ k + 9) (h : ∀ j, k ≤ j → j < e → isFig (b j) = true) : fgV b k (e - k) < 1000000000 := by
  have h1 := fgV_lt (b := b) (k := k) (i := e - k) (fun j a c => h j a (by omega))
  have h2 : 10 ^ (e - k) ≤ 10 ^ 9 := Nat.pow_le_pow_right (by omega) (by omega)
  omega
/-- a reference's number, as the component finds it -/
theorem rfN_eq {n : Nat} {b : Nat → Int32} (hb : ∀ k, n ≤ k → b k = -1) {p e1 e2 : Nat} (hp : p ≤ n) (h1 : fgW b p = some e1) (h2 : fgW b (skW n b e1) = some e2) : (fgS b (e2 - skW n b e1) (skW n b e1) 0).toInt64 * 1000000000 + (fgS b (e1 - p) p 0).toInt64 = rfN n b p ∧ e1 = wEnd n b p ∧ e2 = wEnd n b (skW n b (wEnd n b p)) := by
  obtain ⟨a1, a2, a3, a4, a5, a6, a7⟩ := fgW_some hb hp h1
  have w := skW_le n b a3
  obtain ⟨c1, c2, c3, c4, c5, c6, c7⟩ := fgW_some hb w.2 h2
  have l1 := fgV_9 (by omega) a4 a7
  have l2 := fgV_9 (by omega) c4 c7
  refine ⟨?_, a1, by rw [← a1]; exact c1⟩
  rw [fgS_0 (by omega) c7, fgS_0 (by omega) a7, nI_l (by omega), nI_l (by omega)]
  unfold rfN
  rw [← a1, ← c1]
theorem prW_some {n : Nat} {b : Nat → Int32} {bs : List Int32} {p e1 e2 : Nat} (h1 : fgW b p = some e1) (h2 : fgW b (skW n b e1) = some e2) (h3 : wdA b bs (skW n b e2) = true) : prW n b bs p = some (skW n b e2) := by
  unfold prW
  rw [h1]
  show (match fgW b (skW n b e1) with
    | none => none
    | some e2 => if wdA b bs (skW n b e2) = true then some (skW n b e2) else none) = _
  rw [h2]
  exact if_pos h3
theorem wdA_hd {b : Nat → Int32} {x : Int32} {r : List Int32} {k : Nat} (h : wdA b (x :: r) k = true) : b k = x := by
  unfold wdA at h
  rw [txA] at h
  simp only [Bool.and_eq_true, decide_eq_true_eq] at h
  exact h.1.1
