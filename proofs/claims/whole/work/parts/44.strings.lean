/-! STRINGS: what is read of them, in both forms -/
theorem isB_and (x : Int32) : isB (x &&& 255) := by
  refine ⟨(x.toBitVec &&& 255#32).toNat, ?_, ?_⟩
  · have : (x.toBitVec &&& 255#32).toNat ≤ 255 := by
      rw [BitVec.toNat_and]
      exact Nat.and_le_right
    omega
  · apply Int32.toBitVec_inj.mp
    rw [Int32.toBitVec_and]
    show _ = (Int32.ofNat _).toBitVec
    rw [Int32.toBitVec_ofNat', BitVec.ofNat_toNat, BitVec.setWidth_eq]
    rfl
theorem ocV_lo {b : Nat → Int32} {f k : Nat} {s : Int32} (h : ¬ (48 ≤ b k ∧ b k ≤ 55)) : ocV b f k s = s ∧ ocE b f k = k := by
  cases f with
  | zero => exact ⟨rfl, rfl⟩
  | succ f => rw [ocV, ocE, if_neg h, if_neg h]; exact ⟨rfl, rfl⟩
theorem ocE_le {n : Nat} {b : Nat → Int32} (hb : ∀ k, n ≤ k → b k = -1) : ∀ (f k : Nat), k ≤ n → k ≤ ocE b f k ∧ ocE b f k ≤ n
  | 0, k, h => ⟨Nat.le_refl _, h⟩
  | f + 1, k, h => by
    rw [ocE]
    by_cases h1 : 48 ≤ b k ∧ b k ≤ 55
    · rw [if_pos h1]
      have hk : k < n := by
        rcases Nat.lt_or_ge k n with g | g
        · exact g
        · rw [hb k g] at h1
          exact absurd h1.1 (by decide)
      have := ocE_le hb f (k + 1) hk
      omega
    · rw [if_neg h1]
      exact ⟨Nat.le_refl _, h⟩
/-- what stands behind a backslash -/
def esM (c : Int32) : Int32 := if c = 98 then 8 else if c = 102 then 12 else if c = 110 then 10 else if c = 114 then 13 else if c = 116 then 9 else c
def esV (b : Nat → Int32) (j : Nat) : Int32 := if 48 ≤ b j ∧ b j ≤ 55 then ocV b 3 j 0 &&& 255 else esM (b j)
def esE (b : Nat → Int32) (j : Nat) : Nat := if 48 ≤ b j ∧ b j ≤ 55 then ocE b 3 j else j + 1
theorem esM_B {c : Int32} (h : isB c) : isB (esM c) := by
  unfold esM
  split
  · exact ⟨8, by omega, rfl⟩
  · split
    · exact ⟨12, by omega, rfl⟩
    · split
      · exact ⟨10, by omega, rfl⟩
      · split
        · exact ⟨13, by omega, rfl⟩
        · split
          · exact ⟨9, by omega, rfl⟩
          · exact h
theorem esV_B {b : Nat → Int32} {j : Nat} (h : isB (b j)) : isB (esV b j) := by
  unfold esV
  split
  · exact isB_and _
  · exact esM_B h
theorem esE_le {n : Nat} {b : Nat → Int32} (hb : ∀ k, n ≤ k → b k = -1) {j : Nat} (h : j < n) : j + 1 ≤ esE b j ∧ esE b j ≤ n := by
  unfold esE
  by_cases h1 : 48 ≤ b j ∧ b j ≤ 55
  · rw [if_pos h1, ocE, if_pos h1]
    exact ocE_le hb 2 (j + 1) h
  · rw [if_neg h1]
    omega
theorem leE_in {n : Nat} {b : Nat → Int32} (hb : ∀ k, n ≤ k → b k = -1) {k : Nat} (h : isLE (b k) = true) : k + 1 ≤ leE b k ∧ leE b k ≤ n := by
  have hk : k < n := by
    rcases Nat.lt_or_ge k n with g | g
    · exact g
    · rw [hb k g] at h
      exact absurd h (by decide)
  unfold leE
  by_cases h1 : b k = 13 ∧ b (k + 1) = 10
  · rw [if_pos h1]
    rcases Nat.lt_or_ge (k + 1) n with g | g
    · omega
    · rw [hb _ g] at h1
      exact absurd h1.2 (by decide)
  · rw [if_neg h1, if_pos h]
    omega
/-- a string in round signs -/
def rdR (n : Nat) (b : Nat → Int32) (p : Nat) : Nat → Nat → Nat → List Int32 → LF
  | 0, _, _, _ => .inl (1, n)
  | f + 1, k, o, acc => if n ≤ k then .inl (1, n) else if b k = 41 ∧ o = 1 then .inr (5, 0, acc, k + 1, 0)
    else if b k = 92 then (if n ≤ k + 1 then .inl (1, n) else if isLE (b (k + 1)) = true then rdR n b p f (leE b (k + 1)) o acc else if 200 ≤ acc.length then .inl (3, p) else rdR n b p f (esE b (k + 1)) o (acc ++ [esV b (k + 1)]))
    else if 200 ≤ acc.length then .inl (3, p)
    else if isLE (b k) = true then rdR n b p f (leE b k) o (acc ++ [10])
    else rdR n b p f (k + 1) (if b k = 40 then o + 1 else if b k = 41 then o - 1 else o) (acc ++ [b k])
section S44
variable {n : Nat} {b : Nat → Int32} {p f k o : Nat} {acc : List Int32}
theorem rdR_out (h : n ≤ k) : rdR n b p f k o acc = .inl (1, n) := by
  cases f with
  | zero => rfl
  | succ f => rw [rdR, if_pos h]
theorem rdR_cls (h : k < n) (h1 : b k = 41) (h2 : o = 1) : rdR n b p (f + 1) k o acc = .inr (5, 0, acc, k + 1, 0) := by
  rw [rdR, if_neg (by omega), if_pos ⟨h1, h2⟩]
theorem rdR_92 (h : k < n) (h1 : b k = 92) : rdR n b p (f + 1) k o acc = if n ≤ k + 1 then .inl (1, n) else if isLE (b (k + 1)) = true then rdR n b p f (leE b (k + 1)) o acc else if 200 ≤ acc.length then .inl (3, p) else rdR n b p f (esE b (k + 1)) o (acc ++ [esV b (k + 1)]) := by
  rw [rdR, if_neg (by omega), if_neg (fun z => by rw [h1] at z; exact absurd z.1 (by decide)), if_pos h1]
theorem rdR_e1 (h : k < n) (h1 : b k = 92) (h2 : n ≤ k + 1) : rdR n b p (f + 1) k o acc = .inl (1, n) := by rw [rdR_92 h h1, if_pos h2]
theorem rdR_e2 (h : k + 1 < n) (h1 : b k = 92) (h2 : isLE (b (k + 1)) = true) : rdR n b p (f + 1) k o acc = rdR n b p f (leE b (k + 1)) o acc := by rw [rdR_92 (by omega) h1, if_neg (by omega), if_pos h2]
theorem rdR_e3 (h : k + 1 < n) (h1 : b k = 92) (h2 : isLE (b (k + 1)) = false) (h3 : 200 ≤ acc.length) : rdR n b p (f + 1) k o acc = .inl (3, p) := by rw [rdR_92 (by omega) h1, if_neg (by omega), if_neg (by rw [h2]; decide), if_pos h3]
theorem rdR_e4 (h : k + 1 < n) (h1 : b k = 92) (h2 : isLE (b (k + 1)) = false) (h3 : acc.length < 200) : rdR n b p (f + 1) k o acc = rdR n b p f (esE b (k + 1)) o (acc ++ [esV b (k + 1)]) := by rw [rdR_92 (by omega) h1, if_neg (by omega), if_neg (by rw [h2]; decide), if_neg (by omega)]
theorem rdR_no (h : k < n) (h1 : ¬ (b k = 41 ∧ o = 1)) (h2 : ¬ b k = 92) : rdR n b p (f + 1) k o acc = if 200 ≤ acc.length then .inl (3, p)
    else if isLE (b k) = true then rdR n b p f (leE b k) o (acc ++ [10])
    else rdR n b p f (k + 1) (if b k = 40 then o + 1 else if b k = 41 then o - 1 else o) (acc ++ [b k]) := by rw [rdR, if_neg (by omega), if_neg h1, if_neg h2]
theorem rdR_ful (h : k < n) (h1 : ¬ (b k = 41 ∧ o = 1)) (h2 : ¬ b k = 92) (h3 : 200 ≤ acc.length) : rdR n b p (f + 1) k o acc = .inl (3, p) := by rw [rdR_no h h1 h2, if_pos h3]
theorem rdR_le (h : k < n) (h1 : ¬ (b k = 41 ∧ o = 1)) (h2 : ¬ b k = 92) (h3 : acc.length < 200) (h4 : isLE (b k) = true) : rdR n b p (f + 1) k o acc = rdR n b p f (leE b k) o (acc ++ [10]) := by rw [rdR_no h h1 h2, if_neg (by omega), if_pos h4]
theorem rdR_40 (h : k < n) (h3 : acc.length < 200) (h4 : b k = 40) : rdR n b p (f + 1) k o acc = rdR n b p f (k + 1) (o + 1) (acc ++ [b k]) := by
  rw [rdR_no h (fun z => by rw [h4] at z; exact absurd z.1 (by decide)) (by rw [h4]; decide), if_neg (by omega), if_neg (by rw [h4]; decide), if_pos h4]
theorem rdR_41 (h : k < n) (h1 : ¬ o = 1) (h3 : acc.length < 200) (h4 : b k = 41) : rdR n b p (f + 1) k o acc = rdR n b p f (k + 1) (o - 1) (acc ++ [b k]) := by
  rw [rdR_no h (fun z => h1 z.2) (by rw [h4]; decide), if_neg (by omega), if_neg (by rw [h4]; decide), if_neg (by rw [h4]; decide), if_pos h4]
theorem rdR_pl (h : k < n) (h2 : ¬ b k = 92) (h3 : acc.length < 200) (h4 : ¬ b k = 40) (h5 : ¬ b k = 41) (h6 : isLE (b k) = false) : rdR n b p (f + 1) k o acc = rdR n b p f (k + 1) o (acc ++ [b k]) := by
  rw [rdR_no h (fun z => h5 z.1) h2, if_neg (by omega), if_neg (by rw [h6]; decide), if_neg h4, if_neg h5]
end S44
/-- a string of figures; hf is the half byte that waits, or -1 -/
def anR (n : Nat) (b : Nat → Int32) (p : Nat) : Nat → Nat → Int32 → List Int32 → LF
  | 0, _, _, _ => .inl (1, n)
  | f + 1, k, hf, acc => if n ≤ k then .inl (1, n) else if b k = 62 then (if hf = -1 then .inr (5, 0, acc, k + 1, 0) else if 200 ≤ acc.length then .inl (3, p) else .inr (5, 0, acc ++ [hf * 16], k + 1, 1))
    else if hexV (b k) = -1 then (if isWh (b k) = true then anR n b p f (k + 1) hf acc else .inl (2, k))
    else if hf = -1 then anR n b p f (k + 1) (hexV (b k)) acc
    else if 200 ≤ acc.length then .inl (3, p) else anR n b p f (k + 1) (-1) (acc ++ [hf * 16 + hexV (b k)])
section A44
variable {n : Nat} {b : Nat → Int32} {p f k : Nat} {hf : Int32} {acc : List Int32}
theorem anR_out (h : n ≤ k) : anR n b p f k hf acc = .inl (1, n) := by
  cases f with
  | zero => rfl
  | succ f => rw [anR, if_pos h]
theorem anR_62 (h : k < n) (h1 : b k = 62) : anR n b p (f + 1) k hf acc = if hf = -1 then .inr (5, 0, acc, k + 1, 0) else if 200 ≤ acc.length then .inl (3, p) else .inr (5, 0, acc ++ [hf * 16], k + 1, 1) := by
  rw [anR, if_neg (by omega), if_pos h1]
theorem anR_c0 (h : k < n) (h1 : b k = 62) (h2 : hf = -1) : anR n b p (f + 1) k hf acc = .inr (5, 0, acc, k + 1, 0) := by rw [anR_62 h h1, if_pos h2]
theorem anR_c1 (h : k < n) (h1 : b k = 62) (h2 : ¬ hf = -1) (h3 : 200 ≤ acc.length) : anR n b p (f + 1) k hf acc = .inl (3, p) := by rw [anR_62 h h1, if_neg h2, if_pos h3]
theorem anR_c2 (h : k < n) (h1 : b k = 62) (h2 : ¬ hf = -1) (h3 : acc.length < 200) : anR n b p (f + 1) k hf acc = .inr (5, 0, acc ++ [hf * 16], k + 1, 1) := by rw [anR_62 h h1, if_neg h2, if_neg (by omega)]
theorem anR_wh (h : k < n) (h1 : ¬ b k = 62) (h2 : hexV (b k) = -1) (h3 : isWh (b k) = true) : anR n b p (f + 1) k hf acc = anR n b p f (k + 1) hf acc := by rw [anR, if_neg (by omega), if_neg h1, if_pos h2, if_pos h3]
theorem anR_bad (h : k < n) (h1 : ¬ b k = 62) (h2 : hexV (b k) = -1) (h3 : isWh (b k) = false) : anR n b p (f + 1) k hf acc = .inl (2, k) := by rw [anR, if_neg (by omega), if_neg h1, if_pos h2, if_neg (by rw [h3]; decide)]
theorem anR_hi (h : k < n) (h1 : ¬ b k = 62) (h2 : ¬ hexV (b k) = -1) (h3 : hf = -1) : anR n b p (f + 1) k hf acc = anR n b p f (k + 1) (hexV (b k)) acc := by rw [anR, if_neg (by omega), if_neg h1, if_neg h2, if_pos h3]
theorem anR_ful (h : k < n) (h1 : ¬ b k = 62) (h2 : ¬ hexV (b k) = -1) (h3 : ¬ hf = -1) (h4 : 200 ≤ acc.length) : anR n b p (f + 1) k hf acc = .inl (3, p) := by rw [anR, if_neg (by omega), if_neg h1, if_neg h2, if_neg h3, if_pos h4]
theorem anR_lo (h : k < n) (h1 : ¬ b k = 62) (h2 : ¬ hexV (b k) = -1) (h3 : ¬ hf = -1) (h4 : acc.length < 200) : anR n b p (f + 1) k hf acc = anR n b p f (k + 1) (-1) (acc ++ [hf * 16 + hexV (b k)]) := by rw [anR, if_neg (by omega), if_neg h1, if_neg h2, if_neg h3, if_neg (by omega)]
end A44
