/-! figures: the reference's way (a word, all figures, one to nine) is the component's (at most nine figures, no regular byte behind) -/
def allF (b : Nat → Int32) : Nat → Nat → Bool
  | 0, _ => true
  | m + 1, k => isFig (b k) && allF b m (k + 1)
def isFgs (n : Nat) (b : Nat → Int32) (k : Nat) : Bool := allF b (wEnd n b k - k) k && (decide (k < wEnd n b k) && decide (wEnd n b k - k < 10))
theorem isReg_fig {c : Int32} (h : isFig c = true) : isReg c = true := by
  simp only [isFig, Bool.and_eq_true, decide_eq_true_eq] at h
  obtain ⟨h1, h2⟩ := h
  have h3 : ¬ c < 0 := fun z => by
    rw [Int32.le_iff_toInt_le] at h1
    rw [Int32.lt_iff_toInt_lt] at z
    have e1 : (48 : Int32).toInt = 48 := by decide
    have e2 : (0 : Int32).toInt = 0 := by decide
    omega
  obtain ⟨k, hk, rfl⟩ := nI_of h3
  have g1 : 48 ≤ k := (nI_leI (a := 48) (by omega) hk).mp h1
  have g2 : k ≤ 57 := (nI_leI (b := 57) hk (by omega)).mp h2
  have : ∀ j, j < 58 → 48 ≤ j → isReg (nI j) = true := by decide +kernel
  exact this k (by omega) g1
theorem isFig_nI {c : Int32} (h : isFig c = true) : ∃ x, 48 ≤ x ∧ x ≤ 57 ∧ c = nI x := by
  simp only [isFig, Bool.and_eq_true, decide_eq_true_eq] at h
  obtain ⟨h1, h2⟩ := h
  have h3 : ¬ c < 0 := fun z => by
    rw [Int32.le_iff_toInt_le] at h1
    rw [Int32.lt_iff_toInt_lt] at z
    have e1 : (48 : Int32).toInt = 48 := by decide
    have e2 : (0 : Int32).toInt = 0 := by decide
    omega
  obtain ⟨k, hk, rfl⟩ := nI_of h3
  exact ⟨k, (nI_leI (a := 48) (by omega) hk).mp h1, (nI_leI (b := 57) hk (by omega)).mp h2, rfl⟩
theorem allF_iff (b : Nat → Int32) : ∀ (m k : Nat), allF b m k = true ↔ ∀ j, k ≤ j → j < k + m → isFig (b j) = true
  | 0, k => by simp [allF]; intro j h1 h2; omega
  | m + 1, k => by
    rw [allF, Bool.and_eq_true, allF_iff b m (k + 1)]
    constructor
    · intro ⟨h1, h2⟩ j h3 h4
      by_cases e : j = k
      · rw [e]; exact h1
      · exact h2 j (by omega) (by omega)
    · intro h
      exact ⟨h k (Nat.le_refl _) (by omega), fun j h1 h2 => h j (by omega) (by omega)⟩
theorem fgE_in (b : Nat → Int32) : ∀ (f k j : Nat), k ≤ j → j < fgE b f k → isFig (b j) = true
  | 0, k, j, h1, h2 => absurd h2 (by unfold fgE; omega)
  | f + 1, k, j, h1, h2 => by
    unfold fgE at h2
    split at h2
    · rename_i h3
      by_cases e : j = k
      · rw [e]; exact h3
      · exact fgE_in b f (k + 1) j (by omega) h2
    · omega
theorem fgE_at (b : Nat → Int32) : ∀ (f k : Nat), fgE b f k < k + f → isFig (b (fgE b f k)) = false
  | 0, k, h => absurd h (by unfold fgE; omega)
  | f + 1, k, h => by
    unfold fgE at h ⊢
    by_cases h3 : isFig (b k) = true
    · rw [if_pos h3] at h ⊢
      exact fgE_at b f (k + 1) (by omega)
    · rw [if_neg h3]
      simpa using h3
theorem fgE_eq {b : Nat → Int32} : ∀ {f k e : Nat}, k ≤ e → e ≤ k + f → (∀ j, k ≤ j → j < e → isFig (b j) = true) → (e < k + f → isFig (b e) = false) → fgE b f k = e
  | 0, k, e, h1, h2, h3, h4 => by rw [fgE]; omega
  | f + 1, k, e, h1, h2, h3, h4 => by
    rw [fgE]
    by_cases e1 : e = k
    · subst e1
      rw [if_neg (by rw [h4 (by omega)]; decide)]
    · rw [if_pos (h3 k (Nat.le_refl _) (by omega))]
      exact fgE_eq (by omega) (by omega) (fun j a c => h3 j (by omega) c) (fun a => h4 (by omega))
theorem wEnd_at {n : Nat} {b : Nat → Int32} (hb : ∀ k, n ≤ k → b k = -1) {k : Nat} (hk : k ≤ n) : isReg (b (wEnd n b k)) = false := by
  have key : ∀ (f k : Nat), k + f = n → isReg (b (bwd b f k)) = false := by
    intro f
    induction f with
    | zero => intro k h; rw [bwd, hb k (by omega)]; exact isReg_m1
    | succ f ih =>
      intro k h
      rw [bwd]
      by_cases h1 : isReg (b k) = true
      · rw [if_pos h1]; exact ih (k + 1) (by omega)
      · rw [if_neg h1]; simpa using h1
  exact key (n - k) k (by omega)
theorem wEnd_eq {n : Nat} {b : Nat → Int32} {k e : Nat} (h1 : k ≤ e) (h2 : e ≤ n) (h3 : ∀ j, k ≤ j → j < e → isReg (b j) = true) (h4 : isReg (b e) = false) : wEnd n b k = e := by
  have key : ∀ (f k : Nat), k + f = e → (∀ j, k ≤ j → j < e → isReg (b j) = true) → wEnd n b k = e := by
    intro f
    induction f with
    | zero => intro k h _; have : k = e := by omega
              subst this; exact wEnd_not h4
    | succ f ih => intro k h hr; rw [wEnd_reg (by omega) (hr k (Nat.le_refl _) (by omega))]; exact ih (k + 1) (by omega) (fun j a c => hr j (by omega) c)
  exact key (e - k) k (by omega) h3
theorem fgW_eq {n : Nat} {b : Nat → Int32} (hb : ∀ k, n ≤ k → b k = -1) {k : Nat} (hk : k ≤ n) : fgW b k = if isFgs n b k = true then some (wEnd n b k) else none := by
  have hle := wEnd_le n b hk
  have hat := wEnd_at hb hk
  by_cases h : isFgs n b k = true
  · rw [if_pos h]
    unfold isFgs at h
    simp only [Bool.and_eq_true, decide_eq_true_eq] at h
    obtain ⟨h1, h2, h3⟩ := h
    have h4 := (allF_iff b _ k).mp h1
    have e : fgE b 9 k = wEnd n b k := fgE_eq hle.1 (by omega) (fun j a c => h4 j a (by omega)) (fun _ => by
      cases hz : isFig (b (wEnd n b k)) with
      | false => rfl
      | true => rw [isReg_fig hz] at hat; cases hat)
    rw [fgW_R, e, fgR_c (by omega) hat]
  · rw [if_neg h, fgW_R]
    have hl := fgE_le b 9 k
    cases hr : fgR b k (fgE b 9 k) with
    | none => rfl
    | some i =>
      exfalso
      apply h
      unfold fgR at hr
      split at hr
      · cases hr
      · rename_i hc
        cases hr
        have c1 : ¬ fgE b 9 k = k := fun z => hc (Or.inl z)
        have c2 : isReg (b (fgE b 9 k)) = false := by simpa using fun z => hc (Or.inr z)
        have hin := fgE_in b 9 k
        have hn : fgE b 9 k ≤ n := by
          rcases Nat.lt_or_ge n (fgE b 9 k) with g | g
          · have := hin n (by omega) g
            rw [hb n (Nat.le_refl _), isFig_m1] at this
            cases this
          · exact g
        have e : wEnd n b k = fgE b 9 k := wEnd_eq hl.1 hn (fun j a c => isReg_fig (hin j a c)) c2
        unfold isFgs
        rw [e]
        simp only [Bool.and_eq_true, decide_eq_true_eq]
        exact ⟨(allF_iff b _ k).mpr (fun j a c => hin j a (by omega)), by omega, by omega⟩
/-- the number that m figures from k on tell -/
def fgV (b : Nat → Int32) (k : Nat) : Nat → Nat
  | 0 => 0
  | i + 1 => 10 * fgV b k i + ((b (k + i)).toNatClampNeg - 48)
theorem fgV_lt {b : Nat → Int32} {k : Nat} : ∀ {i : Nat}, (∀ j, k ≤ j → j < k + i → isFig (b j) = true) → fgV b k i < 10 ^ i
  | 0, _ => by simp [fgV]
  | i + 1, h => by
    have h1 := fgV_lt (i := i) (fun j a c => h j a (by omega))
    obtain ⟨x, x1, x2, x3⟩ := isFig_nI (h (k + i) (by omega) (by omega))
    rw [fgV, x3, nI_clamp (by omega), Nat.pow_succ]
    omega
theorem fgS_eq {b : Nat → Int32} {k : Nat} : ∀ (m i : Nat), (∀ j, k ≤ j → j < k + (i + m) → isFig (b j) = true) → fgS b m (k + i) (nI (fgV b k i)) = nI (fgV b k (i + m))
  | 0, i, h => by rw [fgS]; rfl
  | m + 1, i, h => by
    rw [fgS]
    obtain ⟨x, x1, x2, x3⟩ := isFig_nI (h (k + i) (by omega) (by omega))
    have e : nI (fgV b k i) * 10 + b (k + i) - 48 = nI (fgV b k (i + 1)) := by
      rw [x3, show (10 : Int32) = nI 10 from rfl, pk_mul, nI_add, show (48 : Int32) = nI 48 from rfl, pk_sub (by omega), fgV, x3, nI_clamp (by omega)]
      congr 1
      omega
    rw [e, show k + i + 1 = k + (i + 1) by omega, fgS_eq m (i + 1) (fun j a c => h j a (by omega))]
    congr 2
    omega
