/-! faults are told within the tape -/
def rdU (n : Nat) : RR → Prop
  | .inl (_, p, _) => p ≤ n
  | .inr _ => True
theorem Rd_up {n : Nat} {b : Nat → Int32} (hb : ∀ k, n ≤ k → b k = -1) {m : RM} {d : Nat} {s : RS} {r : RR} (h : Rd n b m d s r) : rdU n r := by
  refine h (fun _ _ _ r => rdU n r) ⟨?_, ?_, ?_, ?_, ?_, ?_, ?_, ?_, ?_, ?_, ?_⟩
  · intro d k nv u V no c p hg hF
    have hs := skW_le n b hg.2.2.2
    show p ≤ n
    rcases hF with ⟨e1, -, e3⟩ | ⟨e1, -, -, -, e3⟩ | ⟨e1, -, -, e3⟩ | ⟨e1, -, -, -, -, e3⟩ | ⟨e1, e2, e4, -, e3⟩
    · omega
    · omega
    · omega
    · omega
    · have := lfR_bd hb e1 e2 e4
      rw [e3] at this
      exact this.2
  · unfold Rv2; intros; trivial
  · intro d k nv u V no r hg _ _ _ _ h; exact h
  · intro d k nv u V no r hg _ _ _ _ _ h; exact h
  · unfold Ra1; intros; trivial
  · intro d v k nv u V no f hg _ _ _ _ h; exact h
  · intro d v k nv u V no x k2 nv2 u2 V2 no2 r hg _ _ _ _ h _ _ _ _ _ h2; exact h2
  · unfold Rd1; intros; trivial
  · intro d v k nv u V no c p hg _ _ _ _ hF
    have hs := skW_le n b hg.2.2.2
    show p ≤ n
    rcases hF with ⟨e1, -, e3⟩ | ⟨e1, -, -, e3⟩ | ⟨e1, -, -, -, e3⟩ | ⟨e1, e2, -, e3⟩
    · omega
    · omega
    · omega
    · have := lfR_bd hb e1 (by rw [e2]; decide) (by rw [isCn, e2]; rintro (z | z); exact absurd z (by decide); exact absurd z.1 (by decide))
      rw [e3] at this
      exact this.2
  · intro d v k nv u V no kd nu acc k' bit f hg _ _ _ _ hlt hb1 hr h; exact h
  · intro d v k nv u V no kd nu acc k' bit x k2 nv2 u2 V2 no2 m r hg _ _ _ _ hlt hb1 hr h _ _ _ _ _ _ _ _ h2; exact h2
theorem stR_up {n : Nat} {b : Nat → Int32} (hb : ∀ k, n ≤ k → b k = -1) {w : Nat} (hw : w + 6 ≤ n) {tm : Option Nat} {c bit : Int32} {p : Nat} (h : stR n b w tm = .inl (c, p, bit)) : w ≤ p ∧ p ≤ n ∧ ¬ c = 0 := by
  have hsl := slP_le hb hw
  have hE : ∀ (f len e : Nat) (bt : Int32), stE b w f len e bt = .inl (c, p, bit) → w ≤ p ∧ p ≤ n ∧ ¬ c = 0 := fun f len e bt he => by
    unfold stE at he
    split at he
    · cases he
      exact ⟨Nat.le_refl _, by omega, by decide⟩
    · cases he
  by_cases h10 : b (slP b w) = 10
  · have hsr : ∀ z, z = (match txF b st_9 (n - (slP b w + 1)) (slP b w + 1) with | none => (.inl (8, w, 0) : StL) | some e => stE b w (slP b w + 1) (blE b (slP b w + 1) e - (slP b w + 1)) (e + 9) 4) → z = .inl (c, p, bit) → w ≤ p ∧ p ≤ n ∧ ¬ c = 0 := fun z hz hc => by
      rw [hz] at hc
      cases htx : txF b st_9 (n - (slP b w + 1)) (slP b w + 1) with
      | none =>
        rw [htx] at hc
        cases hc
        exact ⟨Nat.le_refl _, by omega, by decide⟩
      | some e =>
        rw [htx] at hc
        exact hE _ _ _ _ hc
    cases tm with
    | none => exact hsr _ (stR_srch h10 (Or.inl rfl)) h
    | some m =>
      cases hq : wdA b st_9 (leE b (slP b w + 1 + m)) with
      | true =>
        rw [stR_told h10 rfl hq] at h
        exact hE _ _ _ _ h
      | false => exact hsr _ (stR_srch h10 (Or.inr ⟨m, rfl, hq⟩)) h
  · rw [stR_bad h10] at h
    cases h
    exact ⟨by omega, hsl.2, by split <;> decide⟩
