/-! switches; heads of objects and references on the component's tape -/
theorem am_ts_in {pc : Nat} {d lo hi : Int} {offs : Array Int} {x k : Int32} (h : x = k) : am_tsw pc d lo hi offs x = am_tsw pc d lo hi offs k := by rw [h]
theorem am_ts_out {pc : Nat} {d lo hi : Int} {offs : Array Int} {x : Int32} (h : x.toInt < lo ∨ hi < x.toInt) : am_tsw pc d lo hi offs x = am_tg pc d := if_pos h
section AMW
variable {l : Launch} {D : va_G} {cA : Nat → ClassId} {ad : Nat → Nat} {fm : Value} {d n : Nat} {M : am_M} {post : Option Value → am_W → Prop} {pc : Nat} {L : am_L} {S : List Value} {w : am_W}
theorem am_sw_r {x K : Int32} {a o df : Int} {r : List (Int × Int)} (hk : K.toInt = a) (kt : x = K → am_Rn l D cA ad fm d M n post (am_tg pc o, L, S, w)) (kf : ¬ x = K → am_Rn l D cA ad fm d M n post (am_tg pc (Op.lookupswitch.offset r df x.toInt), L, S, w)) : am_Rn l D cA ad fm d M n post (am_tg pc (Op.lookupswitch.offset ((a, o) :: r) df x.toInt), L, S, w) := by
  by_cases h : x = K
  · subst h
    rw [show Op.lookupswitch.offset ((a, o) :: r) df x.toInt = o from by unfold Op.lookupswitch.offset; simp [hk]]
    exact kt rfl
  · rw [lv_osw h hk]
    exact kf h
end AMW
/-- two words of figures and a third word: where that stands -/
def prW (n : Nat) (b : Nat → Int32) (bs : List Int32) (k : Nat) : Option Nat := match fgW b k with
  | none => none
  | some e1 => match fgW b (skW n b e1) with
    | none => none
    | some e2 => if wdA b bs (skW n b e2) = true then some (skW n b e2) else none
theorem fgW_some {n : Nat} {b : Nat → Int32} (hb : ∀ k, n ≤ k → b k = -1) {k e : Nat} (hk : k ≤ n) (h : fgW b k = some e) : e = wEnd n b k ∧ k < e ∧ e ≤ n ∧ e ≤ k + 9 ∧ isReg (b e) = false ∧ isFgs n b k = true ∧ ∀ j, k ≤ j → j < e → isFig (b j) = true := by
  rw [fgW_eq hb hk] at h
  split at h
  · rename_i hf
    cases h
    have hw := wEnd_le n b hk
    have hf0 := hf
    unfold isFgs at hf
    simp only [Bool.and_eq_true, decide_eq_true_eq] at hf
    obtain ⟨h1, h2, h3⟩ := hf
    exact ⟨rfl, h2, hw.2, by omega, wEnd_at hb hk, hf0, fun j a c => (allF_iff b _ k).mp h1 j a (by omega)⟩
  · cases h
/-- the reference's way to the third word is the component's, where the text begins with a regular byte -/
theorem prW_eq {n : Nat} {b : Nat → Int32} (hb : ∀ k, n ≤ k → b k = -1) {bs : List Int32} {x : Int32} {r : List Int32} (hbs : bs = x :: r) (hx : isReg x = true) {k : Nat} (hk : k ≤ n) : prW n b bs k = match thW n b k with
    | none => none
    | some t => if wdA b bs t = true then some t else none := by
  have hf : ∀ t, wdA b bs t = true → isReg (b t) = true := by
    intro t h
    unfold wdA at h
    rw [hbs, txA] at h
    simp only [Bool.and_eq_true, decide_eq_true_eq] at h
    rw [h.1.1]; exact hx
  unfold prW thW
  rw [fgW_eq hb hk]
  by_cases h1 : isFgs n b k = true
  · have w1 := wEnd_le n b hk
    have w2 := skW_le n b w1.2
    have a1 := wEnd_at hb hk
    simp only [h1, if_true]
    rw [fgW_eq hb w2.2]
    by_cases e1 : skW n b (wEnd n b k) = wEnd n b k
    · have : isFgs n b (skW n b (wEnd n b k)) = false := by
        rw [e1]
        unfold isFgs
        rw [wEnd_not a1]
        simp
      simp [e1, this]
      rw [e1] at this
      simp [this]
    · simp only [e1, if_false]
      by_cases h2 : isFgs n b (skW n b (wEnd n b k)) = true
      · simp only [h2, if_true]
        have w3 := wEnd_le n b w2.2
        by_cases e2 : skW n b (wEnd n b (skW n b (wEnd n b k))) = wEnd n b (skW n b (wEnd n b k))
        · have a2 := wEnd_at hb w2.2
          have : wdA b bs (skW n b (wEnd n b (skW n b (wEnd n b k)))) = false := by
            cases hz : wdA b bs (skW n b (wEnd n b (skW n b (wEnd n b k)))) with
            | false => rfl
            | true =>
              have := hf _ hz
              rw [e2, a2] at this
              cases this
          simp only [e2, if_true]
          rw [e2] at this
          simp [this]
        · simp only [e2, if_false]
      · simp only [h2, if_false]
        simp
  · simp only [h1, if_false]
    simp
theorem nI_nm {n : Nat} (h : n < 2 ^ 31) : ¬ nI n = -1 := fun e => by
  have := nI_pos h
  rw [e] at this
  exact this (by decide)
theorem nI_nm' {n : Nat} (h : n < 2 ^ 31) : ¬ (-1) = nI n := fun e => nI_nm h e.symm
