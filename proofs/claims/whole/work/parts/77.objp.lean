/-! an object read: what it comes to on the component's side -/
theorem ob_row {A : Nat → Int32} {E : Nat → Nat → Int32} {noo : Nat} {a g v c p no k0 k1 : Int32} (h : ∀ i, i < noo → ∀ j, j < 8 → A (i * 8 + j) = E i j) (h0 : A (noo * 8 + 0) = a) (h1 : A (noo * 8 + 1) = g) (h2 : A (noo * 8 + 2) = v) (h3 : A (noo * 8 + 3) = c) (h4 : A (noo * 8 + 4) = p) (h5 : A (noo * 8 + 5) = no) (h6 : A (noo * 8 + 6) = k0) (h7 : A (noo * 8 + 7) = k1) : ∀ i, i < noo + 1 → ∀ j, j < 8 → A (i * 8 + j) = va_up E noo (rw8 a g v c p no k0 k1) i j := by
  intro i hi j hj
  by_cases e : i = noo
  · subst e
    rw [up_at]
    have : j = 0 ∨ j = 1 ∨ j = 2 ∨ j = 3 ∨ j = 4 ∨ j = 5 ∨ j = 6 ∨ j = 7 := by omega
    rcases this with e | e | e | e | e | e | e | e <;> subst e
    · exact h0
    · exact h1
    · exact h2
    · exact h3
    · exact h4
    · exact h5
    · exact h6
    · exact h7
  · rw [h i (by omega) j hj]
    simp [va_up, e]
def obF (C C' : wd_C) (n : Nat) (b : Nat → Int32) (nv u : Nat) (V : VT) (noo : Nat) (E : Nat → Nat → Int32) (a g : Int32) (k0 kh : Nat) (r3 : RR) : Prop := tpC C' n b ∧ (C'.1 8 = C.1 8 ∧ C'.1 11 = C.1 11 ∧ C'.1 12 = C.1 12 ∧ C'.1 13 = C.1 13 ∧ C'.1 14 = C.1 14 ∧ C'.1 15 = C.1 15 ∧ C'.2.1 11 = C.2.1 11) ∧ obC C' (noo + 1) (va_up E noo (rowR n b a g k0 r3)) ∧ match r3 with
  | .inl (c, p, _) => C'.1 4 = nI (neE b (n - p) p) ∧ ¬ c = 0 ∧ kh ≤ p ∧ p ≤ n ∧ vsC C' nv u V
  | .inr (y, k, nv', u', V', _) => C'.1 4 = nI k ∧ vsC C' nv' u' V' ∧ kh ≤ k ∧ k ≤ n ∧ u' ≤ k ∧ y < nv' ∧ nv ≤ nv' ∧ vbe nv V V' ∧ ∃ ht', hG nv' V' ht'
/-- what is known of a value read -/
def rdFx (n nv u : Nat) (V : VT) : RR → Prop
  | .inl (c, _, _) => ¬ c = 0
  | .inr (x, k2, nv2, u2, V2, _) => vok nv2 V2 ∧ x < nv2 ∧ fre nv2 V2 x ∧ k2 ≤ n ∧ u2 ≤ k2 ∧ nv2 ≤ 300 ∧ (∀ w, w < nv2 → nbOK (V2.1 w) (V2.2.1 w)) ∧ nv ≤ nv2 ∧ vbe nv V V2 ∧ ∀ w, w < nv2 → V2.1 w = 7 → ∃ m, (V2.2.2.1 w).length = 2 * m
def obP (C : wd_C) (Y : wd_Y) (og : Nat → Int64) (n : Nat) (b : Nat → Int32) (nv u : Nat) (V : VT) (noo : Nat) (E : Nat → Nat → Int32) (a g : Int32) (k0 kh : Nat) (vr : Option Value) (w' : am_W) : Prop := vr = none ∧ ∃ (r : RR) (C' : wd_C), Rd n b none 0 (kh, nv, u, V, 0) r ∧ rdFx n nv u V r ∧ w' = wd C' Y og ∧ obF C C' n b nv u V noo E a g k0 kh (fin2 n b (fin1 n b E noo r))
theorem fin1_bad (n : Nat) (b : Nat → Int32) (E : Nat → Nat → Int32) (noo : Nat) (f : Int32 × Nat × Int32) : fin2 n b (fin1 n b E noo (.inl f)) = .inl f := rfl
theorem stmR_lw {n : Nat} {b : Nat → Int32} (hb : ∀ k, n ≤ k → b k = -1) {k nv u : Nat} {V : VT} {no : Int32} {x : Nat} {tm : Option Nat} (hk : k ≤ n) : rdW n b (k, nv, u, V, no) (stmR n b k nv u V no x tm) := by
  have hs := skW_le n b hk
  unfold stmR
  split
  · rename_i h
    have h6 := wdA7_in hb h.2
    have hsl := slP_le hb h6
    split
    · exact hs.1
    · have key : ∀ q : StL, (match q with | .inl (_, p, _) => skW n b k ≤ p | .inr (_, e, _) => skW n b k ≤ e) → rdW n b (k, nv, u, V, no) (match q with
          | .inl (c, p, bit) => .inl (c, p, no ||| bit)
          | .inr (bs, e, bit) => .inr (nv, e, nv + 1, u + bs.length, vtS V nv x bs, no ||| bit)) := by
        intro q hq
        rcases q with ⟨c, p, bit⟩ | ⟨bs, e, bit⟩
        · have h2 : skW n b k ≤ p := hq
          show k ≤ p
          omega
        · have h2 : skW n b k ≤ e := hq
          show k ≤ e
          omega
      apply key
      unfold stR
      by_cases h10 : b (slP b (skW n b k)) = 10
      · rw [if_pos h10]
        have hE : ∀ (f len e : Nat) (bit : Int32), skW n b k ≤ e → (match stE b (skW n b k) f len e bit with | .inl (_, p, _) => skW n b k ≤ p | .inr (_, e, _) => skW n b k ≤ e) := fun f len e bit he => by
          unfold stE
          by_cases h4 : 400 < len
          · rw [if_pos h4]; exact Nat.le_refl _
          · rw [if_neg h4]; exact he
        have hin : ∀ z : Option Nat, (match (match z with
            | some m => stE b (skW n b k) (slP b (skW n b k) + 1) m (leE b (slP b (skW n b k) + 1 + m) + 9) 0
            | none => match txF b st_9 (n - (slP b (skW n b k) + 1)) (slP b (skW n b k) + 1) with
              | none => (.inl (8, skW n b k, 0) : StL)
              | some e => stE b (skW n b k) (slP b (skW n b k) + 1) (blE b (slP b (skW n b k) + 1) e - (slP b (skW n b k) + 1)) (e + 9) 4) with | .inl (_, p, _) => skW n b k ≤ p | .inr (_, e, _) => skW n b k ≤ e) := by
          intro z
          cases z with
          | some m => exact hE _ _ _ _ (by have := leE_ge b (slP b (skW n b k) + 1 + m); omega)
          | none =>
            cases htx : txF b st_9 (n - (slP b (skW n b k) + 1)) (slP b (skW n b k) + 1) with
            | none => exact Nat.le_refl _
            | some e => exact hE _ _ _ _ (by have := txF_some htx; omega)
        exact hin _
      · rw [if_neg h10]
        show skW n b k ≤ slP b (skW n b k)
        omega
  · exact hs.1
