/-! LEAVES: names, strings, words. What is read (both sides), and the component's state while it reads one -/
abbrev LF : Type := (Int32 × Nat) ⊕ (Int32 × Int64 × List Int32 × Nat × Int32)
/-- the values with one more, of this kind, number and these bytes -/
def vtLeaf (V : VT) (v : Nat) (k : Int32) (x : Int64) (bs : List Int32) : VT := (upd V.1 v k, vp_updL V.2.1 v x, va_up V.2.2.1 v [], va_up V.2.2.2 v bs)
theorem vtLeaf_new (V : VT) (v : Nat) : vtNew V v = vtLeaf V v 0 0 [] := rfl
theorem upd_upd (f : Nat → Int32) (k : Nat) (x y : Int32) : upd (upd f k x) k y = upd f k y := by
  funext j
  unfold upd
  split <;> rfl
theorem updL_updL (f : Nat → Int64) (k : Nat) (x y : Int64) : vp_updL (vp_updL f k x) k y = vp_updL f k y := by
  funext j
  unfold vp_updL
  split <;> rfl
theorem up_up {α : Type} (f : Nat → α) (k : Nat) (x y : α) : va_up (va_up f k x) k y = va_up f k y := by
  funext j
  unfold va_up
  split <;> rfl
theorem up_at {α : Type} (f : Nat → α) (k : Nat) (x : α) : va_up f k x k = x := by
  unfold va_up
  rw [if_pos rfl]
theorem vtLeaf_kind (V : VT) (v : Nat) (k k' : Int32) (x x' : Int64) (bs : List Int32) : vtKind (vtLeaf V v k x bs) v k' x' = vtLeaf V v k' x' bs := by
  unfold vtKind vtLeaf
  simp only [upd_upd, updL_updL]
theorem vtLeaf_byte (V : VT) (v : Nat) (k : Int32) (x : Int64) (bs : List Int32) (c : Int32) : vtByte (vtLeaf V v k x bs) v c = vtLeaf V v k x (bs ++ [c]) := by
  unfold vtByte vtLeaf
  simp only [up_up, up_at]
theorem vtLeaf_bs (V : VT) (v : Nat) (k : Int32) (x : Int64) (bs : List Int32) : (vtLeaf V v k x bs).2.2.2 v = bs := up_at _ _ _
theorem vtLeaf_ks (V : VT) (v : Nat) (k : Int32) (x : Int64) (bs : List Int32) : (vtLeaf V v k x bs).2.2.1 v = [] := up_at _ _ _
/-- what reading leaves alone: all but the values, and the starts of the earlier ones -/
def fC (C C' : wd_C) (nv : Nat) : Prop := (C'.1 0 = C.1 0 ∧ C'.1 3 = C.1 3 ∧ C'.1 8 = C.1 8 ∧ C'.1 11 = C.1 11 ∧ C'.1 12 = C.1 12 ∧ C'.1 13 = C.1 13 ∧ C'.1 14 = C.1 14 ∧ C'.1 15 = C.1 15) ∧ (C'.2.1 0 = C.2.1 0 ∧ C'.2.1 10 = C.2.1 10 ∧ C'.2.1 11 = C.2.1 11) ∧ ∀ w, w < nv → C'.2.1 2 w = C.2.1 2 w
theorem fC_rf (C : wd_C) (nv : Nat) : fC C C nv := ⟨⟨rfl, rfl, rfl, rfl, rfl, rfl, rfl, rfl⟩, ⟨rfl, rfl, rfl⟩, fun _ _ => rfl⟩
theorem fC_tr {C C1 C2 : wd_C} {nv nv1 : Nat} (h : fC C C1 nv) (h2 : fC C1 C2 nv1) (hn : nv ≤ nv1) : fC C C2 nv := by
  obtain ⟨⟨a1, a2, a3, a4, a5, a6, a7, a8⟩, ⟨b1, b2, b3⟩, c⟩ := h
  obtain ⟨⟨p1, p2, p3, p4, p5, p6, p7, p8⟩, ⟨q1, q2, q3⟩, r⟩ := h2
  exact ⟨⟨p1.trans a1, p2.trans a2, p3.trans a3, p4.trans a4, p5.trans a5, p6.trans a6, p7.trans a7, p8.trans a8⟩, ⟨q1.trans b1, q2.trans b2, q3.trans b3⟩, fun w hw => (r w (by omega)).trans (c w hw)⟩
theorem tpC_f {C C' : wd_C} {n nv : Nat} {b : Nat → Int32} (h : tpC C n b) (hf : fC C C' nv) : tpC C' n b := by
  obtain ⟨h1, h2, h3, h4⟩ := h
  exact ⟨hf.1.1.trans h1, h2, fun k hk => by rw [hf.2.1.1]; exact h3 k hk, h4⟩
/-- while a leaf is read: its value is the last, and so are its bytes -/
def lfC (C0 C : wd_C) (nv u : Nat) (V : VT) (kd : Int32) (nu : Int64) (acc : List Int32) : Prop :=
  vsC C (nv + 1) (u + acc.length) (vtLeaf V nv kd nu acc) ∧ vcu C (u + acc.length) (vtLeaf V nv kd nu acc) nv ∧ fC C0 C nv ∧ C.2.1 7 = C0.2.1 7 ∧ (C.1 5 = C0.1 5 ∧ C.1 6 = C0.1 6) ∧ C.1 7 = C0.1 7
def isB (x : Int32) : Prop := ∃ j, j < 256 ∧ x = nI j
theorem lfC_kind {C0 C : wd_C} {nv u : Nat} {V : VT} {kd : Int32} {nu : Int64} {acc : List Int32} (h : lfC C0 C nv u V kd nu acc) (k : Int32) (x : Int64) : lfC C0 (vKind C nv k x) nv u V k x acc := by
  obtain ⟨h1, h2, h3, h4, h5, h6⟩ := h
  refine ⟨?_, ?_, ⟨h3.1, h3.2.1, h3.2.2⟩, h4, h5, h6⟩
  · have := vsC_kind h1 (v := nv) (by omega) (vtLeaf_ks _ _ _ _ _) k x
    rw [vtLeaf_kind] at this
    exact this
  · obtain ⟨s, s1, s2⟩ := h2
    rw [vtLeaf_bs] at s2
    exact ⟨s, s1, by rw [vtLeaf_bs]; exact s2⟩
theorem lfC_byte {C0 C : wd_C} {nv u : Nat} {V : VT} {kd : Int32} {nu : Int64} {acc : List Int32} (h : lfC C0 C nv u V kd nu acc) (hu : u + acc.length < 2000) {x : Int32} (hx : isB x) : lfC C0 (vByte C nv (u + acc.length) x) nv u V kd nu (acc ++ [x]) := by
  obtain ⟨h1, h2, h3, h4, h5, h6⟩ := h
  obtain ⟨j, hj, rfl⟩ := hx
  have := vsC_byte h1 (v := nv) (by omega) h2 hu hj
  rw [vtLeaf_byte] at this
  have e : u + (acc ++ [nI j]).length = u + acc.length + 1 := by simp; omega
  refine ⟨by rw [e]; exact this.1, by rw [e]; exact this.2, ⟨h3.1, h3.2.1, h3.2.2⟩, h4, h5, h6⟩
/-- the answer to a leaf -/
def lfP (C0 : wd_C) (Y : wd_Y) (og : Nat → Int64) (nv u : Nat) (V : VT) : LF → Option Value → am_W → Prop
  | .inl (c, p), vr, w' => vr = some (.int (-1)) ∧ ∃ C' : wd_C, w' = wd C' Y og ∧ C'.1 5 = c ∧ C'.1 6 = nI p ∧ C'.1 7 = C0.1 7 ∧ fC C0 C' nv ∧ ∃ kd nu acc, vsC C' (nv + 1) (u + acc.length) (vtLeaf V nv kd nu acc)
  | .inr (kd, nu, acc, k, bit), vr, w' => vr = some (.int (nI nv)) ∧ ∃ C' : wd_C, w' = wd C' Y og ∧ C'.1 4 = nI k ∧ (C'.1 5 = C0.1 5 ∧ C'.1 6 = C0.1 6) ∧ C'.1 7 = C0.1 7 ||| bit ∧ fC C0 C' nv ∧ C'.2.1 7 = C0.2.1 7 ∧ vsC C' (nv + 1) (u + acc.length) (vtLeaf V nv kd nu acc)
theorem lfP_bad {C0 C : wd_C} {Y : wd_Y} {og : Nat → Int64} {nv u : Nat} {V : VT} {kd : Int32} {nu : Int64} {acc : List Int32} (h : lfC C0 C nv u V kd nu acc) (c : Int32) (p : Nat) : lfP C0 Y og nv u V (.inl (c, p)) (some (.int (-1))) (wd (upd (upd C.1 5 c) 6 (nI p), C.2) Y og) := by
  obtain ⟨h1, h2, h3, h4, h5, h6⟩ := h
  exact ⟨rfl, _, rfl, rfl, rfl, h6, h3, kd, nu, acc, h1⟩
theorem lfP_ok {C0 C : wd_C} {Y : wd_Y} {og : Nat → Int64} {nv u : Nat} {V : VT} {kd : Int32} {nu : Int64} {acc : List Int32} (h : lfC C0 C nv u V kd nu acc) {k : Nat} (hk : C.1 4 = nI k) : lfP C0 Y og nv u V (.inr (kd, nu, acc, k, 0)) (some (.int (nI nv))) (wd C Y og) := by
  obtain ⟨h1, h2, h3, h4, h5, h6⟩ := h
  exact ⟨rfl, _, rfl, hk, h5, by rw [h6, Int32.or_zero], h3, h4, h1⟩
theorem hexV_rng (c : Int32) : hexV c = -1 ∨ ∃ h, h < 16 ∧ hexV c = nI h := by
  unfold hexV
  by_cases h1 : isFig c = true
  · rw [if_pos h1]
    obtain ⟨x, x1, x2, rfl⟩ := isFig_nI h1
    exact Or.inr ⟨x - 48, by omega, by rw [show (48 : Int32) = nI 48 from rfl, pk_sub (by omega)]⟩
  · rw [if_neg h1]
    have key : ∀ (lo : Nat) (lo' : Int32), lo' = nI lo → lo < 100 → 65 ≤ lo → lo' ≤ c → c ≤ nI (lo + 5) → ∃ h, h < 16 ∧ c - lo' + 10 = nI h := by
      intro lo lo' e l1 l0 l2 l3
      have h3 : ¬ c < 0 := fun z => by
        rw [e, Int32.le_iff_toInt_le] at l2
        rw [Int32.lt_iff_toInt_lt] at z
        have e1 : (nI lo).toInt = lo := by
          have : ∀ j, j < 100 → (nI j).toInt = j := by decide +kernel
          exact this lo l1
        have e2 : (0 : Int32).toInt = 0 := by decide
        omega
      obtain ⟨k, hk, rfl⟩ := nI_of h3
      rw [e] at l2
      have g1 := (nI_leI (by omega) hk).mp l2
      have g2 := (nI_leI hk (by omega)).mp l3
      exact ⟨k - lo + 10, by omega, by rw [e, pk_sub g1, show (10 : Int32) = nI 10 from rfl, nI_add]⟩
    by_cases h2 : 97 ≤ c ∧ c ≤ 102
    · rw [if_pos h2]
      exact Or.inr (key 97 97 rfl (by omega) (by omega) h2.1 h2.2)
    · rw [if_neg h2]
      by_cases h3 : 65 ≤ c ∧ c ≤ 70
      · rw [if_pos h3]
        exact Or.inr (key 65 65 rfl (by omega) (by omega) h3.1 h3.2)
      · rw [if_neg h3]
        exact Or.inl rfl
/-- two figures of base 16 -/
theorem hex2 {c e : Int32} (h1 : ¬ hexV c = -1) (h2 : ¬ hexV e = -1) : isB (hexV c * 16 + hexV e) ∧ (hexV c + hexV e = 0 ↔ hexV c * 16 + hexV e = 0) := by
  obtain ⟨x, x1, x2⟩ := (hexV_rng c).resolve_left h1
  obtain ⟨y, y1, y2⟩ := (hexV_rng e).resolve_left h2
  rw [x2, y2, show (16 : Int32) = nI 16 from rfl, show (0 : Int32) = nI 0 from rfl, pk_mul, nI_add, nI_add]
  refine ⟨⟨x * 16 + y, by omega, rfl⟩, ?_⟩
  rw [nI_eq (by omega) (by omega), nI_eq (by omega) (by omega)]
  omega
theorem tpC_B {C : wd_C} {n : Nat} {b : Nat → Int32} (h : tpC C n b) {k : Nat} (hk : k < n) : isB (b k) := by
  obtain ⟨j, h1, h2, -⟩ := h.2.2.1 k hk
  exact ⟨j, h1, h2⟩
/-- a byte of a name is coded -/
def nmC (b : Nat → Int32) (k : Nat) : Bool := decide (b k = 35) && (!decide (hexV (b (k + 1)) = -1) && !decide (hexV (b (k + 2)) = -1))
def nmV (b : Nat → Int32) (k : Nat) : Int32 := if nmC b k = true then hexV (b (k + 1)) * 16 + hexV (b (k + 2)) else b k
def nmN (b : Nat → Int32) (k : Nat) : Nat := if nmC b k = true then 3 else 1
/-- a name's bytes; none: it is too long, or a coded byte is 0 -/
def nmR (b : Nat → Int32) (e : Nat) : Nat → Nat → List Int32 → Option (List Int32 × Nat)
  | 0, _, _ => none
  | f + 1, k, acc => if k < e then (if nmC b k = true ∧ nmV b k = 0 then none else if 40 ≤ acc.length then none else nmR b e f (k + nmN b k) (acc ++ [nmV b k])) else some (acc, k)
def nmL (p : Nat) : Option (List Int32 × Nat) → LF
  | none => .inl (3, p)
  | some (bs, k) => .inr (4, 0, bs, k, 0)
theorem nmR_end {b : Nat → Int32} {e f k : Nat} {acc : List Int32} (h : ¬ k < e) : nmR b e (f + 1) k acc = some (acc, k) := by rw [nmR, if_neg h]
theorem nmR_nul {b : Nat → Int32} {e f k : Nat} {acc : List Int32} (h : k < e) (hc : nmC b k = true) (h0 : hexV (b (k + 1)) * 16 + hexV (b (k + 2)) = 0) : nmR b e (f + 1) k acc = none := by
  rw [nmR, if_pos h, if_pos ⟨hc, by rw [nmV, if_pos hc]; exact h0⟩]
theorem nmR_ful {b : Nat → Int32} {e f k : Nat} {acc : List Int32} (h : k < e) (h4 : 40 ≤ acc.length) : nmR b e (f + 1) k acc = none := by
  rw [nmR, if_pos h, if_pos h4]
  split <;> rfl
theorem nmR_cod {b : Nat → Int32} {e f k : Nat} {acc : List Int32} (h : k < e) (h4 : ¬ 40 ≤ acc.length) (hc : nmC b k = true) (h0 : ¬ hexV (b (k + 1)) * 16 + hexV (b (k + 2)) = 0) : nmR b e (f + 1) k acc = nmR b e f (k + 3) (acc ++ [hexV (b (k + 1)) * 16 + hexV (b (k + 2))]) := by
  have hv : nmV b k = hexV (b (k + 1)) * 16 + hexV (b (k + 2)) := by rw [nmV, if_pos hc]
  rw [nmR, if_pos h, if_neg (fun z => h0 (hv ▸ z.2)), if_neg h4, hv, nmN, if_pos hc]
theorem nmR_pla {b : Nat → Int32} {e f k : Nat} {acc : List Int32} (h : k < e) (h4 : ¬ 40 ≤ acc.length) (hc : nmC b k = false) : nmR b e (f + 1) k acc = nmR b e f (k + 1) (acc ++ [b k]) := by
  have hc2 : ¬ nmC b k = true := by rw [hc]; decide
  rw [nmR, if_pos h, if_neg (fun z => hc2 z.1), if_neg h4, nmV, if_neg hc2, nmN, if_neg hc2]
theorem hexV_reg {c : Int32} (h : ¬ hexV c = -1) : isReg c = true := by
  have key : ∀ j, j < 128 → ¬ hexV (nI j) = -1 → isReg (nI j) = true := by decide +kernel
  have hr : 0 ≤ c ∧ c ≤ 102 := by
    unfold hexV at h
    by_cases h1 : isFig c = true
    · obtain ⟨x, x1, x2, rfl⟩ := isFig_nI h1
      exact ⟨(nI_leI (a := 0) (by omega) (by omega)).mpr (by omega), (nI_leI (b := 102) (by omega) (by omega)).mpr (by omega)⟩
    · rw [if_neg h1] at h
      by_cases h2 : 97 ≤ c ∧ c ≤ 102
      · exact ⟨Int32.le_trans (by decide) h2.1, h2.2⟩
      · rw [if_neg h2] at h
        by_cases h3 : 65 ≤ c ∧ c ≤ 70
        · exact ⟨Int32.le_trans (by decide) h3.1, Int32.le_trans h3.2 (by decide)⟩
        · rw [if_neg h3] at h
          exact absurd rfl h
  obtain ⟨j, hj, rfl⟩ := nI_of (x := c) (fun z => absurd (Int32.lt_of_le_of_lt hr.1 z) Int32.lt_irrefl)
  have g2 := (nI_leI (b := 102) hj (by omega)).mp hr.2
  exact key j (by omega) h
/-- a coded byte lies within its word -/
theorem nmC_in {n : Nat} {b : Nat → Int32} (hb : ∀ k, n ≤ k → b k = -1) {p k : Nat} (hp : p ≤ n) (hk : p ≤ k) (hke : k < wEnd n b p) (hc : nmC b k = true) : k + 3 ≤ wEnd n b p := by
  simp only [nmC, Bool.and_eq_true, decide_eq_true_eq, Bool.not_eq_true', decide_eq_false_iff_not] at hc
  obtain ⟨-, h1, h2⟩ := hc
  have hr := wEnd_at hb hp
  rcases Nat.lt_or_ge k (wEnd n b p - 2) with g | g
  · omega
  · exfalso
    rcases Nat.lt_or_ge (k + 1) (wEnd n b p) with g2 | g2
    · have : wEnd n b p = k + 2 := by omega
      rw [this, hexV_reg h2] at hr
      cases hr
    · have : wEnd n b p = k + 1 := by omega
      rw [this, hexV_reg h1] at hr
      cases hr
