/-! numbers within bounds; heights; what reading comes to on the component's side -/
abbrev kdOK (k : Int32) : Prop := k = 0 ∨ k = 1 ∨ k = 2 ∨ k = 3 ∨ k = 4 ∨ k = 5 ∨ k = 6 ∨ k = 7 ∨ k = 8 ∨ k = 9
def nbOK (kd : Int32) (x : Int64) : Prop := (kd = 2 → ∃ m, m < 1000000000 ∧ (x = lN m ∨ x = -(lN m))) ∧ (kd = 3 → ∃ m, m < 1000000000000000 ∧ (x = lN m ∨ x = -(lN m))) ∧ (kd = 8 → ∃ a g, a < 1000000000 ∧ g < 1000000000 ∧ x = lN g * 1000000000 + lN a) ∧ kdOK kd
theorem nbB_bd {b : Nat → Int32} : ∀ (m k pt bf bh S : Nat) (pt' bf' bh' : Nat) (s' : Int64), pt ≤ 1 → (pt = 0 → bh = 0) → S < 10 ^ (bf + bh) → nbB b m k pt bf bh (lN S) = some (pt', bf', bh', s') → bf ≤ bf' ∧ bh ≤ bh' ∧ (pt' = 0 → bh' = 0) ∧ (bf' + bh' ≤ 15 → ∃ S', s' = lN S' ∧ S' < 10 ^ (bf' + bh'))
  | 0, k, pt, bf, bh, S, pt', bf', bh', s', h1, h2, h3, h => by
    cases h
    exact ⟨Nat.le_refl _, Nat.le_refl _, h2, fun _ => ⟨S, rfl, h3⟩⟩
  | m + 1, k, pt, bf, bh, S, pt', bf', bh', s', h1, h2, h3, h => by
    rw [nbB] at h
    split at h
    · exact nbB_bd m (k + 1) 1 bf bh S pt' bf' bh' s' (Nat.le_refl _) (fun z => absurd z (by decide)) h3 h
    · split at h
      · rename_i hf
        obtain ⟨x, x1, x2, x3⟩ := isFig_nI hf
        have e : lN S * 10 + (b k).toInt64 - 48 = lN (S * 10 + (x - 48)) := by
          rw [x3, nI_l (by omega), show (10 : Int64) = lN 10 from rfl, lN_mul, lN_add, show (48 : Int64) = lN 48 from rfl, lN_sub (by omega)]
          congr 1
          omega
        rw [e] at h
        have hp : pt = 0 ∨ pt = 1 := by omega
        have hS : S * 10 + (x - 48) < 10 ^ (bf + (1 - pt) + (bh + pt)) := by
          rw [show bf + (1 - pt) + (bh + pt) = bf + bh + 1 by omega, Nat.pow_succ]
          omega
        have := nbB_bd m (k + 1) pt (bf + (1 - pt)) (bh + pt) (S * 10 + (x - 48)) pt' bf' bh' s' h1 (fun z => by rw [z, h2 z]) hS h
        exact ⟨by omega, by omega, this.2.2.1, this.2.2.2⟩
      · cases h
theorem nbA_bd {b : Nat → Int32} : ∀ (m k sg : Nat) (sg' pt' bf' bh' : Nat) (s' : Int64), nbA b m k sg = (sg', some (pt', bf', bh', s')) → (pt' = 0 → bh' = 0) ∧ (bf' + bh' ≤ 15 → ∃ S', s' = lN S' ∧ S' < 10 ^ (bf' + bh'))
  | 0, k, sg, sg', pt', bf', bh', s', h => by
    cases h
    exact ⟨fun _ => rfl, fun _ => ⟨0, rfl, by decide⟩⟩
  | m + 1, k, sg, sg', pt', bf', bh', s', h => by
    rw [nbA] at h
    split at h
    · exact nbA_bd m (k + 1) (sg + 1) sg' pt' bf' bh' s' h
    · have h2 := (Prod.mk.inj h).2
      have := nbB_bd (m + 1) k 0 0 0 0 pt' bf' bh' s' (by decide) (fun _ => rfl) (by decide) h2
      exact this.2.2
theorem m10_N : ∀ (f S : Nat), m10 f (lN S) = lN (S * 10 ^ f)
  | 0, S => by rw [m10, Nat.pow_zero, Nat.mul_one]
  | f + 1, S => by
    rw [m10, show (10 : Int64) = lN 10 from rfl, lN_mul, m10_N f, Nat.pow_succ, Nat.mul_assoc, Nat.mul_comm 10]
theorem nbL_nb {b : Nat → Int32} {p e : Nat} {kd : Int32} {nu : Int64} {acc : List Int32} {k' : Nat} {bit : Int32} (h : nbL b p e = .inr (kd, nu, acc, k', bit)) : nbOK kd nu := by
  unfold nbL at h
  rcases hA : nbA b (e - p) p 0 with ⟨sg, _ | ⟨pt, bf, bh, s⟩⟩
  · rw [hA] at h
    cases h
  · rw [hA, nbF] at h
    obtain ⟨g1, g2⟩ := nbA_bd _ _ _ _ _ _ _ _ hA
    by_cases h1 : bf + bh = 0
    · rw [if_pos h1] at h
      cases h
    · rw [if_neg h1] at h
      by_cases h2 : 9 < bf ∨ 6 < bh
      · rw [if_pos h2] at h
        cases h
      · rw [if_neg h2] at h
        have h3 := Sum.inr.inj h
        obtain ⟨S, rfl, hS⟩ := g2 (by omega)
        have e1 : kd = if 0 < pt then 3 else 2 := (congrArg (fun z => z.1) h3).symm
        have e2 : nu = if b p = 45 then -(m10 (if 0 < pt then 6 - bh else 0) (lN S)) else m10 (if 0 < pt then 6 - bh else 0) (lN S) := (congrArg (fun z => z.2.1) h3).symm
        rw [m10_N] at e2
        have key : ∀ m : Nat, (nu = if b p = 45 then -(lN m) else lN m) → nu = lN m ∨ nu = -(lN m) := fun m hm => by
          by_cases h5 : b p = 45
          · rw [if_pos h5] at hm
            exact Or.inr hm
          · rw [if_neg h5] at hm
            exact Or.inl hm
        by_cases hp : 0 < pt
        · rw [if_pos hp] at e1 e2
          have hb : S * 10 ^ (6 - bh) < 1000000000000000 := by
            have h6 : S * 10 ^ (6 - bh) < 10 ^ (bf + bh) * 10 ^ (6 - bh) := Nat.mul_lt_mul_of_pos_right hS (Nat.pow_pos (by decide))
            rw [← Nat.pow_add] at h6
            have h7 : 10 ^ (bf + bh + (6 - bh)) ≤ 10 ^ 15 := Nat.pow_le_pow_right (by decide) (by omega)
            omega
          exact ⟨fun z => absurd (e1.symm.trans z) (by decide), fun _ => ⟨_, hb, key _ e2⟩, fun z => absurd (e1.symm.trans z) (by decide), by rw [e1]; decide⟩
        · rw [if_neg hp] at e1 e2
          rw [Nat.pow_zero, Nat.mul_one] at e2
          have hb : S < 1000000000 := by
            rw [g1 (by omega)] at hS
            have h7 : 10 ^ (bf + 0) ≤ 10 ^ 9 := Nat.pow_le_pow_right (by decide) (by omega)
            omega
          exact ⟨fun _ => ⟨_, hb, key _ e2⟩, fun z => absurd (e1.symm.trans z) (by decide), fun z => absurd (e1.symm.trans z) (by decide), by rw [e1]; decide⟩
theorem nbOK_no {kd : Int32} {x : Int64} (h2 : ¬ kd = 2) (h3 : ¬ kd = 3) (h8 : ¬ kd = 8) (hk : kdOK kd) : nbOK kd x := ⟨fun z => absurd z h2, fun z => absurd z h3, fun z => absurd z h8, hk⟩
theorem lfR_nb {n : Nat} {b : Nat → Int32} (hb : ∀ k, n ≤ k → b k = -1) {k : Nat} (hk : k < n) {kd : Int32} {nu : Int64} {acc : List Int32} {k' : Nat} {bit : Int32} (h : lfR n b k = .inr (kd, nu, acc, k', bit)) : nbOK kd nu ∧ (b k = 47 → kd = 4) := by
  have five : ∀ (f j o : Nat) (a : List Int32), rdR n b k f j o a = .inr (kd, nu, acc, k', bit) → kd = 5 := by
    intro f
    induction f with
    | zero => intro j o a h; cases h
    | succ f ih =>
      intro j o a h
      rw [rdR] at h
      repeat' split at h
      all_goals first | (cases h; done) | exact ih _ _ _ h | (cases h; rfl)
  have five2 : ∀ (f j : Nat) (x : Int32) (a : List Int32), anR n b k f j x a = .inr (kd, nu, acc, k', bit) → kd = 5 := by
    intro f
    induction f with
    | zero => intro j o a h; cases h
    | succ f ih =>
      intro j o a h
      rw [anR] at h
      repeat' split at h
      all_goals first | (cases h; done) | exact ih _ _ _ h | (cases h; rfl)
  have no5 : kd = 5 → nbOK kd nu := fun z => nbOK_no (by rw [z]; decide) (by rw [z]; decide) (by rw [z]; decide) (by rw [z]; decide)
  unfold lfR at h
  split at h
  · cases hq : nmR b (wEnd n b (k + 1)) 2000 (k + 1) [] with
    | none => rw [hq] at h; cases h
    | some q =>
      rw [hq] at h
      cases h
      exact ⟨nbOK_no (by decide) (by decide) (by decide) (by decide), fun _ => rfl⟩
  · rename_i h47
    refine ⟨?_, fun z => absurd z h47⟩
    split at h
    · exact no5 (five _ _ _ _ h)
    · split at h
      · exact no5 (five2 _ _ _ _ h)
      · unfold wdL at h
        split at h
        · rename_i t ht
          cases h
          refine ⟨fun z => absurd z (by decide), fun z => absurd z (by decide), fun _ => ?_, by decide⟩
          obtain ⟨a1, a2, a3, a4, a5, a6, a7, a8, a9, a10⟩ := prW_ref hb (by omega) ht
          have hw := wEnd_le n b (k := k) (by omega)
          have w2 := skW_le n b hw.2
          have w3 := wEnd_le n b w2.2
          have hF : isFgs n b (skW n b (wEnd n b k)) = true := by
            unfold thW at a1
            split at a1
            · split at a1
              · cases a1
              · split at a1
                · assumption
                · cases a1
            · cases a1
          unfold isFgs at hF
          simp only [Bool.and_eq_true, decide_eq_true_eq] at hF
          exact ⟨_, _, fgV_9 (by omega) a4 a6, fgV_9 (by omega) (by omega) a8, rfl⟩
        · split at h
          · cases h
            exact nbOK_no (by decide) (by decide) (by decide) (by decide)
          · split at h
            · cases h
              exact nbOK_no (by decide) (by decide) (by decide) (by decide)
            · split at h
              · cases h
                exact nbOK_no (by decide) (by decide) (by decide) (by decide)
              · exact nbL_nb h
/-- a value's place in the tree: heights, keys, numbers -/
def gv (V : VT) (ht : Nat → Nat) (v : Nat) : Prop := ht v ≤ 8 ∧ (¬ V.1 v = 9 → ∀ c ∈ V.2.2.1 v, ht c < ht v) ∧ (V.1 v = 7 → ∀ c ∈ keysOf (V.2.2.1 v), V.1 c = 4) ∧ (V.1 v = 9 → ht v = 8 ∧ ∃ c, V.2.2.1 v = [c] ∧ V.1 c = 7) ∧ nbOK (V.1 v) (V.2.1 v)
def hG (nv : Nat) (V : VT) (ht : Nat → Nat) : Prop := ∀ v, v < nv → gv V ht v
theorem hG_leaf {nv : Nat} {V : VT} {ht : Nat → Nat} (h : hG nv V ht) (ho : vok nv V) {k : Int32} {x : Int64} (bs : List Int32) (hk : ¬ k = 9) (hb : nbOK k x) {e : Nat} (he : e ≤ 8) : hG (nv + 1) (vtLeaf V nv k x bs) (va_up ht nv e) := by
  intro v hv
  by_cases e1 : v = nv
  · subst e1
    have k1 : (vtLeaf V v k x bs).1 v = k := by simp [vtLeaf, upd]
    have k2 : (vtLeaf V v k x bs).2.1 v = x := by simp [vtLeaf, vp_updL]
    unfold gv
    rw [vtLeaf_ks, k1, k2, up_at]
    exact ⟨he, fun _ c hc => by simp at hc, fun _ c hc => by simp [keysOf] at hc, fun z => absurd z hk, hb⟩
  · have hlt : v < nv := by omega
    obtain ⟨h1, h2, h3, h4, h5⟩ := h v hlt
    have k1 : (vtLeaf V nv k x bs).1 v = V.1 v := by simp [vtLeaf, upd, e1]
    have k2 : (vtLeaf V nv k x bs).2.1 v = V.2.1 v := by simp [vtLeaf, vp_updL, e1]
    have k3 : (vtLeaf V nv k x bs).2.2.1 v = V.2.2.1 v := by simp [vtLeaf, va_up, e1]
    have kc : ∀ c ∈ V.2.2.1 v, (vtLeaf V nv k x bs).1 c = V.1 c ∧ va_up ht nv e c = ht c := fun c hc => by
      have := (ho.1 v hlt).1 c hc
      have : c ≠ nv := by omega
      simp [vtLeaf, upd, va_up, this]
    have kv : va_up ht nv e v = ht v := by simp [va_up, e1]
    unfold gv
    rw [k1, k2, k3, kv]
    refine ⟨h1, fun z c hc => by rw [(kc c hc).2]; exact h2 z c hc, fun z c hc => by rw [(kc c (keysOf_mem hc)).1]; exact h3 z c hc, fun z => ?_, h5⟩
    obtain ⟨c0, c, c1, c2⟩ := h4 z
    exact ⟨c0, c, c1, by rw [(kc c (by rw [c1]; simp)).1]; exact c2⟩
theorem hG_kids {nv : Nat} {V : VT} {ht : Nat → Nat} (h : hG nv V ht) {v : Nat} (hv9 : ¬ V.1 v = 9) {ks : List Nat} (hks : v < nv → (∀ c ∈ ks, c ∈ V.2.2.1 v ∨ ht c < ht v)) (hk4 : V.1 v = 7 → v < nv → ∀ c ∈ keysOf ks, c ∈ keysOf (V.2.2.1 v) ∨ V.1 c = 4) : hG nv (V.1, V.2.1, va_up V.2.2.1 v ks, V.2.2.2) ht := by
  intro w hw
  obtain ⟨h1, h2, h3, h4, h5⟩ := h w hw
  by_cases e : w = v
  · subst e
    refine ⟨h1, fun z c hc => ?_, fun z c hc => ?_, fun z => absurd z hv9, h5⟩
    · have hc2 : c ∈ ks := by simpa [va_up] using hc
      rcases hks hw c hc2 with g | g
      · exact h2 z c g
      · exact g
    · have hc2 : c ∈ keysOf ks := by simpa [va_up] using hc
      rcases hk4 z hw c hc2 with g | g
      · exact h3 z c g
      · exact g
  · have k3 : va_up V.2.2.1 v ks w = V.2.2.1 w := by simp [va_up, e]
    unfold gv
    show ht w ≤ 8 ∧ (¬ V.1 w = 9 → ∀ c ∈ va_up V.2.2.1 v ks w, ht c < ht w) ∧ (V.1 w = 7 → ∀ c ∈ keysOf (va_up V.2.2.1 v ks w), V.1 c = 4) ∧ (V.1 w = 9 → ht w = 8 ∧ ∃ c, va_up V.2.2.1 v ks w = [c] ∧ V.1 c = 7) ∧ nbOK (V.1 w) (V.2.1 w)
    rw [k3]
    exact ⟨h1, h2, h3, h4, h5⟩
