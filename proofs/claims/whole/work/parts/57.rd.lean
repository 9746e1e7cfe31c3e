/-! READING: what a value, an open array, an open dictionary come to. RS: at, values, bytes, the values, noted. The relation Rd is the least one that keeps its rules -/
abbrev RS : Type := Nat × Nat × Nat × VT × Int32
abbrev RM : Type := Option (Nat × Bool)
abbrev RR : Type := (Int32 × Nat × Int32) ⊕ (Nat × RS)
def lfR (n : Nat) (b : Nat → Int32) (k : Nat) : LF := if b k = 47 then nmL k (nmR b (wEnd n b (k + 1)) 2000 (k + 1) []) else if b k = 40 then rdR n b k 2000 (k + 1) 1 [] else if b k = 60 then anR n b k 2000 (k + 1) (-1) [] else wdL n b k
def isCn (b : Nat → Int32) (k : Nat) : Prop := b k = 91 ∨ (b k = 60 ∧ b (k + 1) = 60)
def bgV (c : Int32) : Bool := isReg c || (decide (c = 47) || (decide (c = 40) || (decide (c = 60) || decide (c = 91))))
def vF (n : Nat) (b : Nat → Int32) (d nv k : Nat) (c : Int32) (p : Nat) : Prop :=
  (k = n ∧ c = 1 ∧ p = n) ∨ (k < n ∧ isCn b k ∧ 8 ≤ d ∧ c = 5 ∧ p = k) ∨ (k < n ∧ bgV (b k) = false ∧ c = 2 ∧ p = k) ∨ (k < n ∧ bgV (b k) = true ∧ (isCn b k → d < 8) ∧ nv = 300 ∧ c = 6 ∧ p = k) ∨ (k < n ∧ bgV (b k) = true ∧ ¬ isCn b k ∧ nv < 300 ∧ lfR n b k = .inl (c, p))
def dF (n : Nat) (b : Nat → Int32) (nv k : Nat) (c : Int32) (p : Nat) : Prop :=
  (k = n ∧ c = 1 ∧ p = n) ∨ (k < n ∧ ¬ b k = 47 ∧ c = 7 ∧ p = k) ∨ (k < n ∧ b k = 47 ∧ nv = 300 ∧ c = 6 ∧ p = k) ∨ (k < n ∧ b k = 47 ∧ nv < 300 ∧ lfR n b k = .inl (c, p))
def gd (n nv u k : Nat) (V : VT) : Prop := vok nv V ∧ nv ≤ 300 ∧ u ≤ k ∧ k ≤ n
def fre (nv : Nat) (V : VT) (x : Nat) : Prop := ∀ w, w < nv → x ∉ V.2.2.1 w
section R57
variable (n : Nat) (b : Nat → Int32) (P : RM → Nat → RS → RR → Prop)
def Rv1 : Prop := ∀ d k nv u V no c p, gd n nv u k V → vF n b d nv (skW n b k) c p → P none d (k, nv, u, V, no) (.inl (c, p, no))
def Rv2 : Prop := ∀ d k nv u V no kd nu acc k' bit, gd n nv u k V → nv < 300 → skW n b k < n → bgV (b (skW n b k)) = true → ¬ isCn b (skW n b k) → lfR n b (skW n b k) = .inr (kd, nu, acc, k', bit) → P none d (k, nv, u, V, no) (.inr (nv, k', nv + 1, u + acc.length, vtLeaf V nv kd nu acc, no ||| bit))
def Rv3 : Prop := ∀ d k nv u V no r, gd n nv u k V → nv < 300 → d < 8 → skW n b k < n → b (skW n b k) = 91 → P (some (nv, false)) d (skW n b k + 1, nv + 1, u, vtLeaf V nv 6 0 [], no) r → P none d (k, nv, u, V, no) r
def Rv4 : Prop := ∀ d k nv u V no r, gd n nv u k V → nv < 300 → d < 8 → skW n b k + 1 < n → b (skW n b k) = 60 → b (skW n b k + 1) = 60 → P (some (nv, true)) d (skW n b k + 2, nv + 1, u, vtLeaf V nv 7 0 [], no) r → P none d (k, nv, u, V, no) r
def Ra1 : Prop := ∀ d v k nv u V no, gd n nv u k V → d < 8 → v < nv → V.1 v = 6 → skW n b k < n → b (skW n b k) = 93 → P (some (v, false)) d (k, nv, u, V, no) (.inr (v, skW n b k + 1, nv, u, V, no))
def Ra2 : Prop := ∀ d v k nv u V no f, gd n nv u k V → d < 8 → v < nv → V.1 v = 6 → ¬ b (skW n b k) = 93 → P none (d + 1) (skW n b k, nv, u, V, no) (.inl f) → P (some (v, false)) d (k, nv, u, V, no) (.inl f)
def Ra3 : Prop := ∀ d v k nv u V no x k2 nv2 u2 V2 no2 r, gd n nv u k V → d < 8 → v < nv → V.1 v = 6 → ¬ b (skW n b k) = 93 → P none (d + 1) (skW n b k, nv, u, V, no) (.inr (x, k2, nv2, u2, V2, no2)) → vok nv2 V2 → v < nv2 → x < nv2 → V2.1 v = 6 → fre nv2 V2 x → P (some (v, false)) d (k2, nv2, u2, vtPart V2 v x, no2) r → P (some (v, false)) d (k, nv, u, V, no) r
def Rd1 : Prop := ∀ d v k nv u V no, gd n nv u k V → d < 8 → v < nv → V.1 v = 7 → skW n b k + 1 < n → b (skW n b k) = 62 → b (skW n b k + 1) = 62 → P (some (v, true)) d (k, nv, u, V, no) (.inr (v, skW n b k + 2, nv, u, V, no))
def Rd2 : Prop := ∀ d v k nv u V no c p, gd n nv u k V → d < 8 → v < nv → V.1 v = 7 → ¬ (b (skW n b k) = 62 ∧ b (skW n b k + 1) = 62) → dF n b nv (skW n b k) c p → P (some (v, true)) d (k, nv, u, V, no) (.inl (c, p, no))
def Rd3 : Prop := ∀ d v k nv u V no kd nu acc k' bit f, gd n nv u k V → d < 8 → v < nv → V.1 v = 7 → nv < 300 → skW n b k < n → b (skW n b k) = 47 → lfR n b (skW n b k) = .inr (kd, nu, acc, k', bit) → P none (d + 1) (k', nv + 1, u + acc.length, vtLeaf V nv kd nu acc, no ||| bit) (.inl f) → P (some (v, true)) d (k, nv, u, V, no) (.inl f)
def Rd4 : Prop := ∀ d v k nv u V no kd nu acc k' bit x k2 nv2 u2 V2 no2 m r, gd n nv u k V → d < 8 → v < nv → V.1 v = 7 → nv < 300 → skW n b k < n → b (skW n b k) = 47 → lfR n b (skW n b k) = .inr (kd, nu, acc, k', bit) → P none (d + 1) (k', nv + 1, u + acc.length, vtLeaf V nv kd nu acc, no ||| bit) (.inr (x, k2, nv2, u2, V2, no2)) → vok nv2 V2 → nv + 1 ≤ nv2 → nv < x → x < nv2 → V2.1 v = 7 → (V2.2.2.1 v).length = 2 * m → fre nv2 V2 nv → fre nv2 V2 x → P (some (v, true)) d (k2, nv2, u2, vtEnt V2 v nv x, match vtFnd V2 v nv with | none => no2 | some _ => no2 ||| 2) r → P (some (v, true)) d (k, nv, u, V, no) r
def RdC : Prop := Rv1 n b P ∧ Rv2 n b P ∧ Rv3 n b P ∧ Rv4 n b P ∧ Ra1 n b P ∧ Ra2 n b P ∧ Ra3 n b P ∧ Rd1 n b P ∧ Rd2 n b P ∧ Rd3 n b P ∧ Rd4 n b P
end R57
def Rd (n : Nat) (b : Nat → Int32) (m : RM) (d : Nat) (s : RS) (r : RR) : Prop := ∀ P, RdC n b P → P m d s r
section R57b
variable {n : Nat} {b : Nat → Int32}
theorem Rd_v1 : Rv1 n b (Rd n b) := fun d k nv u V no c p h1 h2 P hP => hP.1 d k nv u V no c p h1 h2
theorem Rd_v2 : Rv2 n b (Rd n b) := fun d k nv u V no kd nu acc k' bit h1 h2 h3 h4 h5 h6 P hP => hP.2.1 d k nv u V no kd nu acc k' bit h1 h2 h3 h4 h5 h6
theorem Rd_v3 : Rv3 n b (Rd n b) := fun d k nv u V no r h1 h2 h3 h4 h5 h6 P hP => hP.2.2.1 d k nv u V no r h1 h2 h3 h4 h5 (h6 P hP)
theorem Rd_v4 : Rv4 n b (Rd n b) := fun d k nv u V no r h1 h2 h3 h4 h5 h6 h7 P hP => hP.2.2.2.1 d k nv u V no r h1 h2 h3 h4 h5 h6 (h7 P hP)
theorem Rd_a1 : Ra1 n b (Rd n b) := fun d v k nv u V no h1 h2 h3 h4 h5 h6 P hP => hP.2.2.2.2.1 d v k nv u V no h1 h2 h3 h4 h5 h6
theorem Rd_a2 : Ra2 n b (Rd n b) := fun d v k nv u V no f h1 h2 h3 h4 h5 h6 P hP => hP.2.2.2.2.2.1 d v k nv u V no f h1 h2 h3 h4 h5 (h6 P hP)
theorem Rd_a3 : Ra3 n b (Rd n b) := fun d v k nv u V no x k2 nv2 u2 V2 no2 r h1 h2 h3 h4 h5 h6 h7 h8 h9 h10 h11 h12 P hP => hP.2.2.2.2.2.2.1 d v k nv u V no x k2 nv2 u2 V2 no2 r h1 h2 h3 h4 h5 (h6 P hP) h7 h8 h9 h10 h11 (h12 P hP)
theorem Rd_d1 : Rd1 n b (Rd n b) := fun d v k nv u V no h1 h2 h3 h4 h5 h6 h7 P hP => hP.2.2.2.2.2.2.2.1 d v k nv u V no h1 h2 h3 h4 h5 h6 h7
theorem Rd_d2 : Rd2 n b (Rd n b) := fun d v k nv u V no c p h1 h2 h3 h4 h5 h6 P hP => hP.2.2.2.2.2.2.2.2.1 d v k nv u V no c p h1 h2 h3 h4 h5 h6
theorem Rd_d3 : Rd3 n b (Rd n b) := fun d v k nv u V no kd nu acc k' bit f h1 h2 h3 h4 h5 h6 h7 h8 h9 P hP => hP.2.2.2.2.2.2.2.2.2.1 d v k nv u V no kd nu acc k' bit f h1 h2 h3 h4 h5 h6 h7 h8 (h9 P hP)
theorem Rd_d4 : Rd4 n b (Rd n b) := fun d v k nv u V no kd nu acc k' bit x k2 nv2 u2 V2 no2 m r h1 h2 h3 h4 h5 h6 h7 h8 h9 h10 h11 h12 h13 h14 h15 h16 h17 h18 P hP => hP.2.2.2.2.2.2.2.2.2.2 d v k nv u V no kd nu acc k' bit x k2 nv2 u2 V2 no2 m r h1 h2 h3 h4 h5 h6 h7 h8 (h9 P hP) h10 h11 h12 h13 h14 h15 h16 h17 (h18 P hP)
end R57b
/-- bounds of what is read as a leaf -/
theorem nmR_bd {n : Nat} {b : Nat → Int32} (hb : ∀ k, n ≤ k → b k = -1) {p : Nat} (hp : p ≤ n) : ∀ (f k : Nat) (acc bs : List Int32) (k' : Nat), p ≤ k → k ≤ wEnd n b p → nmR b (wEnd n b p) f k acc = some (bs, k') → k ≤ k' ∧ k' ≤ n ∧ bs.length + k ≤ acc.length + k'
  | 0, k, acc, bs, k', _, _, h => by cases h
  | f + 1, k, acc, bs, k', h1, h2, h => by
    have hw := wEnd_le n b hp
    rw [nmR] at h
    split at h
    · rename_i hk
      split at h
      · cases h
      · split at h
        · cases h
        · have hin : k + nmN b k ≤ wEnd n b p ∧ 1 ≤ nmN b k := by
            unfold nmN
            split
            · rename_i hc
              exact ⟨nmC_in hb hp h1 hk hc, by omega⟩
            · exact ⟨by omega, by omega⟩
          have := nmR_bd hb hp f (k + nmN b k) (acc ++ [nmV b k]) bs k' (by omega) hin.1 h
          simp at this
          omega
    · cases h
      omega
def lfB (n k : Nat) (a : Nat) : LF → Prop
  | .inl (c, p) => ¬ c = 0 ∧ p ≤ n
  | .inr (kd, _, bs, k', bit) => k < k' ∧ k' ≤ n ∧ bs.length + k ≤ a + k' ∧ ¬ kd = 6 ∧ ¬ kd = 7 ∧ ¬ kd = 9
theorem rdR_bd {n : Nat} {b : Nat → Int32} (hb : ∀ k, n ≤ k → b k = -1) {p : Nat} (hp : p ≤ n) : ∀ (f k o : Nat) (acc : List Int32), k ≤ n → lfB n k acc.length (rdR n b p f k o acc)
  | 0, k, o, acc, _ => ⟨by decide, Nat.le_refl _⟩
  | f + 1, k, o, acc, hk => by
    have mono : ∀ {k1 a1 : Nat} {r : LF}, k < k1 → a1 + k ≤ acc.length + k1 → lfB n k1 a1 r → lfB n k acc.length r := fun {k1 a1 r} h1 h2 h => by
      rcases r with ⟨c, q⟩ | ⟨kd, nu, bs, k', bit⟩
      · exact h
      · obtain ⟨g1, g2, g3, g4⟩ := h
        exact ⟨by omega, g2, by omega, g4⟩
    rw [rdR]
    split
    · exact ⟨by decide, Nat.le_refl _⟩
    · rename_i hkn
      split
      · exact ⟨by omega, by omega, by omega, by decide, by decide, by decide⟩
      · split
        · split
          · exact ⟨by decide, Nat.le_refl _⟩
          · split
            · rename_i hle
              have := leE_in hb hle
              exact mono (by omega) (by omega) (rdR_bd hb hp f _ o acc this.2)
            · split
              · exact ⟨by decide, hp⟩
              · have := esE_le hb (j := k + 1) (by omega)
                exact mono (by omega) (by simp; omega) (rdR_bd hb hp f _ o _ this.2)
        · split
          · exact ⟨by decide, hp⟩
          · split
            · rename_i hle
              have := leE_in hb hle
              exact mono (by omega) (by simp; omega) (rdR_bd hb hp f _ o _ this.2)
            · exact mono (by omega) (by simp; omega) (rdR_bd hb hp f _ _ _ (by omega))
theorem anR_bd {n : Nat} {b : Nat → Int32} {p : Nat} (hp : p ≤ n) : ∀ (f k : Nat) (hf : Int32) (acc : List Int32), k ≤ n → lfB n k acc.length (anR n b p f k hf acc)
  | 0, k, hf, acc, _ => ⟨by decide, Nat.le_refl _⟩
  | f + 1, k, hf, acc, hk => by
    have mono : ∀ {k1 a1 : Nat} {r : LF}, k < k1 → a1 + k ≤ acc.length + k1 → lfB n k1 a1 r → lfB n k acc.length r := fun {k1 a1 r} h1 h2 h => by
      rcases r with ⟨c, q⟩ | ⟨kd, nu, bs, k', bit⟩
      · exact h
      · obtain ⟨g1, g2, g3, g4⟩ := h
        exact ⟨by omega, g2, by omega, g4⟩
    rw [anR]
    split
    · exact ⟨by decide, Nat.le_refl _⟩
    · split
      · split
        · exact ⟨by omega, by omega, by omega, by decide, by decide, by decide⟩
        · split
          · exact ⟨by decide, hp⟩
          · exact ⟨by omega, by omega, by simp; omega, by decide, by decide, by decide⟩
      · split
        · split
          · exact mono (by omega) (by omega) (anR_bd hp f _ _ _ (by omega))
          · exact ⟨by decide, by omega⟩
        · split
          · exact mono (by omega) (by omega) (anR_bd hp f _ _ _ (by omega))
          · split
            · exact ⟨by decide, hp⟩
            · exact mono (by omega) (by simp; omega) (anR_bd hp f _ _ _ (by omega))
theorem wdL_bd {n : Nat} {b : Nat → Int32} (hb : ∀ k, n ≤ k → b k = -1) {k : Nat} (hk : k < n) (hr : isReg (b k) = true) : lfB n k 0 (wdL n b k) := by
  have hw := wEnd_le n b (k := k) (by omega)
  have hlt : k < wEnd n b k := by rw [wEnd_reg hk hr]; exact (wEnd_le n b (k := k + 1) (by omega)).1
  unfold wdL
  split
  · rename_i t ht
    obtain ⟨a1, a2, a3, a4, a5, a6, a7, a8, a9, a10⟩ := prW_ref hb (by omega) ht
    have htn : t < n := by
      rcases Nat.lt_or_ge t n with g | g
      · exact g
      · have := wdA_hd (x := 82) (r := []) a2
        rw [hb t g] at this
        exact absurd this (by decide)
    have htk : k ≤ t := by
      have w2 := skW_le n b hw.2
      have w3 := wEnd_le n b w2.2
      have w4 := skW_le n b w3.2
      unfold thW at a1
      split at a1
      · split at a1
        · cases a1
        · split at a1
          · split at a1
            · cases a1
            · cases a1
              omega
          · cases a1
      · cases a1
    exact ⟨by omega, by omega, by simp; omega, by decide, by decide, by decide⟩
  · split
    · exact ⟨by omega, by omega, by simp; omega, by decide, by decide, by decide⟩
    · split
      · exact ⟨by omega, by omega, by simp; omega, by decide, by decide, by decide⟩
      · split
        · exact ⟨by omega, by omega, by simp; omega, by decide, by decide, by decide⟩
        · unfold nbL
          rcases nbA b (wEnd n b k - k) k 0 with ⟨sg, _ | ⟨pt, bf, bh, s⟩⟩
          · exact ⟨by decide, by omega⟩
          · rw [nbF]
            by_cases h1 : bf + bh = 0
            · rw [if_pos h1]
              exact ⟨by decide, by omega⟩
            · rw [if_neg h1]
              by_cases h2 : 9 < bf ∨ 6 < bh
              · rw [if_pos h2]
                exact ⟨by decide, by omega⟩
              · rw [if_neg h2]
                refine ⟨by omega, by omega, by simp; omega, ?_, ?_, ?_⟩ <;> split <;> decide
theorem lfR_bd {n : Nat} {b : Nat → Int32} (hb : ∀ k, n ≤ k → b k = -1) {k : Nat} (hk : k < n) (hg : bgV (b k) = true) (hc : ¬ isCn b k) : lfB n k 0 (lfR n b k) := by
  have mono : ∀ {r : LF}, lfB n (k + 1) 0 r → lfB n k 0 r := fun {r} h => by
    rcases r with ⟨c, q⟩ | ⟨kd, nu, bs, k', bit⟩
    · exact h
    · obtain ⟨g1, g2, g3, g4⟩ := h
      exact ⟨by omega, g2, by omega, g4⟩
  unfold lfR
  split
  · cases h : nmR b (wEnd n b (k + 1)) 2000 (k + 1) [] with
    | none => exact ⟨by decide, by omega⟩
    | some q =>
      obtain ⟨bs, k'⟩ := q
      have hw := wEnd_le n b (k := k + 1) (by omega)
      have := nmR_bd hb (p := k + 1) (by omega) 2000 (k + 1) [] bs k' (Nat.le_refl _) hw.1 h
      simp only [List.length_nil] at this
      exact ⟨by omega, by omega, by omega, by decide, by decide, by decide⟩
  · split
    · exact mono (rdR_bd hb (by omega) _ _ _ _ (by omega))
    · split
      · exact mono (anR_bd (by omega) _ _ _ _ (by omega))
      · rename_i h1 h2 h3
        refine wdL_bd hb hk ?_
        simp only [bgV, Bool.or_eq_true, decide_eq_true_eq] at hg
        rcases hg with h | h | h | h | h
        · exact h
        · exact absurd h h1
        · exact absurd h h2
        · exact absurd h h3
        · exact absurd (Or.inl h) hc
