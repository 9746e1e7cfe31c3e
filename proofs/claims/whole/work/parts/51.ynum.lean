/-! numbers and words as the reference reads them -/
def anK (Y Y' : wd_Y) : Prop := (∀ j, j ≠ 9 → j ≠ 11 → Y'.1 j = Y.1 j) ∧ Y'.2.1 = Y.2.1 ∧ Y'.2.2.1 = Y.2.2.1
def anQ (Y : wd_Y) (C : wd_C) (og : Nat → Int64) (b : Nat → Int32) (p : Nat) (r : Nat × Option (Nat × Nat × Nat × Int64)) (vr : Option Value) (w' : am_W) : Prop := ∃ Y' : wd_Y, w' = wd C Y' og ∧ anK Y Y' ∧ match r with
  | (_, none) => vr = some (.int 0)
  | (sg, some (pt, bf, bh, s)) => if bf + bh = 0 then vr = some (.int 0) else if 9 < bf ∨ 6 < bh then vr = some (.int 2) else vr = some (.int (if sg = 0 ∧ pt = 0 then 3 else 1)) ∧ Y'.1 11 = (if 0 < pt then 1 else 0) ∧ Y'.1 9 = Y.1 9 ||| (if 1 < sg then 1 else 0) ∧ Y'.2.2.2 = (if b p = 45 then -(m10 (if 0 < pt then 6 - bh else 0) s) else m10 (if 0 < pt then 6 - bh else 0) s)
theorem nbA_st {b : Nat → Int32} {m k sg : Nat} (h : 0 < m → ¬ b k = 43 ∧ ¬ b k = 45) : nbA b m k sg = (sg, nbB b m k 0 0 0 0) := by
  cases m with
  | zero => rfl
  | succ m =>
    obtain ⟨h1, h2⟩ := h (by omega)
    exact nbA_no h1 h2
theorem nbB_figs {b : Nat → Int32} : ∀ (m k bf : Nat) (s : Int64), (∀ j, k ≤ j → j < k + m → isFig (b j) = true) → ∃ s', nbB b m k 0 bf 0 s = some (0, bf + m, 0, s')
  | 0, k, bf, s, _ => ⟨s, rfl⟩
  | m + 1, k, bf, s, h => by
    have h0 := h k (Nat.le_refl _) (by omega)
    have h46 : ¬ b k = 46 := fun z => by rw [z] at h0; exact absurd h0 (by decide)
    rw [nbB_fig (fun z => h46 z.1) h0]
    obtain ⟨s', hs⟩ := nbB_figs m (k + 1) (bf + (1 - 0)) (s * 10 + (b k).toInt64 - 48) (fun j a c => h j (by omega) (by omega))
    exact ⟨s', by rw [show (0 : Nat) + 0 = 0 from rfl, hs, show bf + (1 - 0) + m = bf + (m + 1) by omega]⟩
theorem nbA_figs {b : Nat → Int32} {p e : Nat} (hp : p < e) (h : ∀ j, p ≤ j → j < e → isFig (b j) = true) : ∃ s, nbA b (e - p) p 0 = (0, some (0, e - p, 0, s)) := by
  have h0 := h p (Nat.le_refl _) hp
  rw [nbA_st (fun _ => ⟨fun z => by rw [z] at h0; exact absurd h0 (by decide), fun z => by rw [z] at h0; exact absurd h0 (by decide)⟩)]
  obtain ⟨s, hs⟩ := nbB_figs (b := b) (e - p) p 0 0 (fun j a c => h j a (by omega))
  exact ⟨s, by rw [hs, Nat.zero_add]⟩
/-- kind and number of a value set directly -/
theorem vsY_kind {Y : wd_Y} {nv u : Nat} {V : VT} (h : vsY Y nv u V) (v : Nat) (k : Int32) (x : Int64) {K : Nat → Int32} {X : Nat → Int64} (fg : Int64) (hK : ∀ w, w ≠ v → K w = Y.2.1 2 w) (hKv : K v = k) (hX : ∀ w, w ≠ v → X w = Y.2.2.1 w) (hXv : X v = x) : vsY (Y.1, wd_u Y.2.1 2 K, X, fg) nv u (vtKind V v k x) := by
  refine ⟨h.1, fun w hw => ?_⟩
  obtain ⟨r1, r2, r3, r4, r5, r6⟩ := h.2 w hw
  by_cases e : w = v
  · subst e
    refine ⟨?_, ?_, r3, r4, r5, r6⟩
    · show K w = upd V.1 w k w
      rw [hKv]
      simp [upd]
    · show X w = vp_updL V.2.1 w x w
      rw [hXv]
      simp [vp_updL]
  · refine ⟨?_, ?_, r3, r4, r5, r6⟩
    · show K w = upd V.1 v k w
      rw [hK w e, r1]
      simp [upd, e]
    · show X w = vp_updL V.2.1 v x w
      rw [hX w e, r2]
      simp [vp_updL, e]
theorem prW_th {n : Nat} {b : Nat → Int32} (hb : ∀ k, n ≤ k → b k = -1) {p : Nat} (hp : p ≤ n) : prW n b st_3 p = match thW n b p with
    | none => none
    | some t => if wdA b st_3 t = true then some t else none := prW_eq hb (x := 82) (r := []) rfl (by decide) hp
/-- a reference stands: its words -/
theorem prW_ref {n : Nat} {b : Nat → Int32} (hb : ∀ k, n ≤ k → b k = -1) {p t : Nat} (hp : p ≤ n) (h : prW n b st_3 p = some t) : thW n b p = some t ∧ wdA b st_3 t = true ∧ p < wEnd n b p ∧ wEnd n b p ≤ p + 9 ∧ wEnd n b p ≤ n ∧ (∀ j, p ≤ j → j < wEnd n b p → isFig (b j) = true) ∧ isFig (b (wEnd n b p)) = false ∧ (∀ j, skW n b (wEnd n b p) ≤ j → j < wEnd n b (skW n b (wEnd n b p)) → isFig (b j) = true) ∧ isFig (b (wEnd n b (skW n b (wEnd n b p)))) = false ∧ t ≤ n := by
  have h0 := h
  rw [prW_th hb hp] at h
  unfold prW at h0
  cases h1 : fgW b p with
  | none => rw [h1] at h0; cases h0
  | some e1 =>
    rw [h1] at h0
    obtain ⟨a1, a2, a3, a4, a5, a6, a7⟩ := fgW_some hb hp h1
    have w := skW_le n b a3
    cases h2 : fgW b (skW n b e1) with
    | none => simp [h2] at h0
    | some e2 =>
      simp only [h2] at h0
      obtain ⟨c1, c2, c3, c4, c5, c6, c7⟩ := fgW_some hb w.2 h2
      have w2 := skW_le n b c3
      have nf : ∀ x, isReg x = false → isFig x = false := fun x hx => by
        cases hz : isFig x with
        | false => rfl
        | true => rw [isReg_fig hz] at hx; cases hx
      split at h0
      · rename_i hw
        cases h0
        cases h3 : thW n b p with
        | none => rw [h3] at h; cases h
        | some t' =>
          rw [h3] at h
          simp only at h
          split at h
          · rename_i hw2
            cases h
            exact ⟨rfl, hw2, by omega, by omega, by omega, by rw [← a1]; exact a7, by rw [← a1]; exact nf _ a5, by rw [← a1, ← c1]; exact c7, by rw [← a1, ← c1]; exact nf _ c5, by omega⟩
          · cases h
      · cases h0
