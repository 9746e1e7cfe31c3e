/-! a stream behind its dictionary: what it comes to -/
def stmR (n : Nat) (b : Nat → Int32) (k nv u : Nat) (V : VT) (no : Int32) (x : Nat) (tm : Option Nat) : RR :=
  if V.1 x = 7 ∧ wdA b st_7 (skW n b k) = true then
    (if nv = 300 then .inl (6, skW n b k, no) else match stR n b (skW n b k) tm with
      | .inl (c, p, bit) => .inl (c, p, no ||| bit)
      | .inr (bs, e, bit) => .inr (nv, e, nv + 1, u + bs.length, vtS V nv x bs, no ||| bit))
  else .inr (x, skW n b k, nv, u, V, no)
def soO (C : wd_C) (Y : wd_Y) (og : Nat → Int64) (n nv0 k nv u : Nat) (V : VT) (r : RR) (vr : Option Value) (w' : am_W) : Prop := match r with
  | .inl (c, p, no') => vr = some (.int (-1)) ∧ ∃ C' : wd_C, w' = wd C' Y og ∧ C'.1 5 = c ∧ ¬ c = 0 ∧ C'.1 6 = nI p ∧ 1 ≤ p ∧ p ≤ n ∧ C'.1 7 = no' ∧ fC C C' nv0 ∧ ∃ nv' u' V', nv ≤ nv' ∧ u ≤ u' ∧ vsC C' nv' u' V' ∧ vbe nv0 V V'
  | .inr (y, k', nv', u', V', no') => vr = some (.int (nI y)) ∧ ∃ C' : wd_C, w' = wd C' Y og ∧ C'.1 4 = nI k' ∧ fk0 C' ∧ C'.1 7 = no' ∧ fC C C' nv0 ∧ vsC C' nv' u' V' ∧ k ≤ k' ∧ k' ≤ n ∧ nv ≤ nv' ∧ u ≤ u' ∧ u' ≤ k' ∧ y < nv' ∧ vbe nv0 V V' ∧ ∃ ht', hG nv' V' ht'
theorem prF_cg {p q : Nat → Bool} : ∀ {ks : List Nat}, (∀ c ∈ ks, p c = q c) → prF p ks = prF q ks
  | [], _ => rfl
  | [_], _ => rfl
  | a :: c :: r, h => by
    rw [prF, prF, h a (by simp), prF_cg (ks := r) (fun z hz => h z (by simp [hz]))]
theorem prF_mem {p : Nat → Bool} : ∀ {ks : List Nat} {k x : Nat}, prF p ks = some (k, x) → k ∈ ks ∧ x ∈ ks
  | [], k, x, h => by cases h
  | [_], k, x, h => by cases h
  | a :: c :: r, k, x, h => by
    rw [prF] at h
    split at h
    · cases h
      exact ⟨by simp, by simp⟩
    · have := prF_mem (ks := r) h
      exact ⟨by simp [this.1], by simp [this.2]⟩
theorem tlN_new {V : VT} {E : Nat → Nat → Int32} {nv no dc : Nat} (ho : vok nv V) (hdc : dc < nv) (hnv : nv ≤ 300) (hob : obV nv no E) (kd : Int32) (bs : List Int32) : tlN (vtLeaf V nv kd 0 bs) E no dc = tlN V E no dc := by
  have e3 : (vtLeaf V nv kd 0 bs).2.2.1 dc = V.2.2.1 dc := by
    have : dc ≠ nv := by omega
    simp [vtLeaf, va_up, this]
  have same : ∀ w, w < nv → (vtLeaf V nv kd 0 bs).1 w = V.1 w ∧ (vtLeaf V nv kd 0 bs).2.1 w = V.2.1 w ∧ (vtLeaf V nv kd 0 bs).2.2.2 w = V.2.2.2 w := fun w hw => by
    have : w ≠ nv := by omega
    simp [vtLeaf, upd, vp_updL, va_up, this]
  have hkid := (ho.1 dc hdc).1
  have hp : prF (isLn (vtLeaf V nv kd 0 bs)) ((vtLeaf V nv kd 0 bs).2.2.1 dc) = prF (isLn V) (V.2.2.1 dc) := by
    rw [e3]
    exact prF_cg (fun c hc => by unfold isLn; rw [(same c (hkid c hc)).2.2])
  cases hq : prF (isLn V) (V.2.2.1 dc) with
  | none => rw [tlN_0 hq, tlN_0 (hp.trans hq)]
  | some z =>
    obtain ⟨t, w⟩ := z
    have hw := hkid w (prF_mem hq).2
    obtain ⟨a1, a2, a3⟩ := same w hw
    by_cases h2 : V.1 w = 2
    · rw [tlN_2 hq h2, tlN_2 (hp.trans hq) (a1.trans h2), a2]
    · by_cases h8 : V.1 w = 8
      · cases hf : fnO E (V.2.1 w - V.2.1 w / 1000000000 * 1000000000).toInt32 (V.2.1 w / 1000000000).toInt32 no with
        | none => rw [tlN_8n hq h8 hf, tlN_8n (hp.trans hq) (a1.trans h8) (by rw [a2]; exact hf)]
        | some i =>
          obtain ⟨i1, i2⟩ := fnO_some hf
          obtain ⟨w2, w21, w22⟩ := (hob i i1).resolve_left i2
          obtain ⟨b1, b2, b3⟩ := same w2 w21
          by_cases h22 : V.1 w2 = 2
          · rw [tlN_82 hq h8 hf w22 (by omega) h22, tlN_82 (hp.trans hq) (a1.trans h8) (by rw [a2]; exact hf) w22 (by omega) (b1.trans h22), b2]
          · rw [tlN_8x hq h8 hf w22 (by omega) h22, tlN_8x (hp.trans hq) (a1.trans h8) (by rw [a2]; exact hf) w22 (by omega) (fun z => h22 (b1.symm.trans z))]
      · rw [tlN_n hq h2 h8, tlN_n (hp.trans hq) (fun z => h2 (a1.symm.trans z)) (fun z => h8 (a1.symm.trans z))]
theorem tlN_bd {V : VT} {E : Nat → Nat → Int32} {nv no dc : Nat} {ht : Nat → Nat} (hg : hG nv V ht) (ho : vok nv V) (hdc : dc < nv) (hnv : nv ≤ 300) (hob : obV nv no E) : tlN V E no dc = -1 ∨ ∃ m, m < 1000000000 ∧ (tlN V E no dc = lN m ∨ tlN V E no dc = -(lN m)) := by
  have hkid := (ho.1 dc hdc).1
  cases hq : prF (isLn V) (V.2.2.1 dc) with
  | none => exact Or.inl (tlN_0 hq)
  | some z =>
    obtain ⟨t, w⟩ := z
    have hw := hkid w (prF_mem hq).2
    by_cases h2 : V.1 w = 2
    · rw [tlN_2 hq h2]
      exact Or.inr ((hg w hw).2.2.2.2.1 h2)
    · by_cases h8 : V.1 w = 8
      · cases hf : fnO E (V.2.1 w - V.2.1 w / 1000000000 * 1000000000).toInt32 (V.2.1 w / 1000000000).toInt32 no with
        | none => exact Or.inl (tlN_8n hq h8 hf)
        | some i =>
          obtain ⟨i1, i2⟩ := fnO_some hf
          obtain ⟨w2, w21, w22⟩ := (hob i i1).resolve_left i2
          by_cases h22 : V.1 w2 = 2
          · rw [tlN_82 hq h8 hf w22 (by omega) h22]
            exact Or.inr ((hg w2 w21).2.2.2.2.1 h22)
          · exact Or.inl (tlN_8x hq h8 hf w22 (by omega) h22)
      · exact Or.inl (tlN_n hq h2 h8)
theorem hG_stm {nv : Nat} {V : VT} {ht : Nat → Nat} (h : hG nv V ht) (ho : vok nv V) {x : Nat} (hx : x < nv) (hx7 : V.1 x = 7) (bs : List Int32) : hG (nv + 1) (vtS V nv x bs) ht ∨ hG (nv + 1) (vtS V nv x bs) (va_up ht nv 8) := by
  right
  intro v hv
  by_cases e1 : v = nv
  · subst e1
    have k1 : (vtS V v x bs).1 v = 9 := by simp [vtS, upd]
    have k2 : (vtS V v x bs).2.2.1 v = [x] := by simp [vtS, va_up]
    have hne : x ≠ v := by omega
    have k3 : (vtS V v x bs).1 x = 7 := by rw [← hx7]; simp [vtS, upd, hne]
    unfold gv
    rw [k1, k2, up_at]
    exact ⟨by omega, fun z => absurd rfl z, fun z => absurd z (by decide), fun _ => ⟨rfl, x, rfl, k3⟩, nbOK_no (by decide) (by decide) (by decide) (by decide)⟩
  · have hlt : v < nv := by omega
    obtain ⟨h1, h2, h3, h4, h5⟩ := h v hlt
    have k1 : (vtS V nv x bs).1 v = V.1 v := by simp [vtS, upd, e1]
    have k2 : (vtS V nv x bs).2.1 v = V.2.1 v := by simp [vtS, vp_updL, e1]
    have k3 : (vtS V nv x bs).2.2.1 v = V.2.2.1 v := by simp [vtS, va_up, e1]
    have kc : ∀ c ∈ V.2.2.1 v, (vtS V nv x bs).1 c = V.1 c ∧ va_up ht nv 8 c = ht c := fun c hc => by
      have := (ho.1 v hlt).1 c hc
      have : c ≠ nv := by omega
      simp [vtS, upd, va_up, this]
    have kv : va_up ht nv 8 v = ht v := by simp [va_up, e1]
    unfold gv
    rw [k1, k2, k3, kv]
    refine ⟨h1, fun z c hc => by rw [(kc c hc).2]; exact h2 z c hc, fun z c hc => by rw [(kc c (keysOf_mem hc)).1]; exact h3 z c hc, fun z => ?_, h5⟩
    obtain ⟨c0, c, c1, c2⟩ := h4 z
    exact ⟨c0, c, c1, by rw [(kc c (by rw [c1]; simp)).1]; exact c2⟩
theorem vbe_S (nv : Nat) (V : VT) (x : Nat) (bs : List Int32) : vbe nv V (vtS V nv x bs) := fun v hv => by
  have : v ≠ nv := by omega
  simp [vtS, upd, vp_updL, va_up, this]
/-- faults are told no earlier than where reading began -/
def lfL (k : Nat) : LF → Prop
  | .inl (_, p) => k ≤ p
  | .inr _ => True
theorem rdR_lw {n : Nat} {b : Nat → Int32} {p : Nat} (hp : p ≤ n) : ∀ (f k o : Nat) (acc : List Int32), lfL p (rdR n b p f k o acc)
  | 0, k, o, acc => hp
  | f + 1, k, o, acc => by
    rw [rdR]
    repeat' split
    all_goals first | exact hp | exact Nat.le_refl _ | trivial | exact rdR_lw hp f _ _ _
theorem anR_lw {n : Nat} {b : Nat → Int32} {p : Nat} (hp : p ≤ n) : ∀ (f k : Nat) (hf : Int32) (acc : List Int32), p ≤ k → lfL p (anR n b p f k hf acc)
  | 0, k, hf, acc, _ => hp
  | f + 1, k, hf, acc, hk => by
    rw [anR]
    repeat' split
    all_goals first | exact hp | exact Nat.le_refl _ | trivial | exact hk | exact anR_lw hp f _ _ _ (by omega)
theorem lfR_lw {n : Nat} {b : Nat → Int32} {k : Nat} (hk : k ≤ n) : lfL k (lfR n b k) := by
  unfold lfR
  split
  · cases nmR b (wEnd n b (k + 1)) 2000 (k + 1) [] with
    | none => exact Nat.le_refl _
    | some q => trivial
  · split
    · exact rdR_lw hk _ _ _ _
    · split
      · exact anR_lw hk _ _ _ _ (by omega)
      · unfold wdL
        split
        · trivial
        · repeat' split
          all_goals first | trivial | skip
          unfold nbL
          rcases nbA b (wEnd n b k - k) k 0 with ⟨sg, _ | ⟨pt, bf, bh, s⟩⟩
          · exact Nat.le_refl _
          · rw [nbF]
            by_cases h1 : bf + bh = 0
            · rw [if_pos h1]; exact Nat.le_refl _
            · rw [if_neg h1]
              by_cases h2 : 9 < bf ∨ 6 < bh
              · rw [if_pos h2]; exact Nat.le_refl _
              · rw [if_neg h2]; trivial
def rdW (n : Nat) (b : Nat → Int32) (s : RS) : RR → Prop
  | .inl (_, p, _) => s.1 ≤ p
  | .inr (_, k', _) => s.1 ≤ k'
theorem Rd_lw {n : Nat} {b : Nat → Int32} (hb : ∀ k, n ≤ k → b k = -1) {m : RM} {d : Nat} {s : RS} {r : RR} (h : Rd n b m d s r) : rdW n b s r := by
  refine h (fun _ _ s r => rdW n b s r) ⟨?_, ?_, ?_, ?_, ?_, ?_, ?_, ?_, ?_, ?_, ?_⟩
  · intro d k nv u V no c p hg hF
    have hs := skW_le n b hg.2.2.2
    show k ≤ p
    rcases hF with ⟨e1, -, e3⟩ | ⟨e1, -, -, -, e3⟩ | ⟨e1, -, -, e3⟩ | ⟨e1, -, -, -, -, e3⟩ | ⟨e1, -, -, -, e3⟩
    · omega
    · omega
    · omega
    · omega
    · have := lfR_lw (n := n) (b := b) hs.2
      rw [e3] at this
      have h2 : skW n b k ≤ p := this
      omega
  · intro d k nv u V no kd nu acc k' bit hg h3 hlt hbg hcn hr
    have hs := skW_le n b hg.2.2.2
    have := lfR_bd hb hlt hbg hcn
    rw [hr] at this
    have h2 := this.1
    show k ≤ k'
    omega
  · intro d k nv u V no r hg _ _ _ _ h
    have hs := skW_le n b hg.2.2.2
    rcases r with ⟨c, p, no'⟩ | ⟨x, k', q⟩
    · have h2 : skW n b k + 1 ≤ p := h
      show k ≤ p
      omega
    · have h2 : skW n b k + 1 ≤ k' := h
      show k ≤ k'
      omega
  · intro d k nv u V no r hg _ _ _ _ _ h
    have hs := skW_le n b hg.2.2.2
    rcases r with ⟨c, p, no'⟩ | ⟨x, k', q⟩
    · have h2 : skW n b k + 2 ≤ p := h
      show k ≤ p
      omega
    · have h2 : skW n b k + 2 ≤ k' := h
      show k ≤ k'
      omega
  · intro d v k nv u V no hg _ _ _ _ _
    have hs := skW_le n b hg.2.2.2
    show k ≤ skW n b k + 1
    omega
  · intro d v k nv u V no f hg _ _ _ _ h
    have hs := skW_le n b hg.2.2.2
    obtain ⟨c, p, no'⟩ := f
    have h2 : skW n b k ≤ p := h
    show k ≤ p
    omega
  · intro d v k nv u V no x k2 nv2 u2 V2 no2 r hg _ _ _ _ h _ _ _ _ _ h2
    have hs := skW_le n b hg.2.2.2
    have h3 : skW n b k ≤ k2 := h
    rcases r with ⟨c, p, no'⟩ | ⟨y, k', q⟩
    · have h4 : k2 ≤ p := h2
      show k ≤ p
      omega
    · have h4 : k2 ≤ k' := h2
      show k ≤ k'
      omega
  · intro d v k nv u V no hg _ _ _ _ _ _
    have hs := skW_le n b hg.2.2.2
    show k ≤ skW n b k + 2
    omega
  · intro d v k nv u V no c p hg _ _ _ _ hF
    have hs := skW_le n b hg.2.2.2
    show k ≤ p
    rcases hF with ⟨e1, -, e3⟩ | ⟨e1, -, -, e3⟩ | ⟨e1, -, -, -, e3⟩ | ⟨e1, -, -, e3⟩
    · omega
    · omega
    · omega
    · have := lfR_lw (n := n) (b := b) hs.2
      rw [e3] at this
      have h2 : skW n b k ≤ p := this
      omega
  · intro d v k nv u V no kd nu acc k' bit f hg _ _ _ _ hlt hb1 hr h
    have hs := skW_le n b hg.2.2.2
    have := lfR_bd hb hlt (by rw [hb1]; decide) (by rw [isCn, hb1]; rintro (z | z); exact absurd z (by decide); exact absurd z.1 (by decide))
    rw [hr] at this
    have h1 := this.1
    obtain ⟨c, p, no'⟩ := f
    have h2 : k' ≤ p := h
    show k ≤ p
    omega
  · intro d v k nv u V no kd nu acc k' bit x k2 nv2 u2 V2 no2 m r hg _ _ _ _ hlt hb1 hr h _ _ _ _ _ _ _ _ h2
    have hs := skW_le n b hg.2.2.2
    have := lfR_bd hb hlt (by rw [hb1]; decide) (by rw [isCn, hb1]; rintro (z | z); exact absurd z (by decide); exact absurd z.1 (by decide))
    rw [hr] at this
    have h1 := this.1
    have h3 : k' ≤ k2 := h
    rcases r with ⟨c, p, no'⟩ | ⟨y, k9, q⟩
    · have h4 : k2 ≤ p := h2
      show k ≤ p
      omega
    · have h4 : k2 ≤ k9 := h2
      show k ≤ k9
      omega
