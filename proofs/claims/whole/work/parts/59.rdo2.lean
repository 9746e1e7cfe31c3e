/-! what reading comes to on the component's side -/
theorem hG_part {nv : Nat} {V : VT} {ht : Nat → Nat} (h : hG nv V ht) {v p : Nat} (hk : V.1 v = 6) (hp : ht p < ht v) : hG nv (vtPart V v p) ht := by
  refine hG_kids h (by rw [hk]; decide) (fun _ c hc => ?_) (fun z => absurd (hk.symm.trans z) (by decide))
  rcases List.mem_append.mp hc with g | g
  · exact Or.inl g
  · simp at g
    rw [g]
    exact Or.inr hp
theorem hG_ent {nv : Nat} {V : VT} {ht : Nat → Nat} (h : hG nv V ht) {g : Nat → Int32} {v k x : Nat} (hk7 : V.1 v = 7) (hh : hld g (V.2.2.1 v)) (hnd : (V.2.2.1 v).Nodup) (hk4 : V.1 k = 4) (hk : ht k < ht v) (hx : ht x < ht v) : hG nv (vtEnt V v k x) ht := by
  have h9 : ¬ V.1 v = 9 := by rw [hk7]; decide
  unfold vtEnt
  cases hf : vtFnd V v k with
  | none =>
    show hG nv (if V.1 x = 0 then V else vtKey V v k x) ht
    split
    · exact h
    · refine hG_kids h h9 (fun _ c hc => ?_) (fun _ _ c hc => ?_)
      · rcases List.mem_append.mp hc with q | q
        · exact Or.inl q
        · simp at q
          rcases q with q | q
          · rw [q]; exact Or.inr hk
          · rw [q]; exact Or.inr hx
      · rw [keysOf_app hh] at hc
        rcases List.mem_append.mp hc with q | q
        · exact Or.inl q
        · simp at q
          rw [q]; exact Or.inr hk4
  | some t =>
    have htm : t ∈ keysOf (V.2.2.1 v) := List.mem_of_find?_eq_some hf
    obtain ⟨a, o, c, e1, e2, e3, e4, e5, e6⟩ := ks_split hh hnd htm
    show hG nv (if V.1 x = 0 then vtDel V v t else vtSet V v t x) ht
    split
    · refine hG_kids h h9 (fun _ y hy => Or.inl ?_) (fun _ _ y hy => Or.inl ?_)
      · rw [e6] at hy
        rw [e1]
        rcases List.mem_append.mp hy with q | q
        · simp [q]
        · simp [q]
      · rw [e6, keysOf_ap c e2] at hy
        rw [e4]
        rcases List.mem_append.mp hy with q | q
        · simp [q]
        · simp [q]
    · refine hG_kids h h9 (fun _ y hy => ?_) (fun _ _ y hy => Or.inl ?_)
      · rw [e5] at hy
        rw [e1]
        rcases List.mem_append.mp hy with q | q
        · exact Or.inl (by simp [q])
        · simp at q
          rcases q with q | q | q
          · exact Or.inl (by simp [q])
          · rw [q]; exact Or.inr hx
          · exact Or.inl (by simp [q])
      · rw [e5, keysOf_ap _ e2] at hy
        rw [e4]
        simpa [keysOf] using hy
/-- no fault yet -/
def fk0 (C : wd_C) : Prop := C.1 5 = 0 ∧ C.1 6 = -1
def rdX (C C' : wd_C) (nv0 d : Nat) (m : RM) (ht : Nat → Nat) (nv : Nat) (V : VT) (x nv' : Nat) (V' : VT) : Prop := (∀ y, y < nv → vfr C nv V y → vfr C' nv' V' y) ∧ (∀ y, y < nv → V'.1 y = V.1 y) ∧ vbe nv0 V V' ∧ ∃ ht' : Nat → Nat, (∀ y, y < nv → ht' y = ht y) ∧ hG nv' V' ht' ∧ (match m with
  | none => ht' x ≤ 8 - d ∧ nv ≤ x ∧ vfr C' nv' V' x
  | some (v, _) => x = v)
def rdO (C : wd_C) (Y : wd_Y) (og : Nat → Int64) (n nv0 d : Nat) (m : RM) (ht : Nat → Nat) (k nv u : Nat) (V : VT) (r : RR) (vr : Option Value) (w' : am_W) : Prop := match r with
  | .inl (c, p, no') => vr = some (.int (-1)) ∧ ∃ C' : wd_C, w' = wd C' Y og ∧ C'.1 5 = c ∧ ¬ c = 0 ∧ C'.1 6 = nI p ∧ p ≤ n ∧ C'.1 7 = no' ∧ fC C C' nv0 ∧ ∃ nv' u' V', nv ≤ nv' ∧ u ≤ u' ∧ vsC C' nv' u' V' ∧ vbe nv0 V V'
  | .inr (x, k', nv', u', V', no') => vr = some (.int (nI x)) ∧ ∃ C' : wd_C, w' = wd C' Y og ∧ C'.1 4 = nI k' ∧ fk0 C' ∧ C'.1 7 = no' ∧ fC C C' nv0 ∧ vsC C' nv' u' V' ∧ k < k' ∧ k' ≤ n ∧ nv ≤ nv' ∧ u ≤ u' ∧ u' ≤ k' ∧ x < nv' ∧ rdX C C' nv0 d m ht nv V x nv' V'
def rdP (n : Nat) (b : Nat → Int32) (C : wd_C) (Y : wd_Y) (og : Nat → Int64) (nv0 d : Nat) (m : RM) (ht : Nat → Nat) (k nv u : Nat) (V : VT) (no : Int32) (vr : Option Value) (w' : am_W) : Prop := ∃ r, Rd n b m d (k, nv, u, V, no) r ∧ rdO C Y og n nv0 d m ht k nv u V r vr w'
def rdI (C : wd_C) (n : Nat) (b : Nat → Int32) (nv0 : Nat) (ht : Nat → Nat) (k nv u : Nat) (V : VT) (no : Int32) : Prop := tpC C n b ∧ C.1 4 = nI k ∧ fk0 C ∧ C.1 7 = no ∧ vsC C nv u V ∧ k ≤ n ∧ u ≤ k ∧ nv0 ≤ nv ∧ hG nv V ht
def rdM (C : wd_C) (nv0 : Nat) (ht : Nat → Nat) (nv : Nat) (V : VT) (d v : Nat) (kd : Int32) : Prop := nv0 ≤ v ∧ v < nv ∧ V.1 v = kd ∧ vfr C nv V v ∧ ht v = 8 - d ∧ d < 8
def rdT (C C1 : wd_C) (nv0 : Nat) (ht ht1 : Nat → Nat) (nv : Nat) (V : VT) (nv1 : Nat) (V1 : VT) : Prop := fC C C1 nv0 ∧ nv ≤ nv1 ∧ (∀ y, y < nv → vfr C nv V y → vfr C1 nv1 V1 y) ∧ (∀ y, y < nv → V1.1 y = V.1 y) ∧ vbe nv0 V V1 ∧ ∀ y, y < nv → ht1 y = ht y
theorem rdT_tr {C C1 C2 : wd_C} {nv0 : Nat} {ht ht1 ht2 : Nat → Nat} {nv nv1 nv2 : Nat} {V V1 V2 : VT} (h : rdT C C1 nv0 ht ht1 nv V nv1 V1) (h2 : rdT C1 C2 nv0 ht1 ht2 nv1 V1 nv2 V2) : rdT C C2 nv0 ht ht2 nv V nv2 V2 := by
  obtain ⟨a1, a2, a3, a4, a5, a6⟩ := h
  obtain ⟨b1, b2, b3, b4, b5, b6⟩ := h2
  exact ⟨fC_tr a1 b1 (Nat.le_refl _), by omega, fun y hy hf => b3 y (by omega) (a3 y hy hf), fun y hy => (b4 y (by omega)).trans (a4 y hy), vbe_tr a5 b5 (Nat.le_refl _), fun y hy => (b6 y (by omega)).trans (a6 y hy)⟩
theorem rdM_T {C C1 : wd_C} {nv0 : Nat} {ht ht1 : Nat → Nat} {nv nv1 d v : Nat} {V V1 : VT} {kd : Int32} (h : rdT C C1 nv0 ht ht1 nv V nv1 V1) (hm : rdM C nv0 ht nv V d v kd) : rdM C1 nv0 ht1 nv1 V1 d v kd := by
  obtain ⟨a1, a2, a3, a4, a5, a6⟩ := h
  obtain ⟨m1, m2, m3, m4, m5, m6⟩ := hm
  exact ⟨m1, by omega, (a4 v m2).trans m3, a3 v m2 m4, (a6 v m2).trans m5, m6⟩
theorem rdO_T {C C1 : wd_C} {Y : wd_Y} {og : Nat → Int64} {n nv0 d : Nat} {q : Nat × Bool} {ht ht1 : Nat → Nat} {k k1 nv nv1 u u1 : Nat} {V V1 : VT} {r : RR} {vr : Option Value} {w' : am_W} (h : rdT C C1 nv0 ht ht1 nv V nv1 V1) (hk : k ≤ k1) (hu : u ≤ u1) (h2 : rdO C1 Y og n nv0 d (some q) ht1 k1 nv1 u1 V1 r vr w') : rdO C Y og n nv0 d (some q) ht k nv u V r vr w' := by
  obtain ⟨a1, a2, a3, a4, a5, a6⟩ := h
  rcases r with ⟨c, p, no'⟩ | ⟨x, k', nv', u', V', no'⟩
  · obtain ⟨e, C', w1, f5, fc, f6, fp, f7, ff, nv', u', V', g1, g2, g3, g4⟩ := h2
    exact ⟨e, C', w1, f5, fc, f6, fp, f7, fC_tr a1 ff (Nat.le_refl _), nv', u', V', by omega, by omega, g3, vbe_tr a5 g4 (Nat.le_refl _)⟩
  · obtain ⟨e, C', w1, f4, f5, f7, ff, g1, g2, g3, g4, g5, g6, g7, x1, x2, x3, ht', t1, t2, t3⟩ := h2
    exact ⟨e, C', w1, f4, f5, f7, fC_tr a1 ff (Nat.le_refl _), g1, by omega, g3, by omega, by omega, g6, g7, fun y hy hf => x1 y (by omega) (a3 y hy hf), fun y hy => (x2 y (by omega)).trans (a4 y hy), vbe_tr a5 x3 (Nat.le_refl _), ht', fun y hy => (t1 y (by omega)).trans (a6 y hy), t2, t3⟩
/-- a fault within goes on to whoever called -/
theorem rdO_bad {C C1 : wd_C} {Y : wd_Y} {og : Nat → Int64} {n nv0 d d1 : Nat} {m m1 : RM} {ht ht1 ht0 : Nat → Nat} {k k1 nv nv1 u u1 : Nat} {V V1 : VT} {f : Int32 × Nat × Int32} {vr : Option Value} {w' : am_W} (h : rdT C C1 nv0 ht ht0 nv V nv1 V1) (hu : u ≤ u1) (h2 : rdO C1 Y og n nv0 d1 m1 ht1 k1 nv1 u1 V1 (.inl f) vr w') : rdO C Y og n nv0 d m ht k nv u V (.inl f) vr w' := by
  obtain ⟨a1, a2, a3, a4, a5, a6⟩ := h
  obtain ⟨c, p, no'⟩ := f
  obtain ⟨e, C', w1, f5, fc, f6, fp, f7, ff, nv', u', V', g1, g2, g3, g4⟩ := h2
  exact ⟨e, C', w1, f5, fc, f6, fp, f7, fC_tr a1 ff (Nat.le_refl _), nv', u', V', by omega, by omega, g3, vbe_tr a5 g4 (Nat.le_refl _)⟩
/-- a value read: the step that it is, and who it is -/
theorem rdO_ok {C1 : wd_C} {Y : wd_Y} {og : Nat → Int64} {n nv0 d : Nat} {ht : Nat → Nat} {k nv u : Nat} {V : VT} {x k' nv' u' : Nat} {V' : VT} {no' : Int32} {vr : Option Value} {w' : am_W} {b : Nat → Int32} (hT : tpC C1 n b) (hn0 : nv0 ≤ nv) (h2 : rdO C1 Y og n nv0 d none ht k nv u V (.inr (x, k', nv', u', V', no')) vr w') : vr = some (.int (nI x)) ∧ ∃ (C' : wd_C) (ht' : Nat → Nat), w' = wd C' Y og ∧ rdI C' n b nv0 ht' k' nv' u' V' no' ∧ rdT C1 C' nv0 ht ht' nv V nv' V' ∧ k < k' ∧ u ≤ u' ∧ nv ≤ x ∧ x < nv' ∧ ht' x ≤ 8 - d ∧ vfr C' nv' V' x := by
  obtain ⟨e, C', w1, f4, f5, f7, ff, g1, g2, g3, g4, g5, g6, g7, x1, x2, x3, ht', t1, t2, t3, t4, t5⟩ := h2
  exact ⟨e, C', ht', w1, ⟨tpC_f hT ff, f4, f5, f7, g1, g3, g6, by omega, t2⟩, ⟨ff, g4, x1, x2, x3, t1⟩, g2, g5, t4, g7, t3, t5⟩
theorem rdT_rf (C : wd_C) (nv0 : Nat) (ht : Nat → Nat) (nv : Nat) (V : VT) (x : Int32) : rdT C (upd C.1 4 x, C.2) nv0 ht ht nv V nv V := ⟨fC_rf _ _, Nat.le_refl _, fun _ _ h => h, fun _ _ => rfl, vbe_rf _ _, fun _ _ => rfl⟩
/-- a fault at once -/
theorem rdO_f {C : wd_C} {Y : wd_Y} {og : Nat → Int64} {n nv0 d : Nat} {m : RM} {ht : Nat → Nat} {k nv u : Nat} {V : VT} {no : Int32} {b : Nat → Int32} (h : rdI C n b nv0 ht k nv u V no) (x c : Int32) {p : Nat} (hc : ¬ c = 0) (hp : p ≤ n) : rdO C Y og n nv0 d m ht k nv u V (.inl (c, p, no)) (some (.int (-1))) (wd (upd (upd (upd C.1 4 x) 5 c) 6 (nI p), C.2) Y og) := by
  obtain ⟨h1, h2, h3, h4, h5, h6, h7, h8, h9⟩ := h
  exact ⟨rfl, _, rfl, rfl, hc, rfl, hp, h4, fC_rf _ _, nv, u, V, Nat.le_refl _, Nat.le_refl _, h5, vbe_rf _ _⟩
theorem vfr_add {C : wd_C} {nv u : Nat} {V : VT} (hS : vsC C nv u V) {C' : wd_C} (h7 : ∀ w, C'.2.1 7 w = (vAdd C nv u).2.1 7 w) (k : Int32) (x : Int64) (bs : List Int32) : (∀ y, y < nv → vfr C nv V y → vfr C' (nv + 1) (vtLeaf V nv k x bs) y) ∧ vfr C' (nv + 1) (vtLeaf V nv k x bs) nv := by
  have hkid : ∀ w, w < nv + 1 → ∀ y, y ∈ (vtLeaf V nv k x bs).2.2.1 w → w < nv ∧ y ∈ V.2.2.1 w := fun w hw y hy => by
    by_cases e : w = nv
    · subst e
      rw [vtLeaf_ks] at hy
      simp at hy
    · have : (vtLeaf V nv k x bs).2.2.1 w = V.2.2.1 w := by simp [vtLeaf, va_up, e]
      rw [this] at hy
      exact ⟨by omega, hy⟩
  refine ⟨fun y hy hf => ⟨?_, fun w hw hm => ?_⟩, ⟨?_, fun w hw hm => ?_⟩⟩
  · rw [h7]
    have : y ≠ nv := by omega
    simp [vAdd, upd, this]
    exact hf.1
  · obtain ⟨g1, g2⟩ := hkid w hw y hm
    exact hf.2 w g1 g2
  · rw [h7]
    simp [vAdd, upd]
  · obtain ⟨g1, g2⟩ := hkid w hw nv hm
    have := (hS.2.1 w g1).2.2.2.1 nv g2
    omega
theorem fC_add (C : wd_C) (nv u nv0 : Nat) (h0 : nv0 ≤ nv) (x : Int32) : fC C (upd (vAdd C nv u).1 4 x, (vAdd C nv u).2) nv0 := by
  refine ⟨⟨rfl, rfl, rfl, rfl, rfl, rfl, rfl, rfl⟩, ⟨rfl, rfl, rfl⟩, fun w hw => ?_⟩
  have : w ≠ nv := by omega
  simp [vAdd, upd, this]
/-- a leaf's answer as a value's -/
theorem rdP_leaf {C C1 : wd_C} {Y : wd_Y} {og : Nat → Int64} {n nv0 d : Nat} {ht : Nat → Nat} {k nv u : Nat} {V : VT} {no : Int32} {b : Nat → Int32} (h : rdI C n b nv0 ht k nv u V no) (h3 : nv < 300) (hk : skW n b k < n) (hbg : bgV (b (skW n b k)) = true) (hcn : ¬ isCn b (skW n b k)) (hC1 : C1 = vAdd (upd C.1 4 (nI (skW n b k)), C.2) nv u) {r : LF} (hr : lfR n b (skW n b k) = r) {vr : Option Value} {w' : am_W} (hP : lfP C1 Y og nv u V r vr w') : rdP n b C Y og nv0 d none ht k nv u V no vr w' := by
  obtain ⟨h1, h2, h3', h4, h5, h6, h7, h8, h9⟩ := h
  have hsk := skW_le n b h6
  have hbd := lfR_bd h1.2.2.2 hk hbg hcn
  have hgd : gd n nv u k V := ⟨vsC_ok h5, h5.1.2.1, h7, h6⟩
  have hf0 : fC C C1 nv0 := by
    rw [hC1]
    refine ⟨⟨rfl, rfl, rfl, rfl, rfl, rfl, rfl, rfl⟩, ⟨rfl, rfl, rfl⟩, fun w hw => ?_⟩
    have : w ≠ nv := by omega
    simp [vAdd, upd, this]
  have h57 : fk0 C1 ∧ C1.1 7 = no := by rw [hC1]; exact ⟨h3', h4⟩
  rw [hr] at hbd
  rcases r with ⟨c, p⟩ | ⟨kd, nu, acc, k', bit⟩
  · refine ⟨.inl (c, p, no), Rd_v1 d k nv u V no c p hgd (Or.inr (Or.inr (Or.inr (Or.inr ⟨hk, hbg, hcn, h3, hr⟩)))), ?_⟩
    obtain ⟨e, C', w1, f5, f6, f7, ff, kd, nu, acc, g⟩ := hP
    exact ⟨e, C', w1, f5, hbd.1, f6, hbd.2, f7.trans h57.2, fC_tr hf0 ff h8, nv + 1, u + acc.length, _, by omega, by omega, g, fun v hv => vbe_leaf nv V kd nu acc v (by omega)⟩
  · refine ⟨.inr (nv, k', nv + 1, u + acc.length, vtLeaf V nv kd nu acc, no ||| bit), Rd_v2 d k nv u V no kd nu acc k' bit hgd h3 hk hbg hcn hr, ?_⟩
    obtain ⟨e, C', w1, f4, f5, f7, ff, f77, g⟩ := hP
    obtain ⟨b1, b2, b3, b4, b5, b6⟩ := hbd
    have hv := vfr_add (C := (upd C.1 4 (nI (skW n b k)), C.2)) h5 (C' := C') (fun w => by rw [f77, hC1]) kd nu acc
    refine ⟨e, C', w1, f4, ⟨f5.1.trans h57.1.1, f5.2.trans h57.1.2⟩, by rw [f7, h57.2], fC_tr hf0 ff h8, g, by omega, b2, by omega, by omega, by omega, by omega, ?_, fun y hy => ?_, fun v hv => vbe_leaf nv V kd nu acc v (by omega), va_up ht nv 0, fun y hy => ?_, hG_leaf h9 (vsC_ok h5) acc b6 (lfR_nb h1.2.2.2 hk hr).1 (by omega), ?_, Nat.le_refl _, hv.2⟩
    · exact hv.1
    · have : y ≠ nv := by omega
      simp [vtLeaf, upd, this]
    · have : y ≠ nv := by omega
      simp [va_up, this]
    · rw [up_at]; omega
/-- an open array or dictionary: its beginning -/
theorem rdT_open {C : wd_C} {n nv0 : Nat} {ht : Nat → Nat} {k nv u : Nat} {V : VT} {no : Int32} {b : Nat → Int32} (h : rdI C n b nv0 ht k nv u V no) (h3 : nv < 300) (x : Int32) (kd : Int32) (hkd : kd = 6 ∨ kd = 7) {d : Nat} (hd : d < 8) {k1 : Nat} (hk1 : k ≤ k1) (hkn : k1 ≤ n) : rdI (upd (vKind (vAdd (upd C.1 4 x, C.2) nv u) nv kd 0).1 4 (nI k1), (vKind (vAdd (upd C.1 4 x, C.2) nv u) nv kd 0).2) n b nv0 (va_up ht nv (8 - d)) k1 (nv + 1) u (vtLeaf V nv kd 0 []) no ∧ rdT C (upd (vKind (vAdd (upd C.1 4 x, C.2) nv u) nv kd 0).1 4 (nI k1), (vKind (vAdd (upd C.1 4 x, C.2) nv u) nv kd 0).2) nv0 ht (va_up ht nv (8 - d)) nv V (nv + 1) (vtLeaf V nv kd 0 []) ∧ rdM (upd (vKind (vAdd (upd C.1 4 x, C.2) nv u) nv kd 0).1 4 (nI k1), (vKind (vAdd (upd C.1 4 x, C.2) nv u) nv kd 0).2) nv0 (va_up ht nv (8 - d)) (nv + 1) (vtLeaf V nv kd 0 []) d nv kd := by
  obtain ⟨h1, h2, h3', h4, h5, h6, h7, h8, h9⟩ := h
  have hs1 := vsC_add (C := (upd C.1 4 x, C.2)) h5 h3
  have hs2 := vsC_kind hs1 (v := nv) (by omega) (by rw [vtLeaf_new, vtLeaf_ks]) kd 0
  rw [vtLeaf_new, vtLeaf_kind] at hs2
  have hv := vfr_add (C := (upd C.1 4 x, C.2)) h5 (C' := (upd (vKind (vAdd (upd C.1 4 x, C.2) nv u) nv kd 0).1 4 (nI k1), (vKind (vAdd (upd C.1 4 x, C.2) nv u) nv kd 0).2)) (fun w => rfl) kd 0 []
  have hnb : nbOK kd 0 := by rcases hkd with e | e <;> rw [e] <;> exact nbOK_no (by decide) (by decide) (by decide) (by decide)
  have h99 : ¬ kd = 9 := by rcases hkd with e | e <;> rw [e] <;> decide
  have hf : fC C (upd (vKind (vAdd (upd C.1 4 x, C.2) nv u) nv kd 0).1 4 (nI k1), (vKind (vAdd (upd C.1 4 x, C.2) nv u) nv kd 0).2) nv0 := by
    refine ⟨⟨rfl, rfl, rfl, rfl, rfl, rfl, rfl, rfl⟩, ⟨rfl, rfl, rfl⟩, fun w hw => ?_⟩
    have : w ≠ nv := by omega
    simp [vAdd, vKind, wd_u, upd, this]
  refine ⟨⟨tpC_f h1 hf, rfl, h3', h4, hs2, hkn, by omega, by omega, hG_leaf h9 (vsC_ok h5) [] h99 hnb (by omega)⟩, ⟨hf, by omega, hv.1, fun y hy => ?_, fun v hv => vbe_leaf nv V kd 0 [] v (by omega), fun y hy => ?_⟩, h8, by omega, by simp [vtLeaf, upd], hv.2, up_at _ _ _, hd⟩
  · have : y ≠ nv := by omega
    simp [vtLeaf, upd, this]
  · have : y ≠ nv := by omega
    simp [va_up, this]
/-- what was opened and is closed is a value -/
theorem rdO_open {C C1 : wd_C} {Y : wd_Y} {og : Nat → Int64} {n nv0 d : Nat} {ht : Nat → Nat} {k k1 nv u : Nat} {V V1 : VT} {r : RR} {vr : Option Value} {w' : am_W} {fl : Bool} (hT : rdT C C1 nv0 ht (va_up ht nv (8 - d)) nv V (nv + 1) V1) (hf : vfr C1 (nv + 1) V1 nv) (hk : k ≤ k1) (h2 : rdO C1 Y og n nv0 d (some (nv, fl)) (va_up ht nv (8 - d)) k1 (nv + 1) u V1 r vr w') : rdO C Y og n nv0 d none ht k nv u V r vr w' := by
  rcases r with f | ⟨x, k', nv', u', V', no'⟩
  · exact rdO_bad hT (Nat.le_refl _) h2
  · obtain ⟨a1, a2, a3, a4, a5, a6⟩ := hT
    obtain ⟨e, C', w1, f4, f5, f7, ff, g1, g2, g3, g4, g5, g6, g7, x1, x2, x3, ht', t1, t2, t3⟩ := h2
    have t3' : x = nv := t3
    subst t3'
    exact ⟨e, C', w1, f4, f5, f7, fC_tr a1 ff (Nat.le_refl _), g1, by omega, g3, by omega, g5, g6, g7, fun y hy hf => x1 y (by omega) (a3 y hy hf), fun y hy => (x2 y (by omega)).trans (a4 y hy), vbe_tr a5 x3 (Nat.le_refl _), ht', fun y hy => (t1 y (by omega)).trans (a6 y hy), t2, by rw [t1 x (by omega), up_at]; exact Nat.le_refl _, Nat.le_refl _, x1 x (by omega) hf⟩
