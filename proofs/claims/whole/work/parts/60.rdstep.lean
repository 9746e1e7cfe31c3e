/-! a part and an entry as steps of reading; a key -/
theorem vbe_kids {nv0 : Nat} {V V2 : VT} {v : Nat} (h : vbe nv0 V V2) (hv : nv0 ≤ v) (ks : List Nat) : vbe nv0 V (V2.1, V2.2.1, va_up V2.2.2.1 v ks, V2.2.2.2) := fun w hw => by
  obtain ⟨a1, a2, a3, a4⟩ := h w hw
  have : w ≠ v := by omega
  exact ⟨a1, a2, by show va_up V2.2.2.1 v ks w = _; rw [← a3]; simp [va_up, this], a4⟩
theorem vtEnt_eq (V : VT) (v k x : Nat) : ∃ ks, vtEnt V v k x = (V.1, V.2.1, va_up V.2.2.1 v ks, V.2.2.2) := by
  have self : (V.1, V.2.1, va_up V.2.2.1 v (V.2.2.1 v), V.2.2.2) = V := by
    have : va_up V.2.2.1 v (V.2.2.1 v) = V.2.2.1 := by
      funext j
      unfold va_up
      split
      · rename_i e; rw [e]
      · rfl
    rw [this]
  unfold vtEnt
  cases vtFnd V v k with
  | none =>
    show ∃ ks, (if V.1 x = 0 then V else vtKey V v k x) = _
    split
    · exact ⟨_, self.symm⟩
    · exact ⟨_, rfl⟩
  | some t =>
    show ∃ ks, (if V.1 x = 0 then vtDel V v t else vtSet V v t x) = _
    split
    · exact ⟨_, rfl⟩
    · exact ⟨_, rfl⟩
theorem rd_part {C C1 : wd_C} {n nv0 : Nat} {b : Nat → Int32} {ht ht1 : Nat → Nat} {nv k2 nv2 u2 dp v x : Nat} {V V2 : VT} {no2 : Int32} (hT1 : rdT C C1 nv0 ht ht1 nv V nv2 V2) (hI1 : rdI C1 n b nv0 ht1 k2 nv2 u2 V2 no2) (hM : rdM C nv0 ht nv V dp v 6) (hx : nv ≤ x) (hx2 : x < nv2) (hf : vfr C1 nv2 V2 x) (hh : ht1 x ≤ 8 - (dp + 1)) : rdI (vPart C1 v x (V2.2.2.1 v).getLast?) n b nv0 ht1 k2 nv2 u2 (vtPart V2 v x) no2 ∧ rdT C (vPart C1 v x (V2.2.2.1 v).getLast?) nv0 ht ht1 nv V nv2 (vtPart V2 v x) ∧ rdM (vPart C1 v x (V2.2.2.1 v).getLast?) nv0 ht1 nv2 (vtPart V2 v x) dp v 6 := by
  have hM1 := rdM_T hT1 hM
  obtain ⟨m1, m2, m3, m4, m5, m6⟩ := hM1
  obtain ⟨-, k2', -⟩ := hM
  obtain ⟨i1, i2, i3, i4, i5, i6, i7, i8, i9⟩ := hI1
  have hlen := vsC_len i5 m2
  have hp := vsC_part i5 m2 hx2 (by rw [m3]; decide) hf (by omega)
  have h1 : ∀ j, (vPart C1 v x (V2.2.2.1 v).getLast?).1 j = C1.1 j := fun j => by rw [vPart_1]
  have hfc : fC C1 (vPart C1 v x (V2.2.2.1 v).getLast?) nv0 := fC_aE (fun j _ => h1 j) (aE_part _ _ _ _)
  obtain ⟨t1, t2, t3, t4, t5, t6⟩ := hT1
  refine ⟨⟨tpC_f i1 hfc, (h1 4).trans i2, ⟨(h1 5).trans i3.1, (h1 6).trans i3.2⟩, (h1 7).trans i4, hp.1, i6, i7, i8, hG_part i9 m3 (by omega)⟩, ⟨fC_tr t1 hfc (Nat.le_refl _), t2, fun y hy hfy => hp.2 y (by omega) (t3 y hy hfy), t4, vbe_kids t5 m1 _, t6⟩, m1, m2, m3, hp.2 v (by omega) m4, m5, m6⟩
theorem rd_ent {C C1 C' : wd_C} {n nv0 : Nat} {b : Nat → Int32} {ht ht1 : Nat → Nat} {nv k2 nv2 u2 dp v x : Nat} {V V2 : VT} {no2 no' : Int32} (hT1 : rdT C C1 nv0 ht ht1 nv V nv2 V2) (hI1 : rdI C1 n b nv0 ht1 k2 nv2 u2 V2 no2) (hM : rdM C nv0 ht nv V dp v 7) (hn : nv0 ≤ nv) (hk4 : V2.1 nv = 4) (hkh : ht1 nv = 0) (hx : nv < x) (hx2 : x < nv2) (hh : ht1 x ≤ 8 - (dp + 1)) (h1 : ∀ j, j ≠ 7 → C'.1 j = C1.1 j) (h7 : C'.1 7 = no') (ha : aE C1 C') (hS : vsC C' nv2 u2 (vtEnt V2 v nv x)) (hfr : ∀ y, y ≠ nv → y ≠ x → vfr C1 nv2 V2 y → vfr C' nv2 (vtEnt V2 v nv x) y) : rdI C' n b nv0 ht1 k2 nv2 u2 (vtEnt V2 v nv x) no' ∧ rdT C C' nv0 ht ht1 nv V nv2 (vtEnt V2 v nv x) ∧ rdM C' nv0 ht1 nv2 (vtEnt V2 v nv x) dp v 7 := by
  have hM1 := rdM_T hT1 hM
  obtain ⟨m1, m2, m3, m4, m5, m6⟩ := hM1
  obtain ⟨-, k2', -⟩ := hM
  obtain ⟨i1, i2, i3, i4, i5, i6, i7, i8, i9⟩ := hI1
  have hfc : fC C1 C' nv0 := fC_aE h1 ha
  obtain ⟨t1, t2, t3, t4, t5, t6⟩ := hT1
  obtain ⟨r1, r2, r3, r4, r5, r6, r8, r7⟩ := i5.2.1 v m2
  obtain ⟨ks, he⟩ := vtEnt_eq V2 v nv x
  have hk1 : (vtEnt V2 v nv x).1 = V2.1 := by rw [he]
  refine ⟨⟨tpC_f i1 hfc, (h1 4 (by decide)).trans i2, ⟨(h1 5 (by decide)).trans i3.1, (h1 6 (by decide)).trans i3.2⟩, h7, hS, i6, i7, i8, hG_ent i9 m3 (r7.1 m3).2.2 r6 hk4 (by omega) (by omega)⟩, ⟨fC_tr t1 hfc (Nat.le_refl _), t2, fun y hy hfy => hfr y (by omega) (by omega) (t3 y hy hfy), fun y hy => by rw [hk1]; exact t4 y hy, by rw [he]; exact vbe_kids t5 m1 _, t6⟩, m1, m2, by rw [hk1]; exact m3, hfr v (by omega) (by omega) m4, m5, m6⟩
/-- a key is read -/
theorem rd_key {C C1 : wd_C} {Y : wd_Y} {og : Nat → Int64} {n nv0 : Nat} {ht : Nat → Nat} {k nv u : Nat} {V : VT} {no : Int32} {b : Nat → Int32} (h : rdI C n b nv0 ht k nv u V no) (hk : skW n b k < n) (h47 : b (skW n b k) = 47) (hC1 : C1 = vAdd (upd C.1 4 (nI (skW n b k)), C.2) nv u) {kd : Int32} {nu : Int64} {acc : List Int32} {k' : Nat} {bit : Int32} (hr : lfR n b (skW n b k) = .inr (kd, nu, acc, k', bit)) {vr : Option Value} {w' : am_W} (hP : lfP C1 Y og nv u V (.inr (kd, nu, acc, k', bit)) vr w') : vr = some (.int (nI nv)) ∧ ∃ C' : wd_C, w' = wd C' Y og ∧ rdI C' n b nv0 (va_up ht nv 0) k' (nv + 1) (u + acc.length) (vtLeaf V nv kd nu acc) (no ||| bit) ∧ rdT C C' nv0 ht (va_up ht nv 0) nv V (nv + 1) (vtLeaf V nv kd nu acc) ∧ vfr C' (nv + 1) (vtLeaf V nv kd nu acc) nv ∧ kd = 4 ∧ skW n b k < k' := by
  obtain ⟨h1, h2, h3', h4, h5, h6, h7, h8, h9⟩ := h
  have hsk := skW_le n b h6
  have hbg : bgV (b (skW n b k)) = true := by rw [h47]; decide
  have hcn : ¬ isCn b (skW n b k) := by rw [isCn, h47]; rintro (z | z); exact absurd z (by decide); exact absurd z.1 (by decide)
  have hbd := lfR_bd h1.2.2.2 hk hbg hcn
  have hnb := lfR_nb h1.2.2.2 hk hr
  have hf0 : fC C C1 nv0 := by
    rw [hC1]
    refine ⟨⟨rfl, rfl, rfl, rfl, rfl, rfl, rfl, rfl⟩, ⟨rfl, rfl, rfl⟩, fun w hw => ?_⟩
    have : w ≠ nv := by omega
    simp [vAdd, upd, this]
  have h57 : fk0 C1 ∧ C1.1 7 = no := by rw [hC1]; exact ⟨h3', h4⟩
  rw [hr] at hbd
  obtain ⟨e, C', w1, f4, f5, f7, ff, f77, g⟩ := hP
  obtain ⟨b1, b2, b3, b4, b5, b6⟩ := hbd
  have hv := vfr_add (C := (upd C.1 4 (nI (skW n b k)), C.2)) h5 (C' := C') (fun w => by rw [f77, hC1]) kd nu acc
  have hfc := fC_tr hf0 ff h8
  refine ⟨e, C', w1, ⟨tpC_f h1 hfc, f4, ⟨f5.1.trans h57.1.1, f5.2.trans h57.1.2⟩, by rw [f7, h57.2], g, b2, by omega, by omega, hG_leaf h9 (vsC_ok h5) acc b6 hnb.1 (by omega)⟩, ⟨hfc, by omega, hv.1, fun y hy => ?_, fun v hv => vbe_leaf nv V kd nu acc v (by omega), fun y hy => ?_⟩, hv.2, hnb.2 h47, b1⟩
  · have : y ≠ nv := by omega
    simp [vtLeaf, upd, this]
  · have : y ≠ nv := by omega
    simp [va_up, this]
theorem tx62 {b : Nat → Int32} {k : Nat} : txA b st_2 k = true ↔ b k = 62 ∧ b (k + 1) = 62 := by
  show (decide (b k = 62) && (decide (b (k + 1) = 62) && true)) = true ↔ _
  simp
theorem skW_id {n : Nat} {b : Nat → Int32} (hb : ∀ k, n ≤ k → b k = -1) {k : Nat} (hk : k ≤ n) : skW n b (skW n b k) = skW n b k := by
  have key : ∀ (f k : Nat) (r : Bool), k + f = n → isWh (b (bwh b f k r)) = false ∧ ¬ b (bwh b f k r) = 37 ∨ bwh b f k r = n := by
    intro f
    induction f with
    | zero => intro k r h; exact Or.inr (by rw [bwh]; omega)
    | succ f ih =>
      intro k r h
      rw [bwh]
      split
      · exact ih _ _ (by omega)
      · split
        · exact ih _ _ (by omega)
        · split
          · rename_i h1 h2 h3
            exact Or.inl ⟨h3.2, h2⟩
          · exact ih _ _ (by omega)
  have hle := skW_le n b hk
  rcases key (n - k) k false (by omega) with h | h
  · show bwh b (n - skW n b k) (skW n b k) false = skW n b k
    exact bwh_no h.1 h.2
  · have e : skW n b k = n := h
    rw [e]
    show bwh b (n - n) n false = n
    rw [Nat.sub_self]
    rfl
theorem rdP_int {n : Nat} {b : Nat → Int32} {C : wd_C} {Y : wd_Y} {og : Nat → Int64} {nv0 d : Nat} {m : RM} {ht : Nat → Nat} {k nv u : Nat} {V : VT} {no : Int32} {vr : Option Value} {w' : am_W} (h : rdP n b C Y og nv0 d m ht k nv u V no vr w') : (∃ x, vr = some (.int x)) ∧ w'.length = 38 := by
  obtain ⟨r, -, h2⟩ := h
  rcases r with ⟨c, p, no'⟩ | ⟨x, k', nv', u', V', no'⟩
  · obtain ⟨e, C', rfl, -⟩ := h2
    exact ⟨⟨_, e⟩, rfl⟩
  · obtain ⟨e, C', rfl, -⟩ := h2
    exact ⟨⟨_, e⟩, rfl⟩
