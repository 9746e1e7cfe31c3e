/-! more rules: booleans, Math, fewer locals -/
def bz : Bool → Int32
  | true => 1
  | false => 0
theorem bz_nar (b : Bool) : narrow .boolean (.int (bz b)) = .int (bz b) := by cases b <;> rfl
theorem bz_fit (b : Bool) : fits .boolean (.int (bz b)) = true := by cases b <;> rfl
def am_mask : List Nat → am_L → am_L
  | [], L => L
  | k :: ks, L => am_mask ks (L.set k none)
theorem am_mask_less : ∀ (ks : List Nat) (L : am_L), am_less (am_mask ks L) L
  | [], L => fun _ _ h => h
  | k :: ks, L => fun i v h => by
    have h1 := am_mask_less ks (L.set k none) i v h
    rw [List.getElem?_set] at h1
    split at h1
    · split at h1 <;> simp at h1
    · exact h1
section AMZ
variable {l : Launch} {D : va_G} {cA : Nat → ClassId} {ad : Nat → Nat} {fm : Value} {d n : Nat} {M : am_M} {post : Option Value → am_W → Prop} {pc idx : Nat} {L : am_L} {S : List Value} {w : am_W}
theorem am_bz_r {z : Bool} {t f : Nat} (kt : z = true → am_Rn l D cA ad fm d M n post (f, L, S, w)) (kf : z = false → am_Rn l D cA ad fm d M n post (t, L, S, w)) : am_Rn l D cA ad fm d M n post (bif decide (bz z = 0) then t else f, L, S, w) := by
  cases z with
  | true => exact kt rfl
  | false => exact kf rfl
theorem am_drop_r (ks : List Nat) {L' : am_L} (h : am_mask ks L = L') (r : am_Rn l D cA ad fm d M n post (pc, L', S, w)) : am_Rn l D cA ad fm d M n post (pc, L, S, w) :=
  am_less_r L' (h ▸ am_mask_less ks L) r
theorem am_two1 {w : Cond} (h : w ∈ lw_tbl ∧ goodWord w = true) : w ∈ lw_g := List.mem_filter.mpr h
set_option maxRecDepth 100000 in
theorem am_mcode_min : Cond.code Lib.Math.min.name Lib.Math.min.code 2 (some .int) ∈ lw_g := am_in 305 rfl rfl
set_option maxRecDepth 100000 in
theorem am_mcode_max : Cond.code Lib.Math.max.name Lib.Math.max.code 2 (some .int) ∈ lw_g := am_in 308 rfl rfl
set_option maxRecDepth 100000 in
theorem am_mcode_abs : Cond.code Lib.MathLoose.abs_long.x Lib.MathLoose.abs_long.code 2 (some .long) ∈ lw_g := am_in 948 rfl rfl
theorem am_mmin_r (hM : am_ok M) (ht : am_tb M pc = some (.invokestatic idx, 3)) (hlk : Cond.methodLink (pr_cn (am_co M)) idx Lib.Math.min.name ∈ lw_g) {x y : Int32} (hrs : (S.map fun v => v.category).sum ≤ 8 := by decide) (r : am_Rn l D cA ad fm (d + 1) M n post (pc + 3, L, .int (if y < x then y else x) :: S, w)) : am_Rn l D cA ad fm (d + 1) M n post (pc, L, .int y :: .int x :: S, w) := by
  intro p e R s m args below meth c hX hr' hlk2 hfr hl H locs ls hP hD hS hlv
  have hX0 := hX
  obtain ⟨hx, hb, hml, hown, hts, hK, hKn, hA⟩ := hX0
  exact va_mmin hx hb (by rw [hml]; exact hlv.1.symm) hown (hts _ hlk) (hts _ (am_two1 (by decide +kernel))) (hts _ (am_two1 (by decide +kernel))) (hts _ am_mcode_min) (by omega) (by rw [am_cat_sum]; omega) (Nat.zero_le _) (Nat.zero_le _) (hM.1 _ _ ht) (r p e R s m args below meth c hX hr' hlk2 hfr hl H locs ls hP hD hS hlv)
theorem am_mmax_r (hM : am_ok M) (ht : am_tb M pc = some (.invokestatic idx, 3)) (hlk : Cond.methodLink (pr_cn (am_co M)) idx Lib.Math.max.name ∈ lw_g) {x y : Int32} (hrs : (S.map fun v => v.category).sum ≤ 8 := by decide) (r : am_Rn l D cA ad fm (d + 1) M n post (pc + 3, L, .int (if x < y then y else x) :: S, w)) : am_Rn l D cA ad fm (d + 1) M n post (pc, L, .int y :: .int x :: S, w) := by
  intro p e R s m args below meth c hX hr' hlk2 hfr hl H locs ls hP hD hS hlv
  have hX0 := hX
  obtain ⟨hx, hb, hml, hown, hts, hK, hKn, hA⟩ := hX0
  exact va_mmax hx hb (by rw [hml]; exact hlv.1.symm) hown (hts _ hlk) (hts _ (am_two1 (by decide +kernel))) (hts _ (am_two1 (by decide +kernel))) (hts _ am_mcode_max) (by omega) (by rw [am_cat_sum]; omega) (Nat.zero_le _) (Nat.zero_le _) (hM.1 _ _ ht) (r p e R s m args below meth c hX hr' hlk2 hfr hl H locs ls hP hD hS hlv)
theorem am_mabs_r (hM : am_ok M) (ht : am_tb M pc = some (.invokestatic idx, 3)) (hlk : Cond.methodLink (pr_cn (am_co M)) idx Lib.MathLoose.abs_long.x ∈ lw_g) {x : Int64} (hrs : (S.map fun v => v.category).sum ≤ 8 := by decide) (r : am_Rn l D cA ad fm (d + 1) M n post (pc + 3, L, .long (if 0 < x then x else -x) :: S, w)) : am_Rn l D cA ad fm (d + 1) M n post (pc, L, .long x :: S, w) := by
  intro p e R s m args below meth c hX hr' hlk2 hfr hl H locs ls hP hD hS hlv
  have hX0 := hX
  obtain ⟨hx, hb, hml, hown, hts, hK, hKn, hA⟩ := hX0
  exact va_mabs_long hx hb (by rw [hml]; exact hlv.1.symm) hown (hts _ hlk) (hts _ (am_two1 (by decide +kernel))) (hts _ (am_two1 (by decide +kernel))) (hts _ am_mcode_abs) (by omega) (by rw [am_cat_sum]; omega) (Nat.zero_le _) (Nat.zero_le _) (hM.1 _ _ ht) (r p e R s m args below meth c hX hr' hlk2 hfr hl H locs ls hP hD hS hlv)
end AMZ
