/-! the law's loop and its end -/
theorem lp_vin {i j Ls : Nat} (h : i + j < Ls) (hL : Ls ≤ 2048) : vp_in (nI i + nI j) Ls := by
  rw [nI_add, vp_in]
  have h2 : (nI (i + j)).toNatClampNeg = i + j := nI_clamp (by omega)
  rintro (h3 | h3)
  · exact absurd h3 (Int32.not_lt.mpr ((nI_leI (show 0 < 2 ^ 31 by decide) (show i + j < 2 ^ 31 by omega)).mpr (Nat.zero_le _)))
  · rw [h2] at h3; omega
theorem lp_end {i Ls : Nat} (hL : Ls ≤ 2048) (hi : i ≤ 2052) : nI Ls - 4 < nI i ↔ Ls < i + 4 := by
  by_cases h : 4 ≤ Ls
  · obtain ⟨q, rfl⟩ : ∃ q, Ls = q + 4 := ⟨Ls - 4, by omega⟩
    have e : nI (q + 4) - 4 = nI q := by
      rw [← nI_add]
      show nI q + 4 - 4 = nI q
      rw [Int32.add_sub_cancel]
    rw [e, nI_ltI (by omega) (by omega)]
    omega
  · have h0 : (-5 : Int32) < nI i := by
      refine Int32.lt_of_lt_of_le (b := 0) (by decide) ?_
      exact (nI_leI (show 0 < 2 ^ 31 by decide) (show i < 2 ^ 31 by omega)).mpr (Nat.zero_le _)
    have h1 : nI Ls - 4 < nI i := by
      refine Int32.lt_of_lt_of_le (b := 0) ?_ ((nI_leI (show 0 < 2 ^ 31 by decide) (show i < 2 ^ 31 by omega)).mpr (Nat.zero_le _))
      rcases (show Ls = 0 ∨ Ls = 1 ∨ Ls = 2 ∨ Ls = 3 by omega) with rfl | rfl | rfl | rfl <;> decide
    exact ⟨fun _ => by omega, fun _ => h1⟩
theorem and15 (x : Int32) : ∃ j, j < 16 ∧ x &&& 15 = nI j := by
  obtain ⟨j, h1, h2⟩ := and255 (x &&& 15)
  have h3 : x &&& 15 &&& 255 = x &&& 15 := by
    rw [Int32.and_assoc]; rfl
  rw [h3] at h2
  refine ⟨j, ?_, h2⟩
  have h4 : (x &&& 15) &&& 15 = x &&& 15 := by rw [Int32.and_assoc]; rfl
  rw [h2] at h4
  have h5 : ∀ j, j < 256 → nI j &&& 15 = nI j → j < 16 := by decide +kernel
  exact h5 j h1 h4
section LWL
variable {D : va_G} {cA : Nat → ClassId} {ad : Nat → Nat} {fm : Value} {p : Program} {l : Launch} {e : Env} {s : State} {m : MethodId} {args : Array Value} {below : List Frame} {meth : Method} {c : Code} {Q : State → Prop} {base Ls : Nat} {xs : Nat → Int32}
set_option maxHeartbeats 2000000 in
set_option maxRecDepth 100000 in
theorem lw_loop (H : lwH D cA ad fm p l s m args c base Ls xs) (hL : Ls ≤ 2048) (hret : ∀ cells slots i w, cells ≤ 601024 → slots ≤ 7293034 → lwG D cA ad p l e s m args below meth c Q cells slots (879, [some (.ref 40), some (.ref 0), some (.ref 19), some (.ref 37), some (.int (nI i)), none, none, none], [.int 1], w)) : ∀ (fu i cells slots : Nat) (C : wd_C) (Y : wd_Y) (og : Nat → Int64), lwV C Y → i ≤ 2052 → Ls < i + 4 * fu → cells + fu ≤ 601024 → slots + 6 * fu ≤ 7293034 → lwG D cA ad p l e s m args below meth c Q cells slots (23, [some (.ref 40), some (.ref 0), some (.ref 19), some (.ref 37), some (.int (nI i)), none, none, none], [], wd C Y og) := by
  intro fu
  induction fu with
  | zero => 
    intro i cells slots C Y og I hi hfu hc1 hc2
    refine am_g_steps H.1 td_Z_law 2 (q' := (26, [some (.ref 40), some (.ref 0), some (.ref 19), some (.ref 37), some (.int (nI i)), none, none, none], [.ref 40, .int (nI i)], wd C Y og)) rfl ?_
    refine gl_slen H.1 H.2.1 H.2.2.1 H.2.2.2.1 (td_Z_law _ _ rfl) ?_
    refine am_g_steps H.1 td_Z_law 2 (q' := (29, [some (.ref 40), some (.ref 0), some (.ref 19), some (.ref 37), some (.int (nI i)), none, none, none], [.int (nI Ls - 4), .int (nI i)], wd C Y og)) rfl ?_
    refine am_g_steps H.1 td_Z_law 1 (q' := (bif decide (nI Ls - 4 < nI i) then 878 else 32, [some (.ref 40), some (.ref 0), some (.ref 19), some (.ref 37), some (.int (nI i)), none, none, none], [], wd C Y og)) rfl ?_
    refine gl_br (fun _ => ?_) (fun h => absurd ((lp_end hL hi).mpr (by omega)) h)
    refine am_g_steps H.1 td_Z_law 1 (q' := (879, [some (.ref 40), some (.ref 0), some (.ref 19), some (.ref 37), some (.int (nI i)), none, none, none], [.int 1], wd C Y og)) rfl ?_
    exact hret cells slots i _ (by omega) (by omega)
  | succ fu ih =>
    intro i cells slots C Y og I hi hfu hc1 hc2
    refine am_g_steps H.1 td_Z_law 2 (q' := (26, [some (.ref 40), some (.ref 0), some (.ref 19), some (.ref 37), some (.int (nI i)), none, none, none], [.ref 40, .int (nI i)], wd C Y og)) rfl ?_
    refine gl_slen H.1 H.2.1 H.2.2.1 H.2.2.2.1 (td_Z_law _ _ rfl) ?_
    refine am_g_steps H.1 td_Z_law 2 (q' := (29, [some (.ref 40), some (.ref 0), some (.ref 19), some (.ref 37), some (.int (nI i)), none, none, none], [.int (nI Ls - 4), .int (nI i)], wd C Y og)) rfl ?_
    refine am_g_steps H.1 td_Z_law 1 (q' := (bif decide (nI Ls - 4 < nI i) then 878 else 32, [some (.ref 40), some (.ref 0), some (.ref 19), some (.ref 37), some (.int (nI i)), none, none, none], [], wd C Y og)) rfl ?_
    refine gl_br (fun _ => ?_) (fun h => ?_)
    · refine am_g_steps H.1 td_Z_law 1 (q' := (879, [some (.ref 40), some (.ref 0), some (.ref 19), some (.ref 37), some (.int (nI i)), none, none, none], [.int 1], wd C Y og)) rfl ?_
      exact hret cells slots i _ (by omega) (by omega)
    have hi4 : i + 4 ≤ Ls := by
      have h9 : ¬ Ls < i + 4 := fun z => h ((lp_end hL hi).mpr z)
      omega
    have i0 : vp_in (nI i) Ls := by
      have := lp_vin (i := i) (j := 0) (Ls := Ls) (by omega) hL
      rwa [nI_add, Nat.add_zero] at this
    have i1 : vp_in (nI i + 1) Ls := lp_vin (i := i) (j := 1) (by omega) hL
    have i2 : vp_in (nI i + 2) Ls := lp_vin (i := i) (j := 2) (by omega) hL
    have i3 : vp_in (nI i + 3) Ls := lp_vin (i := i) (j := 3) (by omega) hL
    have hcs : cells + 1 ≤ 601024 ∧ slots + 6 ≤ 7293034 := ⟨by omega, by omega⟩
    have kn : ∀ cells' slots' (C' : wd_C) (Y' : wd_Y) (og' : Nat → Int64), cells' ≤ cells + 1 → slots' ≤ slots + 6 → lwV C' Y' → lwG D cA ad p l e s m args below meth c Q cells' slots' (872, [some (.ref 40), some (.ref 0), some (.ref 19), some (.ref 37), some (.int (nI i)), none, none, none], [], wd C' Y' og') := by
      intro cells' slots' C' Y' og' h1 h2 hV
      refine am_g_steps H.1 td_Z_law 2 (q' := (23, [some (.ref 40), some (.ref 0), some (.ref 19), some (.ref 37), some (.int (nI i + 4)), none, none, none], [], wd C' Y' og')) rfl ?_
      have e4 : nI i + 4 = nI (i + 4) := nI_add i 4
      rw [e4]
      exact ih (i + 4) cells' slots' C' Y' og' hV (by omega) (by omega) (by omega) (by omega)
    have kz := fun (C' : wd_C) (Y' : wd_Y) (og' : Nat → Int64) hV => kn (cells + 1) (slots + 6) C' Y' og' (Nat.le_refl _) (Nat.le_refl _) hV
    have kd := fun (C' : wd_C) (Y' : wd_Y) (og' : Nat → Int64) hV => kn cells slots C' Y' og' (Nat.le_succ _) (Nat.le_add_right _ _) hV
    refine am_g_steps H.1 td_Z_law 2 (q' := (35, [some (.ref 40), some (.ref 0), some (.ref 19), some (.ref 37), some (.int (nI i)), none, none, none], [.int (nI i), .ref 40], wd C Y og)) rfl ?_
    refine gl_sld H.1 H.2.1 H.2.2.1 H.2.2.2.1 i0 (td_Z_law _ _ rfl) ?_
    refine am_g_steps H.1 td_Z_law 2 (q' := (39, [some (.ref 40), some (.ref 0), some (.ref 19), some (.ref 37), some (.int (nI i)), none, none, none], [.int (xs (nI i).toNatClampNeg &&& 15)], wd C Y og)) rfl ?_
    refine gl_tsw H.1 td_Z_law rfl (by decide +kernel) ?_
    obtain ⟨j, hj, ej⟩ := and15 (xs (nI i).toNatClampNeg)
    rw [ej]
    rcases (show j = 0 ∨ j = 1 ∨ j = 2 ∨ j = 3 ∨ j = 4 ∨ j = 5 ∨ j = 6 ∨ j = 7 ∨ j = 8 ∨ j = 9 ∨ j = 10 ∨ j = 11 ∨ j = 12 ∨ j = 13 ∨ j = 14 ∨ j = 15 by omega) with rfl | rfl | rfl | rfl | rfl | rfl | rfl | rfl | rfl | rfl | rfl | rfl | rfl | rfl | rfl | rfl
    · exact lw_c_feed H I i1 i2 i3 hcs kz
    · exact lw_c_wipe H I i1 i2 i3 hcs kd
    · exact lw_c_read H I i1 i2 i3 hcs kd
    · exact lw_c_object H I i1 i2 i3 hcs kz
    · exact lw_c_find H I i1 i2 i3 hcs kd
    · exact lw_c_value H I i1 i2 i3 hcs kz
    · exact lw_c_number H I i1 i2 i3 hcs kz
    · exact lw_c_byteOf H I i1 i2 i3 hcs kz
    · exact lw_c_child H I i1 i2 i3 hcs kz
    · exact lw_c_lookup H I i1 i2 i3 hcs kz
    · exact lw_c_write H I i1 i2 i3 hcs kz
    · exact lw_c_out H I i1 i2 i3 hcs kd
    · exact lw_c_take H I i1 i2 i3 hcs kd
    · exact lw_c_told H I i1 i2 i3 hcs kz
    · exact kd C Y og I
    · exact kd C Y og I
end LWL
