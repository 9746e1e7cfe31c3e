/-! words of the reference, printed by wip/gen/g21.py -/
theorem lt_1 : ∀ j, j < 8 → (((116971008192101 : Int64) >>> ((nI (8 * j)).toInt64 &&& 63)) &&& 255).toInt32 = st_10.getD j 0 := by decide +kernel
theorem lz_1 : ∀ j, j < 10 → 7 < j → (0 : Int32) = st_10.getD j 0 := by decide +kernel
theorem lt_2 : ∀ j, j < 8 → (((120265081255027 : Int64) >>> ((nI (8 * j)).toInt64 &&& 63)) &&& 255).toInt32 = st_7.getD j 0 := by decide +kernel
theorem lz_2 : ∀ j, j < 10 → 7 < j → (0 : Int32) = st_7.getD j 0 := by decide +kernel
theorem lt_3 : ∀ j, j < 8 → (((6972015 : Int64) >>> ((nI (8 * j)).toInt64 &&& 63)) &&& 255).toInt32 = st_0.getD j 0 := by decide +kernel
theorem lz_3 : ∀ j, j < 10 → 7 < j → (0 : Int32) = st_0.getD j 0 := by decide +kernel
theorem lt_4 : ∀ j, j < 8 → (((1702195828 : Int64) >>> ((nI (8 * j)).toInt64 &&& 63)) &&& 255).toInt32 = st_5.getD j 0 := by decide +kernel
theorem lz_4 : ∀ j, j < 10 → 7 < j → (0 : Int32) = st_5.getD j 0 := by decide +kernel
theorem lt_5 : ∀ j, j < 8 → (((435728179558 : Int64) >>> ((nI (8 * j)).toInt64 &&& 63)) &&& 255).toInt32 = st_6.getD j 0 := by decide +kernel
theorem lz_5 : ∀ j, j < 10 → 7 < j → (0 : Int32) = st_6.getD j 0 := by decide +kernel
theorem lt_6 : ∀ j, j < 8 → (((1819047278 : Int64) >>> ((nI (8 * j)).toInt64 &&& 63)) &&& 255).toInt32 = st_4.getD j 0 := by decide +kernel
theorem lz_6 : ∀ j, j < 10 → 7 < j → (0 : Int32) = st_4.getD j 0 := by decide +kernel
theorem lt_7 : ∀ j, j < 8 → (((114849160783180 : Int64) >>> ((nI (8 * j)).toInt64 &&& 63)) &&& 255).toInt32 = st_8.getD j 0 := by decide +kernel
theorem lz_7 : ∀ j, j < 10 → 7 < j → (0 : Int32) = st_8.getD j 0 := by decide +kernel
theorem lt_8 : ∀ j, j < 8 → (((82 : Int64) >>> ((nI (8 * j)).toInt64 &&& 63)) &&& 255).toInt32 = st_3.getD j 0 := by decide +kernel
theorem lz_8 : ∀ j, j < 10 → 7 < j → (0 : Int32) = st_3.getD j 0 := by decide +kernel
theorem lt_0a : ∀ j, j < 3 → (((6581861 : Int64) >>> ((nI (8 * j)).toInt64 &&& 63)) &&& 255).toInt32 = st_9.getD j 0 := by decide +kernel
theorem lt_0b : ∀ j, j < 9 → 2 < j → (((120265081255027 : Int64) >>> ((nI (8 * (j - 3))).toInt64 &&& 63)) &&& 255).toInt32 = st_9.getD j 0 := by decide +kernel
theorem lz_0 : ∀ j, j < 10 → 8 < j → (0 : Int32) = st_9.getD j 0 := by decide +kernel
section C21
variable {l : Launch} {D : va_G} {cA : Nat → ClassId} {ad : Nat → Nat} {fm : Value}
set_option maxHeartbeats 4000000 in
set_option maxRecDepth 100000 in
theorem c_M_letter_0 (d : Nat) (C : wd_C) (Y : wd_Y) (og : Nat → Int64) (j : Nat) (hj : j < 10) : am_Mt l D cA ad fm (d + 0) m_M_letter [.int 0, .int (nI j)] (wd C Y og) (fun v w' => v = some (.int (st_9.getD j 0)) ∧ w' = wd C Y og) := by
  refine am_mt ok_M_letter (by simp [am_arg, Value.category, m_M_letter, am_ml]) ?_
  refine am_eq_r (q' := (0, [some (.int 0), some (.int (nI j)), none, none], [], wd C Y og)) rfl ?_
  refine am_steps_r ok_M_letter 19 (q' := (bif decide (3 ≤ (nI j)) then 86 else 75, [some (.int 0), some (.int (nI j)), some (.long 0), none], [], wd C Y og)) rfl ?_
  refine am_br_r (fun h_1 => ?_) (fun h_1 => ?_)
  · skip
    have h_1 : 3 ≤ j := (nI_leI (show 3 < 2 ^ 31 by omega) (show j < 2 ^ 31 by omega)).mp h_1
    refine am_steps_r ok_M_letter 3 (q' := (bif decide (9 ≤ (nI j)) then 105 else 92, [some (.int 0), some (.int (nI j)), some (.long 0), none], [], wd C Y og)) rfl ?_
    refine am_br_r (fun h_2 => ?_) (fun h_2 => ?_)
    · skip
      have h_2 : 9 ≤ j := (nI_leI (show 9 < 2 ^ 31 by omega) (show j < 2 ^ 31 by omega)).mp h_2
      refine am_steps_r ok_M_letter 20 (q' := (bif decide (8 < (nI j)) then 196 else 186, [some (.int 0), some (.int (nI j)), some (.long 0), none], [], wd C Y og)) rfl ?_
      refine am_br_r (fun h_3 => ?_) (fun h_3 => ?_)
      · skip
        have h_3 : 8 < j := (nI_ltI (show 8 < 2 ^ 31 by omega) (show j < 2 ^ 31 by omega)).mp h_3
        refine am_steps_r ok_M_letter 2 (q' := (206, [some (.int 0), some (.int (nI j)), some (.long 0), none], [.int 0], wd C Y og)) rfl ?_
        refine am_iret_r ok_M_letter rfl rfl rfl ?_
        first | (exfalso; omega) | exact ⟨congrArg (fun z => some (Value.int z)) (lt_0a j (by omega)), rfl⟩ | exact ⟨congrArg (fun z => some (Value.int z)) (lt_0b j (by omega) (by omega)), rfl⟩ | exact ⟨congrArg (fun z => some (Value.int z)) (lz_0 j hj (by omega)), rfl⟩
      · skip
        have h_3 : ¬ 8 < j := fun z => h_3 ((nI_ltI (show 8 < 2 ^ 31 by omega) (show j < 2 ^ 31 by omega)).mpr z)
        refine am_steps_r ok_M_letter 6 (q' := (206, [some (.int 0), some (.int (nI j)), some (.long 0), none], [.int ((0 &&& 255).toInt32)], wd C Y og)) rfl ?_
        refine am_iret_r ok_M_letter rfl rfl rfl ?_
        first | (exfalso; omega) | exact ⟨congrArg (fun z => some (Value.int z)) (lt_0a j (by omega)), rfl⟩ | exact ⟨congrArg (fun z => some (Value.int z)) (lt_0b j (by omega) (by omega)), rfl⟩ | exact ⟨congrArg (fun z => some (Value.int z)) (lz_0 j hj (by omega)), rfl⟩
    · skip
      have h_2 : ¬ 9 ≤ j := fun z => h_2 ((nI_leI (show 9 < 2 ^ 31 by omega) (show j < 2 ^ 31 by omega)).mpr z)
      refine am_steps_r ok_M_letter 26 (q' := (bif decide (8 < (nI j)) then 196 else 186, [some (.int 0), some (.int (nI j)), some (.long (120265081255027 >>> ((8 * ((nI j) - 3)).toInt64 &&& 63))), none], [], wd C Y og)) rfl ?_
      rw [show ((nI j) - 3 : Int32) = nI (j - 3) from pk_sub (a := j) (b := 3) (by omega)]
      rw [show (8 * (nI (j - 3)) : Int32) = nI (8 * (j - 3)) from pk_mul 8 (j - 3)]
      refine am_br_r (fun h_4 => ?_) (fun h_4 => ?_)
      · skip
        have h_4 : 8 < j := (nI_ltI (show 8 < 2 ^ 31 by omega) (show j < 2 ^ 31 by omega)).mp h_4
        refine am_steps_r ok_M_letter 2 (q' := (206, [some (.int 0), some (.int (nI j)), some (.long (120265081255027 >>> ((nI (8 * (j - 3))).toInt64 &&& 63))), none], [.int 0], wd C Y og)) rfl ?_
        refine am_iret_r ok_M_letter rfl rfl rfl ?_
        first | (exfalso; omega) | exact ⟨congrArg (fun z => some (Value.int z)) (lt_0a j (by omega)), rfl⟩ | exact ⟨congrArg (fun z => some (Value.int z)) (lt_0b j (by omega) (by omega)), rfl⟩ | exact ⟨congrArg (fun z => some (Value.int z)) (lz_0 j hj (by omega)), rfl⟩
      · skip
        have h_4 : ¬ 8 < j := fun z => h_4 ((nI_ltI (show 8 < 2 ^ 31 by omega) (show j < 2 ^ 31 by omega)).mpr z)
        refine am_steps_r ok_M_letter 6 (q' := (206, [some (.int 0), some (.int (nI j)), some (.long (120265081255027 >>> ((nI (8 * (j - 3))).toInt64 &&& 63))), none], [.int (((120265081255027 >>> ((nI (8 * (j - 3))).toInt64 &&& 63)) &&& 255).toInt32)], wd C Y og)) rfl ?_
        refine am_iret_r ok_M_letter rfl rfl rfl ?_
        first | (exfalso; omega) | exact ⟨congrArg (fun z => some (Value.int z)) (lt_0a j (by omega)), rfl⟩ | exact ⟨congrArg (fun z => some (Value.int z)) (lt_0b j (by omega) (by omega)), rfl⟩ | exact ⟨congrArg (fun z => some (Value.int z)) (lz_0 j hj (by omega)), rfl⟩
  · skip
    have h_1 : ¬ 3 ≤ j := fun z => h_1 ((nI_leI (show 3 < 2 ^ 31 by omega) (show j < 2 ^ 31 by omega)).mpr z)
    refine am_steps_r ok_M_letter 24 (q' := (bif decide (8 < (nI j)) then 196 else 186, [some (.int 0), some (.int (nI j)), some (.long (6581861 >>> ((8 * (nI j)).toInt64 &&& 63))), none], [], wd C Y og)) rfl ?_
    rw [show (8 * (nI j) : Int32) = nI (8 * j) from pk_mul 8 j]
    refine am_br_r (fun h_5 => ?_) (fun h_5 => ?_)
    · skip
      have h_5 : 8 < j := (nI_ltI (show 8 < 2 ^ 31 by omega) (show j < 2 ^ 31 by omega)).mp h_5
      refine am_steps_r ok_M_letter 2 (q' := (206, [some (.int 0), some (.int (nI j)), some (.long (6581861 >>> ((nI (8 * j)).toInt64 &&& 63))), none], [.int 0], wd C Y og)) rfl ?_
      refine am_iret_r ok_M_letter rfl rfl rfl ?_
      first | (exfalso; omega) | exact ⟨congrArg (fun z => some (Value.int z)) (lt_0a j (by omega)), rfl⟩ | exact ⟨congrArg (fun z => some (Value.int z)) (lt_0b j (by omega) (by omega)), rfl⟩ | exact ⟨congrArg (fun z => some (Value.int z)) (lz_0 j hj (by omega)), rfl⟩
    · skip
      have h_5 : ¬ 8 < j := fun z => h_5 ((nI_ltI (show 8 < 2 ^ 31 by omega) (show j < 2 ^ 31 by omega)).mpr z)
      refine am_steps_r ok_M_letter 6 (q' := (206, [some (.int 0), some (.int (nI j)), some (.long (6581861 >>> ((nI (8 * j)).toInt64 &&& 63))), none], [.int (((6581861 >>> ((nI (8 * j)).toInt64 &&& 63)) &&& 255).toInt32)], wd C Y og)) rfl ?_
      refine am_iret_r ok_M_letter rfl rfl rfl ?_
      first | (exfalso; omega) | exact ⟨congrArg (fun z => some (Value.int z)) (lt_0a j (by omega)), rfl⟩ | exact ⟨congrArg (fun z => some (Value.int z)) (lt_0b j (by omega) (by omega)), rfl⟩ | exact ⟨congrArg (fun z => some (Value.int z)) (lz_0 j hj (by omega)), rfl⟩
set_option maxHeartbeats 4000000 in
set_option maxRecDepth 100000 in
theorem c_M_letter_1 (d : Nat) (C : wd_C) (Y : wd_Y) (og : Nat → Int64) (j : Nat) (hj : j < 10) : am_Mt l D cA ad fm (d + 0) m_M_letter [.int 1, .int (nI j)] (wd C Y og) (fun v w' => v = some (.int (st_10.getD j 0)) ∧ w' = wd C Y og) := by
  refine am_mt ok_M_letter (by simp [am_arg, Value.category, m_M_letter, am_ml]) ?_
  refine am_eq_r (q' := (0, [some (.int 1), some (.int (nI j)), none, none], [], wd C Y og)) rfl ?_
  refine am_steps_r ok_M_letter 31 (q' := (bif decide (8 < (nI j)) then 196 else 186, [some (.int 1), some (.int (nI j)), some (.long (116971008192101 >>> ((8 * (nI j)).toInt64 &&& 63))), none], [], wd C Y og)) rfl ?_
  rw [show (8 * (nI j) : Int32) = nI (8 * j) from pk_mul 8 j]
  refine am_br_r (fun h_1 => ?_) (fun h_1 => ?_)
  · skip
    have h_1 : 8 < j := (nI_ltI (show 8 < 2 ^ 31 by omega) (show j < 2 ^ 31 by omega)).mp h_1
    refine am_steps_r ok_M_letter 2 (q' := (206, [some (.int 1), some (.int (nI j)), some (.long (116971008192101 >>> ((nI (8 * j)).toInt64 &&& 63))), none], [.int 0], wd C Y og)) rfl ?_
    refine am_iret_r ok_M_letter rfl rfl rfl ?_
    first | (exfalso; omega) | exact ⟨congrArg (fun z => some (Value.int z)) (lt_1 j (by omega)), rfl⟩ | exact ⟨congrArg (fun z => some (Value.int z)) (lz_1 j hj (by omega)), rfl⟩
  · skip
    have h_1 : ¬ 8 < j := fun z => h_1 ((nI_ltI (show 8 < 2 ^ 31 by omega) (show j < 2 ^ 31 by omega)).mpr z)
    refine am_steps_r ok_M_letter 5 (q' := (bif decide ((nI j) ≤ 7) then 200 else 196, [some (.int 1), some (.int (nI j)), some (.long (116971008192101 >>> ((nI (8 * j)).toInt64 &&& 63))), none], [], wd C Y og)) rfl ?_
    refine am_br_r (fun h_2 => ?_) (fun h_2 => ?_)
    · skip
      have h_2 : j ≤ 7 := (nI_leI (show j < 2 ^ 31 by omega) (show 7 < 2 ^ 31 by omega)).mp h_2
      refine am_steps_r ok_M_letter 4 (q' := (206, [some (.int 1), some (.int (nI j)), some (.long (116971008192101 >>> ((nI (8 * j)).toInt64 &&& 63))), none], [.int (((116971008192101 >>> ((nI (8 * j)).toInt64 &&& 63)) &&& 255).toInt32)], wd C Y og)) rfl ?_
      refine am_iret_r ok_M_letter rfl rfl rfl ?_
      first | (exfalso; omega) | exact ⟨congrArg (fun z => some (Value.int z)) (lt_1 j (by omega)), rfl⟩ | exact ⟨congrArg (fun z => some (Value.int z)) (lz_1 j hj (by omega)), rfl⟩
    · skip
      have h_2 : ¬ j ≤ 7 := fun z => h_2 ((nI_leI (show j < 2 ^ 31 by omega) (show 7 < 2 ^ 31 by omega)).mpr z)
      refine am_steps_r ok_M_letter 2 (q' := (206, [some (.int 1), some (.int (nI j)), some (.long (116971008192101 >>> ((nI (8 * j)).toInt64 &&& 63))), none], [.int 0], wd C Y og)) rfl ?_
      refine am_iret_r ok_M_letter rfl rfl rfl ?_
      first | (exfalso; omega) | exact ⟨congrArg (fun z => some (Value.int z)) (lt_1 j (by omega)), rfl⟩ | exact ⟨congrArg (fun z => some (Value.int z)) (lz_1 j hj (by omega)), rfl⟩
set_option maxHeartbeats 4000000 in
set_option maxRecDepth 100000 in
theorem c_M_letter_2 (d : Nat) (C : wd_C) (Y : wd_Y) (og : Nat → Int64) (j : Nat) (hj : j < 10) : am_Mt l D cA ad fm (d + 0) m_M_letter [.int 2, .int (nI j)] (wd C Y og) (fun v w' => v = some (.int (st_7.getD j 0)) ∧ w' = wd C Y og) := by
  refine am_mt ok_M_letter (by simp [am_arg, Value.category, m_M_letter, am_ml]) ?_
  refine am_eq_r (q' := (0, [some (.int 2), some (.int (nI j)), none, none], [], wd C Y og)) rfl ?_
  refine am_steps_r ok_M_letter 34 (q' := (bif decide (8 < (nI j)) then 196 else 186, [some (.int 2), some (.int (nI j)), some (.long (120265081255027 >>> ((8 * (nI j)).toInt64 &&& 63))), none], [], wd C Y og)) rfl ?_
  rw [show (8 * (nI j) : Int32) = nI (8 * j) from pk_mul 8 j]
  refine am_br_r (fun h_1 => ?_) (fun h_1 => ?_)
  · skip
    have h_1 : 8 < j := (nI_ltI (show 8 < 2 ^ 31 by omega) (show j < 2 ^ 31 by omega)).mp h_1
    refine am_steps_r ok_M_letter 2 (q' := (206, [some (.int 2), some (.int (nI j)), some (.long (120265081255027 >>> ((nI (8 * j)).toInt64 &&& 63))), none], [.int 0], wd C Y og)) rfl ?_
    refine am_iret_r ok_M_letter rfl rfl rfl ?_
    first | (exfalso; omega) | exact ⟨congrArg (fun z => some (Value.int z)) (lt_2 j (by omega)), rfl⟩ | exact ⟨congrArg (fun z => some (Value.int z)) (lz_2 j hj (by omega)), rfl⟩
  · skip
    have h_1 : ¬ 8 < j := fun z => h_1 ((nI_ltI (show 8 < 2 ^ 31 by omega) (show j < 2 ^ 31 by omega)).mpr z)
    refine am_steps_r ok_M_letter 5 (q' := (bif decide ((nI j) ≤ 7) then 200 else 196, [some (.int 2), some (.int (nI j)), some (.long (120265081255027 >>> ((nI (8 * j)).toInt64 &&& 63))), none], [], wd C Y og)) rfl ?_
    refine am_br_r (fun h_2 => ?_) (fun h_2 => ?_)
    · skip
      have h_2 : j ≤ 7 := (nI_leI (show j < 2 ^ 31 by omega) (show 7 < 2 ^ 31 by omega)).mp h_2
      refine am_steps_r ok_M_letter 4 (q' := (206, [some (.int 2), some (.int (nI j)), some (.long (120265081255027 >>> ((nI (8 * j)).toInt64 &&& 63))), none], [.int (((120265081255027 >>> ((nI (8 * j)).toInt64 &&& 63)) &&& 255).toInt32)], wd C Y og)) rfl ?_
      refine am_iret_r ok_M_letter rfl rfl rfl ?_
      first | (exfalso; omega) | exact ⟨congrArg (fun z => some (Value.int z)) (lt_2 j (by omega)), rfl⟩ | exact ⟨congrArg (fun z => some (Value.int z)) (lz_2 j hj (by omega)), rfl⟩
    · skip
      have h_2 : ¬ j ≤ 7 := fun z => h_2 ((nI_leI (show j < 2 ^ 31 by omega) (show 7 < 2 ^ 31 by omega)).mpr z)
      refine am_steps_r ok_M_letter 2 (q' := (206, [some (.int 2), some (.int (nI j)), some (.long (120265081255027 >>> ((nI (8 * j)).toInt64 &&& 63))), none], [.int 0], wd C Y og)) rfl ?_
      refine am_iret_r ok_M_letter rfl rfl rfl ?_
      first | (exfalso; omega) | exact ⟨congrArg (fun z => some (Value.int z)) (lt_2 j (by omega)), rfl⟩ | exact ⟨congrArg (fun z => some (Value.int z)) (lz_2 j hj (by omega)), rfl⟩
set_option maxHeartbeats 4000000 in
set_option maxRecDepth 100000 in
theorem c_M_letter_3 (d : Nat) (C : wd_C) (Y : wd_Y) (og : Nat → Int64) (j : Nat) (hj : j < 10) : am_Mt l D cA ad fm (d + 0) m_M_letter [.int 3, .int (nI j)] (wd C Y og) (fun v w' => v = some (.int (st_0.getD j 0)) ∧ w' = wd C Y og) := by
  refine am_mt ok_M_letter (by simp [am_arg, Value.category, m_M_letter, am_ml]) ?_
  refine am_eq_r (q' := (0, [some (.int 3), some (.int (nI j)), none, none], [], wd C Y og)) rfl ?_
  refine am_steps_r ok_M_letter 37 (q' := (bif decide (8 < (nI j)) then 196 else 186, [some (.int 3), some (.int (nI j)), some (.long (6972015 >>> ((8 * (nI j)).toInt64 &&& 63))), none], [], wd C Y og)) rfl ?_
  rw [show (8 * (nI j) : Int32) = nI (8 * j) from pk_mul 8 j]
  refine am_br_r (fun h_1 => ?_) (fun h_1 => ?_)
  · skip
    have h_1 : 8 < j := (nI_ltI (show 8 < 2 ^ 31 by omega) (show j < 2 ^ 31 by omega)).mp h_1
    refine am_steps_r ok_M_letter 2 (q' := (206, [some (.int 3), some (.int (nI j)), some (.long (6972015 >>> ((nI (8 * j)).toInt64 &&& 63))), none], [.int 0], wd C Y og)) rfl ?_
    refine am_iret_r ok_M_letter rfl rfl rfl ?_
    first | (exfalso; omega) | exact ⟨congrArg (fun z => some (Value.int z)) (lt_3 j (by omega)), rfl⟩ | exact ⟨congrArg (fun z => some (Value.int z)) (lz_3 j hj (by omega)), rfl⟩
  · skip
    have h_1 : ¬ 8 < j := fun z => h_1 ((nI_ltI (show 8 < 2 ^ 31 by omega) (show j < 2 ^ 31 by omega)).mpr z)
    refine am_steps_r ok_M_letter 5 (q' := (bif decide ((nI j) ≤ 7) then 200 else 196, [some (.int 3), some (.int (nI j)), some (.long (6972015 >>> ((nI (8 * j)).toInt64 &&& 63))), none], [], wd C Y og)) rfl ?_
    refine am_br_r (fun h_2 => ?_) (fun h_2 => ?_)
    · skip
      have h_2 : j ≤ 7 := (nI_leI (show j < 2 ^ 31 by omega) (show 7 < 2 ^ 31 by omega)).mp h_2
      refine am_steps_r ok_M_letter 4 (q' := (206, [some (.int 3), some (.int (nI j)), some (.long (6972015 >>> ((nI (8 * j)).toInt64 &&& 63))), none], [.int (((6972015 >>> ((nI (8 * j)).toInt64 &&& 63)) &&& 255).toInt32)], wd C Y og)) rfl ?_
      refine am_iret_r ok_M_letter rfl rfl rfl ?_
      first | (exfalso; omega) | exact ⟨congrArg (fun z => some (Value.int z)) (lt_3 j (by omega)), rfl⟩ | exact ⟨congrArg (fun z => some (Value.int z)) (lz_3 j hj (by omega)), rfl⟩
    · skip
      have h_2 : ¬ j ≤ 7 := fun z => h_2 ((nI_leI (show j < 2 ^ 31 by omega) (show 7 < 2 ^ 31 by omega)).mpr z)
      refine am_steps_r ok_M_letter 2 (q' := (206, [some (.int 3), some (.int (nI j)), some (.long (6972015 >>> ((nI (8 * j)).toInt64 &&& 63))), none], [.int 0], wd C Y og)) rfl ?_
      refine am_iret_r ok_M_letter rfl rfl rfl ?_
      first | (exfalso; omega) | exact ⟨congrArg (fun z => some (Value.int z)) (lt_3 j (by omega)), rfl⟩ | exact ⟨congrArg (fun z => some (Value.int z)) (lz_3 j hj (by omega)), rfl⟩
set_option maxHeartbeats 4000000 in
set_option maxRecDepth 100000 in
theorem c_M_letter_4 (d : Nat) (C : wd_C) (Y : wd_Y) (og : Nat → Int64) (j : Nat) (hj : j < 10) : am_Mt l D cA ad fm (d + 0) m_M_letter [.int 4, .int (nI j)] (wd C Y og) (fun v w' => v = some (.int (st_5.getD j 0)) ∧ w' = wd C Y og) := by
  refine am_mt ok_M_letter (by simp [am_arg, Value.category, m_M_letter, am_ml]) ?_
  refine am_eq_r (q' := (0, [some (.int 4), some (.int (nI j)), none, none], [], wd C Y og)) rfl ?_
  refine am_steps_r ok_M_letter 40 (q' := (bif decide (8 < (nI j)) then 196 else 186, [some (.int 4), some (.int (nI j)), some (.long (1702195828 >>> ((8 * (nI j)).toInt64 &&& 63))), none], [], wd C Y og)) rfl ?_
  rw [show (8 * (nI j) : Int32) = nI (8 * j) from pk_mul 8 j]
  refine am_br_r (fun h_1 => ?_) (fun h_1 => ?_)
  · skip
    have h_1 : 8 < j := (nI_ltI (show 8 < 2 ^ 31 by omega) (show j < 2 ^ 31 by omega)).mp h_1
    refine am_steps_r ok_M_letter 2 (q' := (206, [some (.int 4), some (.int (nI j)), some (.long (1702195828 >>> ((nI (8 * j)).toInt64 &&& 63))), none], [.int 0], wd C Y og)) rfl ?_
    refine am_iret_r ok_M_letter rfl rfl rfl ?_
    first | (exfalso; omega) | exact ⟨congrArg (fun z => some (Value.int z)) (lt_4 j (by omega)), rfl⟩ | exact ⟨congrArg (fun z => some (Value.int z)) (lz_4 j hj (by omega)), rfl⟩
  · skip
    have h_1 : ¬ 8 < j := fun z => h_1 ((nI_ltI (show 8 < 2 ^ 31 by omega) (show j < 2 ^ 31 by omega)).mpr z)
    refine am_steps_r ok_M_letter 5 (q' := (bif decide ((nI j) ≤ 7) then 200 else 196, [some (.int 4), some (.int (nI j)), some (.long (1702195828 >>> ((nI (8 * j)).toInt64 &&& 63))), none], [], wd C Y og)) rfl ?_
    refine am_br_r (fun h_2 => ?_) (fun h_2 => ?_)
    · skip
      have h_2 : j ≤ 7 := (nI_leI (show j < 2 ^ 31 by omega) (show 7 < 2 ^ 31 by omega)).mp h_2
      refine am_steps_r ok_M_letter 4 (q' := (206, [some (.int 4), some (.int (nI j)), some (.long (1702195828 >>> ((nI (8 * j)).toInt64 &&& 63))), none], [.int (((1702195828 >>> ((nI (8 * j)).toInt64 &&& 63)) &&& 255).toInt32)], wd C Y og)) rfl ?_
      refine am_iret_r ok_M_letter rfl rfl rfl ?_
      first | (exfalso; omega) | exact ⟨congrArg (fun z => some (Value.int z)) (lt_4 j (by omega)), rfl⟩ | exact ⟨congrArg (fun z => some (Value.int z)) (lz_4 j hj (by omega)), rfl⟩
    · skip
      have h_2 : ¬ j ≤ 7 := fun z => h_2 ((nI_leI (show j < 2 ^ 31 by omega) (show 7 < 2 ^ 31 by omega)).mpr z)
      refine am_steps_r ok_M_letter 2 (q' := (206, [some (.int 4), some (.int (nI j)), some (.long (1702195828 >>> ((nI (8 * j)).toInt64 &&& 63))), none], [.int 0], wd C Y og)) rfl ?_
      refine am_iret_r ok_M_letter rfl rfl rfl ?_
      first | (exfalso; omega) | exact ⟨congrArg (fun z => some (Value.int z)) (lt_4 j (by omega)), rfl⟩ | exact ⟨congrArg (fun z => some (Value.int z)) (lz_4 j hj (by omega)), rfl⟩
set_option maxHeartbeats 4000000 in
set_option maxRecDepth 100000 in
theorem c_M_letter_5 (d : Nat) (C : wd_C) (Y : wd_Y) (og : Nat → Int64) (j : Nat) (hj : j < 10) : am_Mt l D cA ad fm (d + 0) m_M_letter [.int 5, .int (nI j)] (wd C Y og) (fun v w' => v = some (.int (st_6.getD j 0)) ∧ w' = wd C Y og) := by
  refine am_mt ok_M_letter (by simp [am_arg, Value.category, m_M_letter, am_ml]) ?_
  refine am_eq_r (q' := (0, [some (.int 5), some (.int (nI j)), none, none], [], wd C Y og)) rfl ?_
  refine am_steps_r ok_M_letter 31 (q' := (bif decide (8 < (nI j)) then 196 else 186, [some (.int 5), some (.int (nI j)), some (.long (435728179558 >>> ((8 * (nI j)).toInt64 &&& 63))), none], [], wd C Y og)) rfl ?_
  rw [show (8 * (nI j) : Int32) = nI (8 * j) from pk_mul 8 j]
  refine am_br_r (fun h_1 => ?_) (fun h_1 => ?_)
  · skip
    have h_1 : 8 < j := (nI_ltI (show 8 < 2 ^ 31 by omega) (show j < 2 ^ 31 by omega)).mp h_1
    refine am_steps_r ok_M_letter 2 (q' := (206, [some (.int 5), some (.int (nI j)), some (.long (435728179558 >>> ((nI (8 * j)).toInt64 &&& 63))), none], [.int 0], wd C Y og)) rfl ?_
    refine am_iret_r ok_M_letter rfl rfl rfl ?_
    first | (exfalso; omega) | exact ⟨congrArg (fun z => some (Value.int z)) (lt_5 j (by omega)), rfl⟩ | exact ⟨congrArg (fun z => some (Value.int z)) (lz_5 j hj (by omega)), rfl⟩
  · skip
    have h_1 : ¬ 8 < j := fun z => h_1 ((nI_ltI (show 8 < 2 ^ 31 by omega) (show j < 2 ^ 31 by omega)).mpr z)
    refine am_steps_r ok_M_letter 5 (q' := (bif decide ((nI j) ≤ 7) then 200 else 196, [some (.int 5), some (.int (nI j)), some (.long (435728179558 >>> ((nI (8 * j)).toInt64 &&& 63))), none], [], wd C Y og)) rfl ?_
    refine am_br_r (fun h_2 => ?_) (fun h_2 => ?_)
    · skip
      have h_2 : j ≤ 7 := (nI_leI (show j < 2 ^ 31 by omega) (show 7 < 2 ^ 31 by omega)).mp h_2
      refine am_steps_r ok_M_letter 4 (q' := (206, [some (.int 5), some (.int (nI j)), some (.long (435728179558 >>> ((nI (8 * j)).toInt64 &&& 63))), none], [.int (((435728179558 >>> ((nI (8 * j)).toInt64 &&& 63)) &&& 255).toInt32)], wd C Y og)) rfl ?_
      refine am_iret_r ok_M_letter rfl rfl rfl ?_
      first | (exfalso; omega) | exact ⟨congrArg (fun z => some (Value.int z)) (lt_5 j (by omega)), rfl⟩ | exact ⟨congrArg (fun z => some (Value.int z)) (lz_5 j hj (by omega)), rfl⟩
    · skip
      have h_2 : ¬ j ≤ 7 := fun z => h_2 ((nI_leI (show j < 2 ^ 31 by omega) (show 7 < 2 ^ 31 by omega)).mpr z)
      refine am_steps_r ok_M_letter 2 (q' := (206, [some (.int 5), some (.int (nI j)), some (.long (435728179558 >>> ((nI (8 * j)).toInt64 &&& 63))), none], [.int 0], wd C Y og)) rfl ?_
      refine am_iret_r ok_M_letter rfl rfl rfl ?_
      first | (exfalso; omega) | exact ⟨congrArg (fun z => some (Value.int z)) (lt_5 j (by omega)), rfl⟩ | exact ⟨congrArg (fun z => some (Value.int z)) (lz_5 j hj (by omega)), rfl⟩
set_option maxHeartbeats 4000000 in
set_option maxRecDepth 100000 in
theorem c_M_letter_6 (d : Nat) (C : wd_C) (Y : wd_Y) (og : Nat → Int64) (j : Nat) (hj : j < 10) : am_Mt l D cA ad fm (d + 0) m_M_letter [.int 6, .int (nI j)] (wd C Y og) (fun v w' => v = some (.int (st_4.getD j 0)) ∧ w' = wd C Y og) := by
  refine am_mt ok_M_letter (by simp [am_arg, Value.category, m_M_letter, am_ml]) ?_
  refine am_eq_r (q' := (0, [some (.int 6), some (.int (nI j)), none, none], [], wd C Y og)) rfl ?_
  refine am_steps_r ok_M_letter 34 (q' := (bif decide (8 < (nI j)) then 196 else 186, [some (.int 6), some (.int (nI j)), some (.long (1819047278 >>> ((8 * (nI j)).toInt64 &&& 63))), none], [], wd C Y og)) rfl ?_
  rw [show (8 * (nI j) : Int32) = nI (8 * j) from pk_mul 8 j]
  refine am_br_r (fun h_1 => ?_) (fun h_1 => ?_)
  · skip
    have h_1 : 8 < j := (nI_ltI (show 8 < 2 ^ 31 by omega) (show j < 2 ^ 31 by omega)).mp h_1
    refine am_steps_r ok_M_letter 2 (q' := (206, [some (.int 6), some (.int (nI j)), some (.long (1819047278 >>> ((nI (8 * j)).toInt64 &&& 63))), none], [.int 0], wd C Y og)) rfl ?_
    refine am_iret_r ok_M_letter rfl rfl rfl ?_
    first | (exfalso; omega) | exact ⟨congrArg (fun z => some (Value.int z)) (lt_6 j (by omega)), rfl⟩ | exact ⟨congrArg (fun z => some (Value.int z)) (lz_6 j hj (by omega)), rfl⟩
  · skip
    have h_1 : ¬ 8 < j := fun z => h_1 ((nI_ltI (show 8 < 2 ^ 31 by omega) (show j < 2 ^ 31 by omega)).mpr z)
    refine am_steps_r ok_M_letter 5 (q' := (bif decide ((nI j) ≤ 7) then 200 else 196, [some (.int 6), some (.int (nI j)), some (.long (1819047278 >>> ((nI (8 * j)).toInt64 &&& 63))), none], [], wd C Y og)) rfl ?_
    refine am_br_r (fun h_2 => ?_) (fun h_2 => ?_)
    · skip
      have h_2 : j ≤ 7 := (nI_leI (show j < 2 ^ 31 by omega) (show 7 < 2 ^ 31 by omega)).mp h_2
      refine am_steps_r ok_M_letter 4 (q' := (206, [some (.int 6), some (.int (nI j)), some (.long (1819047278 >>> ((nI (8 * j)).toInt64 &&& 63))), none], [.int (((1819047278 >>> ((nI (8 * j)).toInt64 &&& 63)) &&& 255).toInt32)], wd C Y og)) rfl ?_
      refine am_iret_r ok_M_letter rfl rfl rfl ?_
      first | (exfalso; omega) | exact ⟨congrArg (fun z => some (Value.int z)) (lt_6 j (by omega)), rfl⟩ | exact ⟨congrArg (fun z => some (Value.int z)) (lz_6 j hj (by omega)), rfl⟩
    · skip
      have h_2 : ¬ j ≤ 7 := fun z => h_2 ((nI_leI (show j < 2 ^ 31 by omega) (show 7 < 2 ^ 31 by omega)).mpr z)
      refine am_steps_r ok_M_letter 2 (q' := (206, [some (.int 6), some (.int (nI j)), some (.long (1819047278 >>> ((nI (8 * j)).toInt64 &&& 63))), none], [.int 0], wd C Y og)) rfl ?_
      refine am_iret_r ok_M_letter rfl rfl rfl ?_
      first | (exfalso; omega) | exact ⟨congrArg (fun z => some (Value.int z)) (lt_6 j (by omega)), rfl⟩ | exact ⟨congrArg (fun z => some (Value.int z)) (lz_6 j hj (by omega)), rfl⟩
set_option maxHeartbeats 4000000 in
set_option maxRecDepth 100000 in
theorem c_M_letter_7 (d : Nat) (C : wd_C) (Y : wd_Y) (og : Nat → Int64) (j : Nat) (hj : j < 10) : am_Mt l D cA ad fm (d + 0) m_M_letter [.int 7, .int (nI j)] (wd C Y og) (fun v w' => v = some (.int (st_8.getD j 0)) ∧ w' = wd C Y og) := by
  refine am_mt ok_M_letter (by simp [am_arg, Value.category, m_M_letter, am_ml]) ?_
  refine am_eq_r (q' := (0, [some (.int 7), some (.int (nI j)), none, none], [], wd C Y og)) rfl ?_
  refine am_steps_r ok_M_letter 37 (q' := (bif decide (8 < (nI j)) then 196 else 186, [some (.int 7), some (.int (nI j)), some (.long (114849160783180 >>> ((8 * (nI j)).toInt64 &&& 63))), none], [], wd C Y og)) rfl ?_
  rw [show (8 * (nI j) : Int32) = nI (8 * j) from pk_mul 8 j]
  refine am_br_r (fun h_1 => ?_) (fun h_1 => ?_)
  · skip
    have h_1 : 8 < j := (nI_ltI (show 8 < 2 ^ 31 by omega) (show j < 2 ^ 31 by omega)).mp h_1
    refine am_steps_r ok_M_letter 2 (q' := (206, [some (.int 7), some (.int (nI j)), some (.long (114849160783180 >>> ((nI (8 * j)).toInt64 &&& 63))), none], [.int 0], wd C Y og)) rfl ?_
    refine am_iret_r ok_M_letter rfl rfl rfl ?_
    first | (exfalso; omega) | exact ⟨congrArg (fun z => some (Value.int z)) (lt_7 j (by omega)), rfl⟩ | exact ⟨congrArg (fun z => some (Value.int z)) (lz_7 j hj (by omega)), rfl⟩
  · skip
    have h_1 : ¬ 8 < j := fun z => h_1 ((nI_ltI (show 8 < 2 ^ 31 by omega) (show j < 2 ^ 31 by omega)).mpr z)
    refine am_steps_r ok_M_letter 5 (q' := (bif decide ((nI j) ≤ 7) then 200 else 196, [some (.int 7), some (.int (nI j)), some (.long (114849160783180 >>> ((nI (8 * j)).toInt64 &&& 63))), none], [], wd C Y og)) rfl ?_
    refine am_br_r (fun h_2 => ?_) (fun h_2 => ?_)
    · skip
      have h_2 : j ≤ 7 := (nI_leI (show j < 2 ^ 31 by omega) (show 7 < 2 ^ 31 by omega)).mp h_2
      refine am_steps_r ok_M_letter 4 (q' := (206, [some (.int 7), some (.int (nI j)), some (.long (114849160783180 >>> ((nI (8 * j)).toInt64 &&& 63))), none], [.int (((114849160783180 >>> ((nI (8 * j)).toInt64 &&& 63)) &&& 255).toInt32)], wd C Y og)) rfl ?_
      refine am_iret_r ok_M_letter rfl rfl rfl ?_
      first | (exfalso; omega) | exact ⟨congrArg (fun z => some (Value.int z)) (lt_7 j (by omega)), rfl⟩ | exact ⟨congrArg (fun z => some (Value.int z)) (lz_7 j hj (by omega)), rfl⟩
    · skip
      have h_2 : ¬ j ≤ 7 := fun z => h_2 ((nI_leI (show j < 2 ^ 31 by omega) (show 7 < 2 ^ 31 by omega)).mpr z)
      refine am_steps_r ok_M_letter 2 (q' := (206, [some (.int 7), some (.int (nI j)), some (.long (114849160783180 >>> ((nI (8 * j)).toInt64 &&& 63))), none], [.int 0], wd C Y og)) rfl ?_
      refine am_iret_r ok_M_letter rfl rfl rfl ?_
      first | (exfalso; omega) | exact ⟨congrArg (fun z => some (Value.int z)) (lt_7 j (by omega)), rfl⟩ | exact ⟨congrArg (fun z => some (Value.int z)) (lz_7 j hj (by omega)), rfl⟩
set_option maxHeartbeats 4000000 in
set_option maxRecDepth 100000 in
theorem c_M_letter_8 (d : Nat) (C : wd_C) (Y : wd_Y) (og : Nat → Int64) (j : Nat) (hj : j < 10) : am_Mt l D cA ad fm (d + 0) m_M_letter [.int 8, .int (nI j)] (wd C Y og) (fun v w' => v = some (.int (st_3.getD j 0)) ∧ w' = wd C Y og) := by
  refine am_mt ok_M_letter (by simp [am_arg, Value.category, m_M_letter, am_ml]) ?_
  refine am_eq_r (q' := (0, [some (.int 8), some (.int (nI j)), none, none], [], wd C Y og)) rfl ?_
  refine am_steps_r ok_M_letter 40 (q' := (bif decide (8 < (nI j)) then 196 else 186, [some (.int 8), some (.int (nI j)), some (.long (82 >>> ((8 * (nI j)).toInt64 &&& 63))), none], [], wd C Y og)) rfl ?_
  rw [show (8 * (nI j) : Int32) = nI (8 * j) from pk_mul 8 j]
  refine am_br_r (fun h_1 => ?_) (fun h_1 => ?_)
  · skip
    have h_1 : 8 < j := (nI_ltI (show 8 < 2 ^ 31 by omega) (show j < 2 ^ 31 by omega)).mp h_1
    refine am_steps_r ok_M_letter 2 (q' := (206, [some (.int 8), some (.int (nI j)), some (.long (82 >>> ((nI (8 * j)).toInt64 &&& 63))), none], [.int 0], wd C Y og)) rfl ?_
    refine am_iret_r ok_M_letter rfl rfl rfl ?_
    first | (exfalso; omega) | exact ⟨congrArg (fun z => some (Value.int z)) (lt_8 j (by omega)), rfl⟩ | exact ⟨congrArg (fun z => some (Value.int z)) (lz_8 j hj (by omega)), rfl⟩
  · skip
    have h_1 : ¬ 8 < j := fun z => h_1 ((nI_ltI (show 8 < 2 ^ 31 by omega) (show j < 2 ^ 31 by omega)).mpr z)
    refine am_steps_r ok_M_letter 5 (q' := (bif decide ((nI j) ≤ 7) then 200 else 196, [some (.int 8), some (.int (nI j)), some (.long (82 >>> ((nI (8 * j)).toInt64 &&& 63))), none], [], wd C Y og)) rfl ?_
    refine am_br_r (fun h_2 => ?_) (fun h_2 => ?_)
    · skip
      have h_2 : j ≤ 7 := (nI_leI (show j < 2 ^ 31 by omega) (show 7 < 2 ^ 31 by omega)).mp h_2
      refine am_steps_r ok_M_letter 4 (q' := (206, [some (.int 8), some (.int (nI j)), some (.long (82 >>> ((nI (8 * j)).toInt64 &&& 63))), none], [.int (((82 >>> ((nI (8 * j)).toInt64 &&& 63)) &&& 255).toInt32)], wd C Y og)) rfl ?_
      refine am_iret_r ok_M_letter rfl rfl rfl ?_
      first | (exfalso; omega) | exact ⟨congrArg (fun z => some (Value.int z)) (lt_8 j (by omega)), rfl⟩ | exact ⟨congrArg (fun z => some (Value.int z)) (lz_8 j hj (by omega)), rfl⟩
    · skip
      have h_2 : ¬ j ≤ 7 := fun z => h_2 ((nI_leI (show j < 2 ^ 31 by omega) (show 7 < 2 ^ 31 by omega)).mpr z)
      refine am_steps_r ok_M_letter 2 (q' := (206, [some (.int 8), some (.int (nI j)), some (.long (82 >>> ((nI (8 * j)).toInt64 &&& 63))), none], [.int 0], wd C Y og)) rfl ?_
      refine am_iret_r ok_M_letter rfl rfl rfl ?_
      first | (exfalso; omega) | exact ⟨congrArg (fun z => some (Value.int z)) (lt_8 j (by omega)), rfl⟩ | exact ⟨congrArg (fun z => some (Value.int z)) (lz_8 j hj (by omega)), rfl⟩
set_option maxHeartbeats 4000000 in
set_option maxRecDepth 100000 in
theorem c_M_letters_0 (d : Nat) (C : wd_C) (Y : wd_Y) (og : Nat → Int64)  : am_Mt l D cA ad fm (d + 1) m_M_letters [.int 0] (wd C Y og) (fun v w' => v = some (.int 9) ∧ w' = wd C Y og) := by
  refine am_mt ok_M_letters (by simp [am_arg, Value.category, m_M_letters, am_ml]) ?_
  refine am_eq_r (q' := (0, [some (.int 0), none], [], wd C Y og)) rfl ?_
  refine am_steps_r ok_M_letters 4 (q' := (4, [some (.int 0), some (.int 0)], [.int 0, .int 0], wd C Y og)) rfl ?_
  refine am_callS_r (As := [.int 0, .int 0]) (rest := []) ok_M_letters rfl rfl ok_M_letter os_M_letter lk_6_106 rfl rfl (Nat.le_of_ble_eq_true rfl) (c_M_letter_0 _ C Y og 0 (by omega)) ?_
  rintro v_ w_ ⟨rfl, rfl⟩ -
  refine am_eq_r (q' := (7, [some (.int 0), some (.int 0)], [.int 101], wd C Y og)) rfl ?_
  refine am_steps_r ok_M_letters 5 (q' := (4, [some (.int 0), some (.int 1)], [.int 1, .int 0], wd C Y og)) rfl ?_
  refine am_callS_r (As := [.int 0, .int 1]) (rest := []) ok_M_letters rfl rfl ok_M_letter os_M_letter lk_6_106 rfl rfl (Nat.le_of_ble_eq_true rfl) (c_M_letter_0 _ C Y og 1 (by omega)) ?_
  rintro v_ w_ ⟨rfl, rfl⟩ -
  refine am_eq_r (q' := (7, [some (.int 0), some (.int 1)], [.int 110], wd C Y og)) rfl ?_
  refine am_steps_r ok_M_letters 5 (q' := (4, [some (.int 0), some (.int 2)], [.int 2, .int 0], wd C Y og)) rfl ?_
  refine am_callS_r (As := [.int 0, .int 2]) (rest := []) ok_M_letters rfl rfl ok_M_letter os_M_letter lk_6_106 rfl rfl (Nat.le_of_ble_eq_true rfl) (c_M_letter_0 _ C Y og 2 (by omega)) ?_
  rintro v_ w_ ⟨rfl, rfl⟩ -
  refine am_eq_r (q' := (7, [some (.int 0), some (.int 2)], [.int 100], wd C Y og)) rfl ?_
  refine am_steps_r ok_M_letters 5 (q' := (4, [some (.int 0), some (.int 3)], [.int 3, .int 0], wd C Y og)) rfl ?_
  refine am_callS_r (As := [.int 0, .int 3]) (rest := []) ok_M_letters rfl rfl ok_M_letter os_M_letter lk_6_106 rfl rfl (Nat.le_of_ble_eq_true rfl) (c_M_letter_0 _ C Y og 3 (by omega)) ?_
  rintro v_ w_ ⟨rfl, rfl⟩ -
  refine am_eq_r (q' := (7, [some (.int 0), some (.int 3)], [.int 115], wd C Y og)) rfl ?_
  refine am_steps_r ok_M_letters 5 (q' := (4, [some (.int 0), some (.int 4)], [.int 4, .int 0], wd C Y og)) rfl ?_
  refine am_callS_r (As := [.int 0, .int 4]) (rest := []) ok_M_letters rfl rfl ok_M_letter os_M_letter lk_6_106 rfl rfl (Nat.le_of_ble_eq_true rfl) (c_M_letter_0 _ C Y og 4 (by omega)) ?_
  rintro v_ w_ ⟨rfl, rfl⟩ -
  refine am_eq_r (q' := (7, [some (.int 0), some (.int 4)], [.int 116], wd C Y og)) rfl ?_
  refine am_steps_r ok_M_letters 5 (q' := (4, [some (.int 0), some (.int 5)], [.int 5, .int 0], wd C Y og)) rfl ?_
  refine am_callS_r (As := [.int 0, .int 5]) (rest := []) ok_M_letters rfl rfl ok_M_letter os_M_letter lk_6_106 rfl rfl (Nat.le_of_ble_eq_true rfl) (c_M_letter_0 _ C Y og 5 (by omega)) ?_
  rintro v_ w_ ⟨rfl, rfl⟩ -
  refine am_eq_r (q' := (7, [some (.int 0), some (.int 5)], [.int 114], wd C Y og)) rfl ?_
  refine am_steps_r ok_M_letters 5 (q' := (4, [some (.int 0), some (.int 6)], [.int 6, .int 0], wd C Y og)) rfl ?_
  refine am_callS_r (As := [.int 0, .int 6]) (rest := []) ok_M_letters rfl rfl ok_M_letter os_M_letter lk_6_106 rfl rfl (Nat.le_of_ble_eq_true rfl) (c_M_letter_0 _ C Y og 6 (by omega)) ?_
  rintro v_ w_ ⟨rfl, rfl⟩ -
  refine am_eq_r (q' := (7, [some (.int 0), some (.int 6)], [.int 101], wd C Y og)) rfl ?_
  refine am_steps_r ok_M_letters 5 (q' := (4, [some (.int 0), some (.int 7)], [.int 7, .int 0], wd C Y og)) rfl ?_
  refine am_callS_r (As := [.int 0, .int 7]) (rest := []) ok_M_letters rfl rfl ok_M_letter os_M_letter lk_6_106 rfl rfl (Nat.le_of_ble_eq_true rfl) (c_M_letter_0 _ C Y og 7 (by omega)) ?_
  rintro v_ w_ ⟨rfl, rfl⟩ -
  refine am_eq_r (q' := (7, [some (.int 0), some (.int 7)], [.int 97], wd C Y og)) rfl ?_
  refine am_steps_r ok_M_letters 5 (q' := (4, [some (.int 0), some (.int 8)], [.int 8, .int 0], wd C Y og)) rfl ?_
  refine am_callS_r (As := [.int 0, .int 8]) (rest := []) ok_M_letters rfl rfl ok_M_letter os_M_letter lk_6_106 rfl rfl (Nat.le_of_ble_eq_true rfl) (c_M_letter_0 _ C Y og 8 (by omega)) ?_
  rintro v_ w_ ⟨rfl, rfl⟩ -
  refine am_eq_r (q' := (7, [some (.int 0), some (.int 8)], [.int 109], wd C Y og)) rfl ?_
  refine am_steps_r ok_M_letters 5 (q' := (4, [some (.int 0), some (.int 9)], [.int 9, .int 0], wd C Y og)) rfl ?_
  refine am_callS_r (As := [.int 0, .int 9]) (rest := []) ok_M_letters rfl rfl ok_M_letter os_M_letter lk_6_106 rfl rfl (Nat.le_of_ble_eq_true rfl) (c_M_letter_0 _ C Y og 9 (by omega)) ?_
  rintro v_ w_ ⟨rfl, rfl⟩ -
  refine am_eq_r (q' := (7, [some (.int 0), some (.int 9)], [.int 0], wd C Y og)) rfl ?_
  refine am_steps_r ok_M_letters 2 (q' := (17, [some (.int 0), some (.int 9)], [.int 9], wd C Y og)) rfl ?_
  refine am_iret_r ok_M_letters rfl rfl rfl ?_
  exact ⟨rfl, rfl⟩
set_option maxHeartbeats 4000000 in
set_option maxRecDepth 100000 in
theorem c_M_letters_1 (d : Nat) (C : wd_C) (Y : wd_Y) (og : Nat → Int64)  : am_Mt l D cA ad fm (d + 1) m_M_letters [.int 1] (wd C Y og) (fun v w' => v = some (.int 6) ∧ w' = wd C Y og) := by
  refine am_mt ok_M_letters (by simp [am_arg, Value.category, m_M_letters, am_ml]) ?_
  refine am_eq_r (q' := (0, [some (.int 1), none], [], wd C Y og)) rfl ?_
  refine am_steps_r ok_M_letters 4 (q' := (4, [some (.int 1), some (.int 0)], [.int 0, .int 1], wd C Y og)) rfl ?_
  refine am_callS_r (As := [.int 1, .int 0]) (rest := []) ok_M_letters rfl rfl ok_M_letter os_M_letter lk_6_106 rfl rfl (Nat.le_of_ble_eq_true rfl) (c_M_letter_1 _ C Y og 0 (by omega)) ?_
  rintro v_ w_ ⟨rfl, rfl⟩ -
  refine am_eq_r (q' := (7, [some (.int 1), some (.int 0)], [.int 101], wd C Y og)) rfl ?_
  refine am_steps_r ok_M_letters 5 (q' := (4, [some (.int 1), some (.int 1)], [.int 1, .int 1], wd C Y og)) rfl ?_
  refine am_callS_r (As := [.int 1, .int 1]) (rest := []) ok_M_letters rfl rfl ok_M_letter os_M_letter lk_6_106 rfl rfl (Nat.le_of_ble_eq_true rfl) (c_M_letter_1 _ C Y og 1 (by omega)) ?_
  rintro v_ w_ ⟨rfl, rfl⟩ -
  refine am_eq_r (q' := (7, [some (.int 1), some (.int 1)], [.int 110], wd C Y og)) rfl ?_
  refine am_steps_r ok_M_letters 5 (q' := (4, [some (.int 1), some (.int 2)], [.int 2, .int 1], wd C Y og)) rfl ?_
  refine am_callS_r (As := [.int 1, .int 2]) (rest := []) ok_M_letters rfl rfl ok_M_letter os_M_letter lk_6_106 rfl rfl (Nat.le_of_ble_eq_true rfl) (c_M_letter_1 _ C Y og 2 (by omega)) ?_
  rintro v_ w_ ⟨rfl, rfl⟩ -
  refine am_eq_r (q' := (7, [some (.int 1), some (.int 2)], [.int 100], wd C Y og)) rfl ?_
  refine am_steps_r ok_M_letters 5 (q' := (4, [some (.int 1), some (.int 3)], [.int 3, .int 1], wd C Y og)) rfl ?_
  refine am_callS_r (As := [.int 1, .int 3]) (rest := []) ok_M_letters rfl rfl ok_M_letter os_M_letter lk_6_106 rfl rfl (Nat.le_of_ble_eq_true rfl) (c_M_letter_1 _ C Y og 3 (by omega)) ?_
  rintro v_ w_ ⟨rfl, rfl⟩ -
  refine am_eq_r (q' := (7, [some (.int 1), some (.int 3)], [.int 111], wd C Y og)) rfl ?_
  refine am_steps_r ok_M_letters 5 (q' := (4, [some (.int 1), some (.int 4)], [.int 4, .int 1], wd C Y og)) rfl ?_
  refine am_callS_r (As := [.int 1, .int 4]) (rest := []) ok_M_letters rfl rfl ok_M_letter os_M_letter lk_6_106 rfl rfl (Nat.le_of_ble_eq_true rfl) (c_M_letter_1 _ C Y og 4 (by omega)) ?_
  rintro v_ w_ ⟨rfl, rfl⟩ -
  refine am_eq_r (q' := (7, [some (.int 1), some (.int 4)], [.int 98], wd C Y og)) rfl ?_
  refine am_steps_r ok_M_letters 5 (q' := (4, [some (.int 1), some (.int 5)], [.int 5, .int 1], wd C Y og)) rfl ?_
  refine am_callS_r (As := [.int 1, .int 5]) (rest := []) ok_M_letters rfl rfl ok_M_letter os_M_letter lk_6_106 rfl rfl (Nat.le_of_ble_eq_true rfl) (c_M_letter_1 _ C Y og 5 (by omega)) ?_
  rintro v_ w_ ⟨rfl, rfl⟩ -
  refine am_eq_r (q' := (7, [some (.int 1), some (.int 5)], [.int 106], wd C Y og)) rfl ?_
  refine am_steps_r ok_M_letters 5 (q' := (4, [some (.int 1), some (.int 6)], [.int 6, .int 1], wd C Y og)) rfl ?_
  refine am_callS_r (As := [.int 1, .int 6]) (rest := []) ok_M_letters rfl rfl ok_M_letter os_M_letter lk_6_106 rfl rfl (Nat.le_of_ble_eq_true rfl) (c_M_letter_1 _ C Y og 6 (by omega)) ?_
  rintro v_ w_ ⟨rfl, rfl⟩ -
  refine am_eq_r (q' := (7, [some (.int 1), some (.int 6)], [.int 0], wd C Y og)) rfl ?_
  refine am_steps_r ok_M_letters 2 (q' := (17, [some (.int 1), some (.int 6)], [.int 6], wd C Y og)) rfl ?_
  refine am_iret_r ok_M_letters rfl rfl rfl ?_
  exact ⟨rfl, rfl⟩
set_option maxHeartbeats 4000000 in
set_option maxRecDepth 100000 in
theorem c_M_letters_2 (d : Nat) (C : wd_C) (Y : wd_Y) (og : Nat → Int64)  : am_Mt l D cA ad fm (d + 1) m_M_letters [.int 2] (wd C Y og) (fun v w' => v = some (.int 6) ∧ w' = wd C Y og) := by
  refine am_mt ok_M_letters (by simp [am_arg, Value.category, m_M_letters, am_ml]) ?_
  refine am_eq_r (q' := (0, [some (.int 2), none], [], wd C Y og)) rfl ?_
  refine am_steps_r ok_M_letters 4 (q' := (4, [some (.int 2), some (.int 0)], [.int 0, .int 2], wd C Y og)) rfl ?_
  refine am_callS_r (As := [.int 2, .int 0]) (rest := []) ok_M_letters rfl rfl ok_M_letter os_M_letter lk_6_106 rfl rfl (Nat.le_of_ble_eq_true rfl) (c_M_letter_2 _ C Y og 0 (by omega)) ?_
  rintro v_ w_ ⟨rfl, rfl⟩ -
  refine am_eq_r (q' := (7, [some (.int 2), some (.int 0)], [.int 115], wd C Y og)) rfl ?_
  refine am_steps_r ok_M_letters 5 (q' := (4, [some (.int 2), some (.int 1)], [.int 1, .int 2], wd C Y og)) rfl ?_
  refine am_callS_r (As := [.int 2, .int 1]) (rest := []) ok_M_letters rfl rfl ok_M_letter os_M_letter lk_6_106 rfl rfl (Nat.le_of_ble_eq_true rfl) (c_M_letter_2 _ C Y og 1 (by omega)) ?_
  rintro v_ w_ ⟨rfl, rfl⟩ -
  refine am_eq_r (q' := (7, [some (.int 2), some (.int 1)], [.int 116], wd C Y og)) rfl ?_
  refine am_steps_r ok_M_letters 5 (q' := (4, [some (.int 2), some (.int 2)], [.int 2, .int 2], wd C Y og)) rfl ?_
  refine am_callS_r (As := [.int 2, .int 2]) (rest := []) ok_M_letters rfl rfl ok_M_letter os_M_letter lk_6_106 rfl rfl (Nat.le_of_ble_eq_true rfl) (c_M_letter_2 _ C Y og 2 (by omega)) ?_
  rintro v_ w_ ⟨rfl, rfl⟩ -
  refine am_eq_r (q' := (7, [some (.int 2), some (.int 2)], [.int 114], wd C Y og)) rfl ?_
  refine am_steps_r ok_M_letters 5 (q' := (4, [some (.int 2), some (.int 3)], [.int 3, .int 2], wd C Y og)) rfl ?_
  refine am_callS_r (As := [.int 2, .int 3]) (rest := []) ok_M_letters rfl rfl ok_M_letter os_M_letter lk_6_106 rfl rfl (Nat.le_of_ble_eq_true rfl) (c_M_letter_2 _ C Y og 3 (by omega)) ?_
  rintro v_ w_ ⟨rfl, rfl⟩ -
  refine am_eq_r (q' := (7, [some (.int 2), some (.int 3)], [.int 101], wd C Y og)) rfl ?_
  refine am_steps_r ok_M_letters 5 (q' := (4, [some (.int 2), some (.int 4)], [.int 4, .int 2], wd C Y og)) rfl ?_
  refine am_callS_r (As := [.int 2, .int 4]) (rest := []) ok_M_letters rfl rfl ok_M_letter os_M_letter lk_6_106 rfl rfl (Nat.le_of_ble_eq_true rfl) (c_M_letter_2 _ C Y og 4 (by omega)) ?_
  rintro v_ w_ ⟨rfl, rfl⟩ -
  refine am_eq_r (q' := (7, [some (.int 2), some (.int 4)], [.int 97], wd C Y og)) rfl ?_
  refine am_steps_r ok_M_letters 5 (q' := (4, [some (.int 2), some (.int 5)], [.int 5, .int 2], wd C Y og)) rfl ?_
  refine am_callS_r (As := [.int 2, .int 5]) (rest := []) ok_M_letters rfl rfl ok_M_letter os_M_letter lk_6_106 rfl rfl (Nat.le_of_ble_eq_true rfl) (c_M_letter_2 _ C Y og 5 (by omega)) ?_
  rintro v_ w_ ⟨rfl, rfl⟩ -
  refine am_eq_r (q' := (7, [some (.int 2), some (.int 5)], [.int 109], wd C Y og)) rfl ?_
  refine am_steps_r ok_M_letters 5 (q' := (4, [some (.int 2), some (.int 6)], [.int 6, .int 2], wd C Y og)) rfl ?_
  refine am_callS_r (As := [.int 2, .int 6]) (rest := []) ok_M_letters rfl rfl ok_M_letter os_M_letter lk_6_106 rfl rfl (Nat.le_of_ble_eq_true rfl) (c_M_letter_2 _ C Y og 6 (by omega)) ?_
  rintro v_ w_ ⟨rfl, rfl⟩ -
  refine am_eq_r (q' := (7, [some (.int 2), some (.int 6)], [.int 0], wd C Y og)) rfl ?_
  refine am_steps_r ok_M_letters 2 (q' := (17, [some (.int 2), some (.int 6)], [.int 6], wd C Y og)) rfl ?_
  refine am_iret_r ok_M_letters rfl rfl rfl ?_
  exact ⟨rfl, rfl⟩
set_option maxHeartbeats 4000000 in
set_option maxRecDepth 100000 in
theorem c_M_letters_3 (d : Nat) (C : wd_C) (Y : wd_Y) (og : Nat → Int64)  : am_Mt l D cA ad fm (d + 1) m_M_letters [.int 3] (wd C Y og) (fun v w' => v = some (.int 3) ∧ w' = wd C Y og) := by
  refine am_mt ok_M_letters (by simp [am_arg, Value.category, m_M_letters, am_ml]) ?_
  refine am_eq_r (q' := (0, [some (.int 3), none], [], wd C Y og)) rfl ?_
  refine am_steps_r ok_M_letters 4 (q' := (4, [some (.int 3), some (.int 0)], [.int 0, .int 3], wd C Y og)) rfl ?_
  refine am_callS_r (As := [.int 3, .int 0]) (rest := []) ok_M_letters rfl rfl ok_M_letter os_M_letter lk_6_106 rfl rfl (Nat.le_of_ble_eq_true rfl) (c_M_letter_3 _ C Y og 0 (by omega)) ?_
  rintro v_ w_ ⟨rfl, rfl⟩ -
  refine am_eq_r (q' := (7, [some (.int 3), some (.int 0)], [.int 111], wd C Y og)) rfl ?_
  refine am_steps_r ok_M_letters 5 (q' := (4, [some (.int 3), some (.int 1)], [.int 1, .int 3], wd C Y og)) rfl ?_
  refine am_callS_r (As := [.int 3, .int 1]) (rest := []) ok_M_letters rfl rfl ok_M_letter os_M_letter lk_6_106 rfl rfl (Nat.le_of_ble_eq_true rfl) (c_M_letter_3 _ C Y og 1 (by omega)) ?_
  rintro v_ w_ ⟨rfl, rfl⟩ -
  refine am_eq_r (q' := (7, [some (.int 3), some (.int 1)], [.int 98], wd C Y og)) rfl ?_
  refine am_steps_r ok_M_letters 5 (q' := (4, [some (.int 3), some (.int 2)], [.int 2, .int 3], wd C Y og)) rfl ?_
  refine am_callS_r (As := [.int 3, .int 2]) (rest := []) ok_M_letters rfl rfl ok_M_letter os_M_letter lk_6_106 rfl rfl (Nat.le_of_ble_eq_true rfl) (c_M_letter_3 _ C Y og 2 (by omega)) ?_
  rintro v_ w_ ⟨rfl, rfl⟩ -
  refine am_eq_r (q' := (7, [some (.int 3), some (.int 2)], [.int 106], wd C Y og)) rfl ?_
  refine am_steps_r ok_M_letters 5 (q' := (4, [some (.int 3), some (.int 3)], [.int 3, .int 3], wd C Y og)) rfl ?_
  refine am_callS_r (As := [.int 3, .int 3]) (rest := []) ok_M_letters rfl rfl ok_M_letter os_M_letter lk_6_106 rfl rfl (Nat.le_of_ble_eq_true rfl) (c_M_letter_3 _ C Y og 3 (by omega)) ?_
  rintro v_ w_ ⟨rfl, rfl⟩ -
  refine am_eq_r (q' := (7, [some (.int 3), some (.int 3)], [.int 0], wd C Y og)) rfl ?_
  refine am_steps_r ok_M_letters 2 (q' := (17, [some (.int 3), some (.int 3)], [.int 3], wd C Y og)) rfl ?_
  refine am_iret_r ok_M_letters rfl rfl rfl ?_
  exact ⟨rfl, rfl⟩
set_option maxHeartbeats 4000000 in
set_option maxRecDepth 100000 in
theorem c_M_letters_4 (d : Nat) (C : wd_C) (Y : wd_Y) (og : Nat → Int64)  : am_Mt l D cA ad fm (d + 1) m_M_letters [.int 4] (wd C Y og) (fun v w' => v = some (.int 4) ∧ w' = wd C Y og) := by
  refine am_mt ok_M_letters (by simp [am_arg, Value.category, m_M_letters, am_ml]) ?_
  refine am_eq_r (q' := (0, [some (.int 4), none], [], wd C Y og)) rfl ?_
  refine am_steps_r ok_M_letters 4 (q' := (4, [some (.int 4), some (.int 0)], [.int 0, .int 4], wd C Y og)) rfl ?_
  refine am_callS_r (As := [.int 4, .int 0]) (rest := []) ok_M_letters rfl rfl ok_M_letter os_M_letter lk_6_106 rfl rfl (Nat.le_of_ble_eq_true rfl) (c_M_letter_4 _ C Y og 0 (by omega)) ?_
  rintro v_ w_ ⟨rfl, rfl⟩ -
  refine am_eq_r (q' := (7, [some (.int 4), some (.int 0)], [.int 116], wd C Y og)) rfl ?_
  refine am_steps_r ok_M_letters 5 (q' := (4, [some (.int 4), some (.int 1)], [.int 1, .int 4], wd C Y og)) rfl ?_
  refine am_callS_r (As := [.int 4, .int 1]) (rest := []) ok_M_letters rfl rfl ok_M_letter os_M_letter lk_6_106 rfl rfl (Nat.le_of_ble_eq_true rfl) (c_M_letter_4 _ C Y og 1 (by omega)) ?_
  rintro v_ w_ ⟨rfl, rfl⟩ -
  refine am_eq_r (q' := (7, [some (.int 4), some (.int 1)], [.int 114], wd C Y og)) rfl ?_
  refine am_steps_r ok_M_letters 5 (q' := (4, [some (.int 4), some (.int 2)], [.int 2, .int 4], wd C Y og)) rfl ?_
  refine am_callS_r (As := [.int 4, .int 2]) (rest := []) ok_M_letters rfl rfl ok_M_letter os_M_letter lk_6_106 rfl rfl (Nat.le_of_ble_eq_true rfl) (c_M_letter_4 _ C Y og 2 (by omega)) ?_
  rintro v_ w_ ⟨rfl, rfl⟩ -
  refine am_eq_r (q' := (7, [some (.int 4), some (.int 2)], [.int 117], wd C Y og)) rfl ?_
  refine am_steps_r ok_M_letters 5 (q' := (4, [some (.int 4), some (.int 3)], [.int 3, .int 4], wd C Y og)) rfl ?_
  refine am_callS_r (As := [.int 4, .int 3]) (rest := []) ok_M_letters rfl rfl ok_M_letter os_M_letter lk_6_106 rfl rfl (Nat.le_of_ble_eq_true rfl) (c_M_letter_4 _ C Y og 3 (by omega)) ?_
  rintro v_ w_ ⟨rfl, rfl⟩ -
  refine am_eq_r (q' := (7, [some (.int 4), some (.int 3)], [.int 101], wd C Y og)) rfl ?_
  refine am_steps_r ok_M_letters 5 (q' := (4, [some (.int 4), some (.int 4)], [.int 4, .int 4], wd C Y og)) rfl ?_
  refine am_callS_r (As := [.int 4, .int 4]) (rest := []) ok_M_letters rfl rfl ok_M_letter os_M_letter lk_6_106 rfl rfl (Nat.le_of_ble_eq_true rfl) (c_M_letter_4 _ C Y og 4 (by omega)) ?_
  rintro v_ w_ ⟨rfl, rfl⟩ -
  refine am_eq_r (q' := (7, [some (.int 4), some (.int 4)], [.int 0], wd C Y og)) rfl ?_
  refine am_steps_r ok_M_letters 2 (q' := (17, [some (.int 4), some (.int 4)], [.int 4], wd C Y og)) rfl ?_
  refine am_iret_r ok_M_letters rfl rfl rfl ?_
  exact ⟨rfl, rfl⟩
set_option maxHeartbeats 4000000 in
set_option maxRecDepth 100000 in
theorem c_M_letters_5 (d : Nat) (C : wd_C) (Y : wd_Y) (og : Nat → Int64)  : am_Mt l D cA ad fm (d + 1) m_M_letters [.int 5] (wd C Y og) (fun v w' => v = some (.int 5) ∧ w' = wd C Y og) := by
  refine am_mt ok_M_letters (by simp [am_arg, Value.category, m_M_letters, am_ml]) ?_
  refine am_eq_r (q' := (0, [some (.int 5), none], [], wd C Y og)) rfl ?_
  refine am_steps_r ok_M_letters 4 (q' := (4, [some (.int 5), some (.int 0)], [.int 0, .int 5], wd C Y og)) rfl ?_
  refine am_callS_r (As := [.int 5, .int 0]) (rest := []) ok_M_letters rfl rfl ok_M_letter os_M_letter lk_6_106 rfl rfl (Nat.le_of_ble_eq_true rfl) (c_M_letter_5 _ C Y og 0 (by omega)) ?_
  rintro v_ w_ ⟨rfl, rfl⟩ -
  refine am_eq_r (q' := (7, [some (.int 5), some (.int 0)], [.int 102], wd C Y og)) rfl ?_
  refine am_steps_r ok_M_letters 5 (q' := (4, [some (.int 5), some (.int 1)], [.int 1, .int 5], wd C Y og)) rfl ?_
  refine am_callS_r (As := [.int 5, .int 1]) (rest := []) ok_M_letters rfl rfl ok_M_letter os_M_letter lk_6_106 rfl rfl (Nat.le_of_ble_eq_true rfl) (c_M_letter_5 _ C Y og 1 (by omega)) ?_
  rintro v_ w_ ⟨rfl, rfl⟩ -
  refine am_eq_r (q' := (7, [some (.int 5), some (.int 1)], [.int 97], wd C Y og)) rfl ?_
  refine am_steps_r ok_M_letters 5 (q' := (4, [some (.int 5), some (.int 2)], [.int 2, .int 5], wd C Y og)) rfl ?_
  refine am_callS_r (As := [.int 5, .int 2]) (rest := []) ok_M_letters rfl rfl ok_M_letter os_M_letter lk_6_106 rfl rfl (Nat.le_of_ble_eq_true rfl) (c_M_letter_5 _ C Y og 2 (by omega)) ?_
  rintro v_ w_ ⟨rfl, rfl⟩ -
  refine am_eq_r (q' := (7, [some (.int 5), some (.int 2)], [.int 108], wd C Y og)) rfl ?_
  refine am_steps_r ok_M_letters 5 (q' := (4, [some (.int 5), some (.int 3)], [.int 3, .int 5], wd C Y og)) rfl ?_
  refine am_callS_r (As := [.int 5, .int 3]) (rest := []) ok_M_letters rfl rfl ok_M_letter os_M_letter lk_6_106 rfl rfl (Nat.le_of_ble_eq_true rfl) (c_M_letter_5 _ C Y og 3 (by omega)) ?_
  rintro v_ w_ ⟨rfl, rfl⟩ -
  refine am_eq_r (q' := (7, [some (.int 5), some (.int 3)], [.int 115], wd C Y og)) rfl ?_
  refine am_steps_r ok_M_letters 5 (q' := (4, [some (.int 5), some (.int 4)], [.int 4, .int 5], wd C Y og)) rfl ?_
  refine am_callS_r (As := [.int 5, .int 4]) (rest := []) ok_M_letters rfl rfl ok_M_letter os_M_letter lk_6_106 rfl rfl (Nat.le_of_ble_eq_true rfl) (c_M_letter_5 _ C Y og 4 (by omega)) ?_
  rintro v_ w_ ⟨rfl, rfl⟩ -
  refine am_eq_r (q' := (7, [some (.int 5), some (.int 4)], [.int 101], wd C Y og)) rfl ?_
  refine am_steps_r ok_M_letters 5 (q' := (4, [some (.int 5), some (.int 5)], [.int 5, .int 5], wd C Y og)) rfl ?_
  refine am_callS_r (As := [.int 5, .int 5]) (rest := []) ok_M_letters rfl rfl ok_M_letter os_M_letter lk_6_106 rfl rfl (Nat.le_of_ble_eq_true rfl) (c_M_letter_5 _ C Y og 5 (by omega)) ?_
  rintro v_ w_ ⟨rfl, rfl⟩ -
  refine am_eq_r (q' := (7, [some (.int 5), some (.int 5)], [.int 0], wd C Y og)) rfl ?_
  refine am_steps_r ok_M_letters 2 (q' := (17, [some (.int 5), some (.int 5)], [.int 5], wd C Y og)) rfl ?_
  refine am_iret_r ok_M_letters rfl rfl rfl ?_
  exact ⟨rfl, rfl⟩
set_option maxHeartbeats 4000000 in
set_option maxRecDepth 100000 in
theorem c_M_letters_6 (d : Nat) (C : wd_C) (Y : wd_Y) (og : Nat → Int64)  : am_Mt l D cA ad fm (d + 1) m_M_letters [.int 6] (wd C Y og) (fun v w' => v = some (.int 4) ∧ w' = wd C Y og) := by
  refine am_mt ok_M_letters (by simp [am_arg, Value.category, m_M_letters, am_ml]) ?_
  refine am_eq_r (q' := (0, [some (.int 6), none], [], wd C Y og)) rfl ?_
  refine am_steps_r ok_M_letters 4 (q' := (4, [some (.int 6), some (.int 0)], [.int 0, .int 6], wd C Y og)) rfl ?_
  refine am_callS_r (As := [.int 6, .int 0]) (rest := []) ok_M_letters rfl rfl ok_M_letter os_M_letter lk_6_106 rfl rfl (Nat.le_of_ble_eq_true rfl) (c_M_letter_6 _ C Y og 0 (by omega)) ?_
  rintro v_ w_ ⟨rfl, rfl⟩ -
  refine am_eq_r (q' := (7, [some (.int 6), some (.int 0)], [.int 110], wd C Y og)) rfl ?_
  refine am_steps_r ok_M_letters 5 (q' := (4, [some (.int 6), some (.int 1)], [.int 1, .int 6], wd C Y og)) rfl ?_
  refine am_callS_r (As := [.int 6, .int 1]) (rest := []) ok_M_letters rfl rfl ok_M_letter os_M_letter lk_6_106 rfl rfl (Nat.le_of_ble_eq_true rfl) (c_M_letter_6 _ C Y og 1 (by omega)) ?_
  rintro v_ w_ ⟨rfl, rfl⟩ -
  refine am_eq_r (q' := (7, [some (.int 6), some (.int 1)], [.int 117], wd C Y og)) rfl ?_
  refine am_steps_r ok_M_letters 5 (q' := (4, [some (.int 6), some (.int 2)], [.int 2, .int 6], wd C Y og)) rfl ?_
  refine am_callS_r (As := [.int 6, .int 2]) (rest := []) ok_M_letters rfl rfl ok_M_letter os_M_letter lk_6_106 rfl rfl (Nat.le_of_ble_eq_true rfl) (c_M_letter_6 _ C Y og 2 (by omega)) ?_
  rintro v_ w_ ⟨rfl, rfl⟩ -
  refine am_eq_r (q' := (7, [some (.int 6), some (.int 2)], [.int 108], wd C Y og)) rfl ?_
  refine am_steps_r ok_M_letters 5 (q' := (4, [some (.int 6), some (.int 3)], [.int 3, .int 6], wd C Y og)) rfl ?_
  refine am_callS_r (As := [.int 6, .int 3]) (rest := []) ok_M_letters rfl rfl ok_M_letter os_M_letter lk_6_106 rfl rfl (Nat.le_of_ble_eq_true rfl) (c_M_letter_6 _ C Y og 3 (by omega)) ?_
  rintro v_ w_ ⟨rfl, rfl⟩ -
  refine am_eq_r (q' := (7, [some (.int 6), some (.int 3)], [.int 108], wd C Y og)) rfl ?_
  refine am_steps_r ok_M_letters 5 (q' := (4, [some (.int 6), some (.int 4)], [.int 4, .int 6], wd C Y og)) rfl ?_
  refine am_callS_r (As := [.int 6, .int 4]) (rest := []) ok_M_letters rfl rfl ok_M_letter os_M_letter lk_6_106 rfl rfl (Nat.le_of_ble_eq_true rfl) (c_M_letter_6 _ C Y og 4 (by omega)) ?_
  rintro v_ w_ ⟨rfl, rfl⟩ -
  refine am_eq_r (q' := (7, [some (.int 6), some (.int 4)], [.int 0], wd C Y og)) rfl ?_
  refine am_steps_r ok_M_letters 2 (q' := (17, [some (.int 6), some (.int 4)], [.int 4], wd C Y og)) rfl ?_
  refine am_iret_r ok_M_letters rfl rfl rfl ?_
  exact ⟨rfl, rfl⟩
set_option maxHeartbeats 4000000 in
set_option maxRecDepth 100000 in
theorem c_M_letters_7 (d : Nat) (C : wd_C) (Y : wd_Y) (og : Nat → Int64)  : am_Mt l D cA ad fm (d + 1) m_M_letters [.int 7] (wd C Y og) (fun v w' => v = some (.int 6) ∧ w' = wd C Y og) := by
  refine am_mt ok_M_letters (by simp [am_arg, Value.category, m_M_letters, am_ml]) ?_
  refine am_eq_r (q' := (0, [some (.int 7), none], [], wd C Y og)) rfl ?_
  refine am_steps_r ok_M_letters 4 (q' := (4, [some (.int 7), some (.int 0)], [.int 0, .int 7], wd C Y og)) rfl ?_
  refine am_callS_r (As := [.int 7, .int 0]) (rest := []) ok_M_letters rfl rfl ok_M_letter os_M_letter lk_6_106 rfl rfl (Nat.le_of_ble_eq_true rfl) (c_M_letter_7 _ C Y og 0 (by omega)) ?_
  rintro v_ w_ ⟨rfl, rfl⟩ -
  refine am_eq_r (q' := (7, [some (.int 7), some (.int 0)], [.int 76], wd C Y og)) rfl ?_
  refine am_steps_r ok_M_letters 5 (q' := (4, [some (.int 7), some (.int 1)], [.int 1, .int 7], wd C Y og)) rfl ?_
  refine am_callS_r (As := [.int 7, .int 1]) (rest := []) ok_M_letters rfl rfl ok_M_letter os_M_letter lk_6_106 rfl rfl (Nat.le_of_ble_eq_true rfl) (c_M_letter_7 _ C Y og 1 (by omega)) ?_
  rintro v_ w_ ⟨rfl, rfl⟩ -
  refine am_eq_r (q' := (7, [some (.int 7), some (.int 1)], [.int 101], wd C Y og)) rfl ?_
  refine am_steps_r ok_M_letters 5 (q' := (4, [some (.int 7), some (.int 2)], [.int 2, .int 7], wd C Y og)) rfl ?_
  refine am_callS_r (As := [.int 7, .int 2]) (rest := []) ok_M_letters rfl rfl ok_M_letter os_M_letter lk_6_106 rfl rfl (Nat.le_of_ble_eq_true rfl) (c_M_letter_7 _ C Y og 2 (by omega)) ?_
  rintro v_ w_ ⟨rfl, rfl⟩ -
  refine am_eq_r (q' := (7, [some (.int 7), some (.int 2)], [.int 110], wd C Y og)) rfl ?_
  refine am_steps_r ok_M_letters 5 (q' := (4, [some (.int 7), some (.int 3)], [.int 3, .int 7], wd C Y og)) rfl ?_
  refine am_callS_r (As := [.int 7, .int 3]) (rest := []) ok_M_letters rfl rfl ok_M_letter os_M_letter lk_6_106 rfl rfl (Nat.le_of_ble_eq_true rfl) (c_M_letter_7 _ C Y og 3 (by omega)) ?_
  rintro v_ w_ ⟨rfl, rfl⟩ -
  refine am_eq_r (q' := (7, [some (.int 7), some (.int 3)], [.int 103], wd C Y og)) rfl ?_
  refine am_steps_r ok_M_letters 5 (q' := (4, [some (.int 7), some (.int 4)], [.int 4, .int 7], wd C Y og)) rfl ?_
  refine am_callS_r (As := [.int 7, .int 4]) (rest := []) ok_M_letters rfl rfl ok_M_letter os_M_letter lk_6_106 rfl rfl (Nat.le_of_ble_eq_true rfl) (c_M_letter_7 _ C Y og 4 (by omega)) ?_
  rintro v_ w_ ⟨rfl, rfl⟩ -
  refine am_eq_r (q' := (7, [some (.int 7), some (.int 4)], [.int 116], wd C Y og)) rfl ?_
  refine am_steps_r ok_M_letters 5 (q' := (4, [some (.int 7), some (.int 5)], [.int 5, .int 7], wd C Y og)) rfl ?_
  refine am_callS_r (As := [.int 7, .int 5]) (rest := []) ok_M_letters rfl rfl ok_M_letter os_M_letter lk_6_106 rfl rfl (Nat.le_of_ble_eq_true rfl) (c_M_letter_7 _ C Y og 5 (by omega)) ?_
  rintro v_ w_ ⟨rfl, rfl⟩ -
  refine am_eq_r (q' := (7, [some (.int 7), some (.int 5)], [.int 104], wd C Y og)) rfl ?_
  refine am_steps_r ok_M_letters 5 (q' := (4, [some (.int 7), some (.int 6)], [.int 6, .int 7], wd C Y og)) rfl ?_
  refine am_callS_r (As := [.int 7, .int 6]) (rest := []) ok_M_letters rfl rfl ok_M_letter os_M_letter lk_6_106 rfl rfl (Nat.le_of_ble_eq_true rfl) (c_M_letter_7 _ C Y og 6 (by omega)) ?_
  rintro v_ w_ ⟨rfl, rfl⟩ -
  refine am_eq_r (q' := (7, [some (.int 7), some (.int 6)], [.int 0], wd C Y og)) rfl ?_
  refine am_steps_r ok_M_letters 2 (q' := (17, [some (.int 7), some (.int 6)], [.int 6], wd C Y og)) rfl ?_
  refine am_iret_r ok_M_letters rfl rfl rfl ?_
  exact ⟨rfl, rfl⟩
set_option maxHeartbeats 4000000 in
set_option maxRecDepth 100000 in
theorem c_M_letters_8 (d : Nat) (C : wd_C) (Y : wd_Y) (og : Nat → Int64)  : am_Mt l D cA ad fm (d + 1) m_M_letters [.int 8] (wd C Y og) (fun v w' => v = some (.int 1) ∧ w' = wd C Y og) := by
  refine am_mt ok_M_letters (by simp [am_arg, Value.category, m_M_letters, am_ml]) ?_
  refine am_eq_r (q' := (0, [some (.int 8), none], [], wd C Y og)) rfl ?_
  refine am_steps_r ok_M_letters 4 (q' := (4, [some (.int 8), some (.int 0)], [.int 0, .int 8], wd C Y og)) rfl ?_
  refine am_callS_r (As := [.int 8, .int 0]) (rest := []) ok_M_letters rfl rfl ok_M_letter os_M_letter lk_6_106 rfl rfl (Nat.le_of_ble_eq_true rfl) (c_M_letter_8 _ C Y og 0 (by omega)) ?_
  rintro v_ w_ ⟨rfl, rfl⟩ -
  refine am_eq_r (q' := (7, [some (.int 8), some (.int 0)], [.int 82], wd C Y og)) rfl ?_
  refine am_steps_r ok_M_letters 5 (q' := (4, [some (.int 8), some (.int 1)], [.int 1, .int 8], wd C Y og)) rfl ?_
  refine am_callS_r (As := [.int 8, .int 1]) (rest := []) ok_M_letters rfl rfl ok_M_letter os_M_letter lk_6_106 rfl rfl (Nat.le_of_ble_eq_true rfl) (c_M_letter_8 _ C Y og 1 (by omega)) ?_
  rintro v_ w_ ⟨rfl, rfl⟩ -
  refine am_eq_r (q' := (7, [some (.int 8), some (.int 1)], [.int 0], wd C Y og)) rfl ?_
  refine am_steps_r ok_M_letters 2 (q' := (17, [some (.int 8), some (.int 1)], [.int 1], wd C Y og)) rfl ?_
  refine am_iret_r ok_M_letters rfl rfl rfl ?_
  exact ⟨rfl, rfl⟩
set_option maxHeartbeats 4000000 in
set_option maxRecDepth 100000 in
theorem c_M_spells_0 (d : Nat) (C : wd_C) (Y : wd_Y) (og : Nat → Int64) (n : Nat) (b : Nat → Int32) (hT : tpY Y n b) (k : Nat) (hk : k < 1073741000) : am_Mt l D cA ad fm (d + 1) m_M_spells [.ref 19, .int (nI k), .int 0] (wd C Y og) (fun v w' => v = some (.int (bz (txA b st_9 k))) ∧ w' = wd C Y og) := by
  refine am_mt ok_M_spells (by simp [am_arg, Value.category, m_M_spells, am_ml]) ?_
  refine am_eq_r (q' := (0, [some (.ref 19), some (.int (nI k)), some (.int 0), none], [], wd C Y og)) rfl ?_
  refine am_steps_r ok_M_spells 4 (q' := (4, [some (.ref 19), some (.int (nI k)), some (.int 0), some (.int 0)], [.int 0, .int 0], wd C Y og)) rfl ?_
  refine am_callS_r (As := [.int 0, .int 0]) (rest := []) ok_M_spells rfl rfl ok_M_letter os_M_letter lk_6_106 rfl rfl (Nat.le_of_ble_eq_true rfl) (c_M_letter_0 _ C Y og 0 (by omega)) ?_
  rintro v_ w_ ⟨rfl, rfl⟩ -
  refine am_eq_r (q' := (7, [some (.ref 19), some (.int (nI k)), some (.int 0), some (.int 0)], [.int 101], wd C Y og)) rfl ?_
  refine am_steps_r ok_M_spells 5 (q' := (14, [some (.ref 19), some (.int (nI k)), some (.int 0), some (.int 0)], [.int ((nI k) + 0), .ref 19], wd C Y og)) rfl ?_
  rw [show ((nI k) + 0 : Int32) = nI (k + 0) from nI_add k 0]
  refine am_callV_r (As := [.int (nI (k + 0))]) (rest := []) ok_M_spells rfl rfl ok_M_byteAt oi_M_byteAt lk_6_78 (Or.inl ⟨_, _, _, rfl, rfl, rfl⟩) rfl rfl (Nat.le_of_ble_eq_true rfl) (c_M_byteAt _ C Y og n b hT (k + 0) (by omega)) ?_
  rintro v_ w_ ⟨rfl, rfl⟩ -
  refine am_eq_r (q' := (17, [some (.ref 19), some (.int (nI k)), some (.int 0), some (.int 0)], [.int (b (k + 0))], wd C Y og)) rfl ?_
  refine am_steps_r ok_M_spells 2 (q' := (19, [some (.ref 19), some (.int (nI k)), some (.int 0), some (.int 0)], [.int 0, .int 0, .int (b (k + 0))], wd C Y og)) rfl ?_
  refine am_callS_r (As := [.int 0, .int 0]) (rest := [.int (b (k + 0))]) ok_M_spells rfl rfl ok_M_letter os_M_letter lk_6_106 rfl rfl (Nat.le_of_ble_eq_true rfl) (c_M_letter_0 _ C Y og 0 (by omega)) ?_
  rintro v_ w_ ⟨rfl, rfl⟩ -
  refine am_eq_r (q' := (22, [some (.ref 19), some (.int (nI k)), some (.int 0), some (.int 0)], [.int 101, .int (b (k + 0))], wd C Y og)) rfl ?_
  refine am_steps_r ok_M_spells 1 (q' := (bif decide ((b (k + 0)) = 101) then 27 else 25, [some (.ref 19), some (.int (nI k)), some (.int 0), some (.int 0)], [], wd C Y og)) rfl ?_
  refine am_br_r (fun h_4 => ?_) (fun h_4 => ?_)
  · skip
    refine am_steps_r ok_M_spells 4 (q' := (4, [some (.ref 19), some (.int (nI k)), some (.int 0), some (.int 1)], [.int 1, .int 0], wd C Y og)) rfl ?_
    refine am_callS_r (As := [.int 0, .int 1]) (rest := []) ok_M_spells rfl rfl ok_M_letter os_M_letter lk_6_106 rfl rfl (Nat.le_of_ble_eq_true rfl) (c_M_letter_0 _ C Y og 1 (by omega)) ?_
    rintro v_ w_ ⟨rfl, rfl⟩ -
    refine am_eq_r (q' := (7, [some (.ref 19), some (.int (nI k)), some (.int 0), some (.int 1)], [.int 110], wd C Y og)) rfl ?_
    refine am_steps_r ok_M_spells 5 (q' := (14, [some (.ref 19), some (.int (nI k)), some (.int 0), some (.int 1)], [.int ((nI k) + 1), .ref 19], wd C Y og)) rfl ?_
    rw [show ((nI k) + 1 : Int32) = nI (k + 1) from nI_add k 1]
    refine am_callV_r (As := [.int (nI (k + 1))]) (rest := []) ok_M_spells rfl rfl ok_M_byteAt oi_M_byteAt lk_6_78 (Or.inl ⟨_, _, _, rfl, rfl, rfl⟩) rfl rfl (Nat.le_of_ble_eq_true rfl) (c_M_byteAt _ C Y og n b hT (k + 1) (by omega)) ?_
    rintro v_ w_ ⟨rfl, rfl⟩ -
    refine am_eq_r (q' := (17, [some (.ref 19), some (.int (nI k)), some (.int 0), some (.int 1)], [.int (b (k + 1))], wd C Y og)) rfl ?_
    refine am_steps_r ok_M_spells 2 (q' := (19, [some (.ref 19), some (.int (nI k)), some (.int 0), some (.int 1)], [.int 1, .int 0, .int (b (k + 1))], wd C Y og)) rfl ?_
    refine am_callS_r (As := [.int 0, .int 1]) (rest := [.int (b (k + 1))]) ok_M_spells rfl rfl ok_M_letter os_M_letter lk_6_106 rfl rfl (Nat.le_of_ble_eq_true rfl) (c_M_letter_0 _ C Y og 1 (by omega)) ?_
    rintro v_ w_ ⟨rfl, rfl⟩ -
    refine am_eq_r (q' := (22, [some (.ref 19), some (.int (nI k)), some (.int 0), some (.int 1)], [.int 110, .int (b (k + 1))], wd C Y og)) rfl ?_
    refine am_steps_r ok_M_spells 1 (q' := (bif decide ((b (k + 1)) = 110) then 27 else 25, [some (.ref 19), some (.int (nI k)), some (.int 0), some (.int 1)], [], wd C Y og)) rfl ?_
    refine am_br_r (fun h_8 => ?_) (fun h_8 => ?_)
    · skip
      refine am_steps_r ok_M_spells 4 (q' := (4, [some (.ref 19), some (.int (nI k)), some (.int 0), some (.int 2)], [.int 2, .int 0], wd C Y og)) rfl ?_
      refine am_callS_r (As := [.int 0, .int 2]) (rest := []) ok_M_spells rfl rfl ok_M_letter os_M_letter lk_6_106 rfl rfl (Nat.le_of_ble_eq_true rfl) (c_M_letter_0 _ C Y og 2 (by omega)) ?_
      rintro v_ w_ ⟨rfl, rfl⟩ -
      refine am_eq_r (q' := (7, [some (.ref 19), some (.int (nI k)), some (.int 0), some (.int 2)], [.int 100], wd C Y og)) rfl ?_
      refine am_steps_r ok_M_spells 5 (q' := (14, [some (.ref 19), some (.int (nI k)), some (.int 0), some (.int 2)], [.int ((nI k) + 2), .ref 19], wd C Y og)) rfl ?_
      rw [show ((nI k) + 2 : Int32) = nI (k + 2) from nI_add k 2]
      refine am_callV_r (As := [.int (nI (k + 2))]) (rest := []) ok_M_spells rfl rfl ok_M_byteAt oi_M_byteAt lk_6_78 (Or.inl ⟨_, _, _, rfl, rfl, rfl⟩) rfl rfl (Nat.le_of_ble_eq_true rfl) (c_M_byteAt _ C Y og n b hT (k + 2) (by omega)) ?_
      rintro v_ w_ ⟨rfl, rfl⟩ -
      refine am_eq_r (q' := (17, [some (.ref 19), some (.int (nI k)), some (.int 0), some (.int 2)], [.int (b (k + 2))], wd C Y og)) rfl ?_
      refine am_steps_r ok_M_spells 2 (q' := (19, [some (.ref 19), some (.int (nI k)), some (.int 0), some (.int 2)], [.int 2, .int 0, .int (b (k + 2))], wd C Y og)) rfl ?_
      refine am_callS_r (As := [.int 0, .int 2]) (rest := [.int (b (k + 2))]) ok_M_spells rfl rfl ok_M_letter os_M_letter lk_6_106 rfl rfl (Nat.le_of_ble_eq_true rfl) (c_M_letter_0 _ C Y og 2 (by omega)) ?_
      rintro v_ w_ ⟨rfl, rfl⟩ -
      refine am_eq_r (q' := (22, [some (.ref 19), some (.int (nI k)), some (.int 0), some (.int 2)], [.int 100, .int (b (k + 2))], wd C Y og)) rfl ?_
      refine am_steps_r ok_M_spells 1 (q' := (bif decide ((b (k + 2)) = 100) then 27 else 25, [some (.ref 19), some (.int (nI k)), some (.int 0), some (.int 2)], [], wd C Y og)) rfl ?_
      refine am_br_r (fun h_12 => ?_) (fun h_12 => ?_)
      · skip
        refine am_steps_r ok_M_spells 4 (q' := (4, [some (.ref 19), some (.int (nI k)), some (.int 0), some (.int 3)], [.int 3, .int 0], wd C Y og)) rfl ?_
        refine am_callS_r (As := [.int 0, .int 3]) (rest := []) ok_M_spells rfl rfl ok_M_letter os_M_letter lk_6_106 rfl rfl (Nat.le_of_ble_eq_true rfl) (c_M_letter_0 _ C Y og 3 (by omega)) ?_
        rintro v_ w_ ⟨rfl, rfl⟩ -
        refine am_eq_r (q' := (7, [some (.ref 19), some (.int (nI k)), some (.int 0), some (.int 3)], [.int 115], wd C Y og)) rfl ?_
        refine am_steps_r ok_M_spells 5 (q' := (14, [some (.ref 19), some (.int (nI k)), some (.int 0), some (.int 3)], [.int ((nI k) + 3), .ref 19], wd C Y og)) rfl ?_
        rw [show ((nI k) + 3 : Int32) = nI (k + 3) from nI_add k 3]
        refine am_callV_r (As := [.int (nI (k + 3))]) (rest := []) ok_M_spells rfl rfl ok_M_byteAt oi_M_byteAt lk_6_78 (Or.inl ⟨_, _, _, rfl, rfl, rfl⟩) rfl rfl (Nat.le_of_ble_eq_true rfl) (c_M_byteAt _ C Y og n b hT (k + 3) (by omega)) ?_
        rintro v_ w_ ⟨rfl, rfl⟩ -
        refine am_eq_r (q' := (17, [some (.ref 19), some (.int (nI k)), some (.int 0), some (.int 3)], [.int (b (k + 3))], wd C Y og)) rfl ?_
        refine am_steps_r ok_M_spells 2 (q' := (19, [some (.ref 19), some (.int (nI k)), some (.int 0), some (.int 3)], [.int 3, .int 0, .int (b (k + 3))], wd C Y og)) rfl ?_
        refine am_callS_r (As := [.int 0, .int 3]) (rest := [.int (b (k + 3))]) ok_M_spells rfl rfl ok_M_letter os_M_letter lk_6_106 rfl rfl (Nat.le_of_ble_eq_true rfl) (c_M_letter_0 _ C Y og 3 (by omega)) ?_
        rintro v_ w_ ⟨rfl, rfl⟩ -
        refine am_eq_r (q' := (22, [some (.ref 19), some (.int (nI k)), some (.int 0), some (.int 3)], [.int 115, .int (b (k + 3))], wd C Y og)) rfl ?_
        refine am_steps_r ok_M_spells 1 (q' := (bif decide ((b (k + 3)) = 115) then 27 else 25, [some (.ref 19), some (.int (nI k)), some (.int 0), some (.int 3)], [], wd C Y og)) rfl ?_
        refine am_br_r (fun h_16 => ?_) (fun h_16 => ?_)
        · skip
          refine am_steps_r ok_M_spells 4 (q' := (4, [some (.ref 19), some (.int (nI k)), some (.int 0), some (.int 4)], [.int 4, .int 0], wd C Y og)) rfl ?_
          refine am_callS_r (As := [.int 0, .int 4]) (rest := []) ok_M_spells rfl rfl ok_M_letter os_M_letter lk_6_106 rfl rfl (Nat.le_of_ble_eq_true rfl) (c_M_letter_0 _ C Y og 4 (by omega)) ?_
          rintro v_ w_ ⟨rfl, rfl⟩ -
          refine am_eq_r (q' := (7, [some (.ref 19), some (.int (nI k)), some (.int 0), some (.int 4)], [.int 116], wd C Y og)) rfl ?_
          refine am_steps_r ok_M_spells 5 (q' := (14, [some (.ref 19), some (.int (nI k)), some (.int 0), some (.int 4)], [.int ((nI k) + 4), .ref 19], wd C Y og)) rfl ?_
          rw [show ((nI k) + 4 : Int32) = nI (k + 4) from nI_add k 4]
          refine am_callV_r (As := [.int (nI (k + 4))]) (rest := []) ok_M_spells rfl rfl ok_M_byteAt oi_M_byteAt lk_6_78 (Or.inl ⟨_, _, _, rfl, rfl, rfl⟩) rfl rfl (Nat.le_of_ble_eq_true rfl) (c_M_byteAt _ C Y og n b hT (k + 4) (by omega)) ?_
          rintro v_ w_ ⟨rfl, rfl⟩ -
          refine am_eq_r (q' := (17, [some (.ref 19), some (.int (nI k)), some (.int 0), some (.int 4)], [.int (b (k + 4))], wd C Y og)) rfl ?_
          refine am_steps_r ok_M_spells 2 (q' := (19, [some (.ref 19), some (.int (nI k)), some (.int 0), some (.int 4)], [.int 4, .int 0, .int (b (k + 4))], wd C Y og)) rfl ?_
          refine am_callS_r (As := [.int 0, .int 4]) (rest := [.int (b (k + 4))]) ok_M_spells rfl rfl ok_M_letter os_M_letter lk_6_106 rfl rfl (Nat.le_of_ble_eq_true rfl) (c_M_letter_0 _ C Y og 4 (by omega)) ?_
          rintro v_ w_ ⟨rfl, rfl⟩ -
          refine am_eq_r (q' := (22, [some (.ref 19), some (.int (nI k)), some (.int 0), some (.int 4)], [.int 116, .int (b (k + 4))], wd C Y og)) rfl ?_
          refine am_steps_r ok_M_spells 1 (q' := (bif decide ((b (k + 4)) = 116) then 27 else 25, [some (.ref 19), some (.int (nI k)), some (.int 0), some (.int 4)], [], wd C Y og)) rfl ?_
          refine am_br_r (fun h_20 => ?_) (fun h_20 => ?_)
          · skip
            refine am_steps_r ok_M_spells 4 (q' := (4, [some (.ref 19), some (.int (nI k)), some (.int 0), some (.int 5)], [.int 5, .int 0], wd C Y og)) rfl ?_
            refine am_callS_r (As := [.int 0, .int 5]) (rest := []) ok_M_spells rfl rfl ok_M_letter os_M_letter lk_6_106 rfl rfl (Nat.le_of_ble_eq_true rfl) (c_M_letter_0 _ C Y og 5 (by omega)) ?_
            rintro v_ w_ ⟨rfl, rfl⟩ -
            refine am_eq_r (q' := (7, [some (.ref 19), some (.int (nI k)), some (.int 0), some (.int 5)], [.int 114], wd C Y og)) rfl ?_
            refine am_steps_r ok_M_spells 5 (q' := (14, [some (.ref 19), some (.int (nI k)), some (.int 0), some (.int 5)], [.int ((nI k) + 5), .ref 19], wd C Y og)) rfl ?_
            rw [show ((nI k) + 5 : Int32) = nI (k + 5) from nI_add k 5]
            refine am_callV_r (As := [.int (nI (k + 5))]) (rest := []) ok_M_spells rfl rfl ok_M_byteAt oi_M_byteAt lk_6_78 (Or.inl ⟨_, _, _, rfl, rfl, rfl⟩) rfl rfl (Nat.le_of_ble_eq_true rfl) (c_M_byteAt _ C Y og n b hT (k + 5) (by omega)) ?_
            rintro v_ w_ ⟨rfl, rfl⟩ -
            refine am_eq_r (q' := (17, [some (.ref 19), some (.int (nI k)), some (.int 0), some (.int 5)], [.int (b (k + 5))], wd C Y og)) rfl ?_
            refine am_steps_r ok_M_spells 2 (q' := (19, [some (.ref 19), some (.int (nI k)), some (.int 0), some (.int 5)], [.int 5, .int 0, .int (b (k + 5))], wd C Y og)) rfl ?_
            refine am_callS_r (As := [.int 0, .int 5]) (rest := [.int (b (k + 5))]) ok_M_spells rfl rfl ok_M_letter os_M_letter lk_6_106 rfl rfl (Nat.le_of_ble_eq_true rfl) (c_M_letter_0 _ C Y og 5 (by omega)) ?_
            rintro v_ w_ ⟨rfl, rfl⟩ -
            refine am_eq_r (q' := (22, [some (.ref 19), some (.int (nI k)), some (.int 0), some (.int 5)], [.int 114, .int (b (k + 5))], wd C Y og)) rfl ?_
            refine am_steps_r ok_M_spells 1 (q' := (bif decide ((b (k + 5)) = 114) then 27 else 25, [some (.ref 19), some (.int (nI k)), some (.int 0), some (.int 5)], [], wd C Y og)) rfl ?_
            refine am_br_r (fun h_24 => ?_) (fun h_24 => ?_)
            · skip
              refine am_steps_r ok_M_spells 4 (q' := (4, [some (.ref 19), some (.int (nI k)), some (.int 0), some (.int 6)], [.int 6, .int 0], wd C Y og)) rfl ?_
              refine am_callS_r (As := [.int 0, .int 6]) (rest := []) ok_M_spells rfl rfl ok_M_letter os_M_letter lk_6_106 rfl rfl (Nat.le_of_ble_eq_true rfl) (c_M_letter_0 _ C Y og 6 (by omega)) ?_
              rintro v_ w_ ⟨rfl, rfl⟩ -
              refine am_eq_r (q' := (7, [some (.ref 19), some (.int (nI k)), some (.int 0), some (.int 6)], [.int 101], wd C Y og)) rfl ?_
              refine am_steps_r ok_M_spells 5 (q' := (14, [some (.ref 19), some (.int (nI k)), some (.int 0), some (.int 6)], [.int ((nI k) + 6), .ref 19], wd C Y og)) rfl ?_
              rw [show ((nI k) + 6 : Int32) = nI (k + 6) from nI_add k 6]
              refine am_callV_r (As := [.int (nI (k + 6))]) (rest := []) ok_M_spells rfl rfl ok_M_byteAt oi_M_byteAt lk_6_78 (Or.inl ⟨_, _, _, rfl, rfl, rfl⟩) rfl rfl (Nat.le_of_ble_eq_true rfl) (c_M_byteAt _ C Y og n b hT (k + 6) (by omega)) ?_
              rintro v_ w_ ⟨rfl, rfl⟩ -
              refine am_eq_r (q' := (17, [some (.ref 19), some (.int (nI k)), some (.int 0), some (.int 6)], [.int (b (k + 6))], wd C Y og)) rfl ?_
              refine am_steps_r ok_M_spells 2 (q' := (19, [some (.ref 19), some (.int (nI k)), some (.int 0), some (.int 6)], [.int 6, .int 0, .int (b (k + 6))], wd C Y og)) rfl ?_
              refine am_callS_r (As := [.int 0, .int 6]) (rest := [.int (b (k + 6))]) ok_M_spells rfl rfl ok_M_letter os_M_letter lk_6_106 rfl rfl (Nat.le_of_ble_eq_true rfl) (c_M_letter_0 _ C Y og 6 (by omega)) ?_
              rintro v_ w_ ⟨rfl, rfl⟩ -
              refine am_eq_r (q' := (22, [some (.ref 19), some (.int (nI k)), some (.int 0), some (.int 6)], [.int 101, .int (b (k + 6))], wd C Y og)) rfl ?_
              refine am_steps_r ok_M_spells 1 (q' := (bif decide ((b (k + 6)) = 101) then 27 else 25, [some (.ref 19), some (.int (nI k)), some (.int 0), some (.int 6)], [], wd C Y og)) rfl ?_
              refine am_br_r (fun h_28 => ?_) (fun h_28 => ?_)
              · skip
                refine am_steps_r ok_M_spells 4 (q' := (4, [some (.ref 19), some (.int (nI k)), some (.int 0), some (.int 7)], [.int 7, .int 0], wd C Y og)) rfl ?_
                refine am_callS_r (As := [.int 0, .int 7]) (rest := []) ok_M_spells rfl rfl ok_M_letter os_M_letter lk_6_106 rfl rfl (Nat.le_of_ble_eq_true rfl) (c_M_letter_0 _ C Y og 7 (by omega)) ?_
                rintro v_ w_ ⟨rfl, rfl⟩ -
                refine am_eq_r (q' := (7, [some (.ref 19), some (.int (nI k)), some (.int 0), some (.int 7)], [.int 97], wd C Y og)) rfl ?_
                refine am_steps_r ok_M_spells 5 (q' := (14, [some (.ref 19), some (.int (nI k)), some (.int 0), some (.int 7)], [.int ((nI k) + 7), .ref 19], wd C Y og)) rfl ?_
                rw [show ((nI k) + 7 : Int32) = nI (k + 7) from nI_add k 7]
                refine am_callV_r (As := [.int (nI (k + 7))]) (rest := []) ok_M_spells rfl rfl ok_M_byteAt oi_M_byteAt lk_6_78 (Or.inl ⟨_, _, _, rfl, rfl, rfl⟩) rfl rfl (Nat.le_of_ble_eq_true rfl) (c_M_byteAt _ C Y og n b hT (k + 7) (by omega)) ?_
                rintro v_ w_ ⟨rfl, rfl⟩ -
                refine am_eq_r (q' := (17, [some (.ref 19), some (.int (nI k)), some (.int 0), some (.int 7)], [.int (b (k + 7))], wd C Y og)) rfl ?_
                refine am_steps_r ok_M_spells 2 (q' := (19, [some (.ref 19), some (.int (nI k)), some (.int 0), some (.int 7)], [.int 7, .int 0, .int (b (k + 7))], wd C Y og)) rfl ?_
                refine am_callS_r (As := [.int 0, .int 7]) (rest := [.int (b (k + 7))]) ok_M_spells rfl rfl ok_M_letter os_M_letter lk_6_106 rfl rfl (Nat.le_of_ble_eq_true rfl) (c_M_letter_0 _ C Y og 7 (by omega)) ?_
                rintro v_ w_ ⟨rfl, rfl⟩ -
                refine am_eq_r (q' := (22, [some (.ref 19), some (.int (nI k)), some (.int 0), some (.int 7)], [.int 97, .int (b (k + 7))], wd C Y og)) rfl ?_
                refine am_steps_r ok_M_spells 1 (q' := (bif decide ((b (k + 7)) = 97) then 27 else 25, [some (.ref 19), some (.int (nI k)), some (.int 0), some (.int 7)], [], wd C Y og)) rfl ?_
                refine am_br_r (fun h_32 => ?_) (fun h_32 => ?_)
                · skip
                  refine am_steps_r ok_M_spells 4 (q' := (4, [some (.ref 19), some (.int (nI k)), some (.int 0), some (.int 8)], [.int 8, .int 0], wd C Y og)) rfl ?_
                  refine am_callS_r (As := [.int 0, .int 8]) (rest := []) ok_M_spells rfl rfl ok_M_letter os_M_letter lk_6_106 rfl rfl (Nat.le_of_ble_eq_true rfl) (c_M_letter_0 _ C Y og 8 (by omega)) ?_
                  rintro v_ w_ ⟨rfl, rfl⟩ -
                  refine am_eq_r (q' := (7, [some (.ref 19), some (.int (nI k)), some (.int 0), some (.int 8)], [.int 109], wd C Y og)) rfl ?_
                  refine am_steps_r ok_M_spells 5 (q' := (14, [some (.ref 19), some (.int (nI k)), some (.int 0), some (.int 8)], [.int ((nI k) + 8), .ref 19], wd C Y og)) rfl ?_
                  rw [show ((nI k) + 8 : Int32) = nI (k + 8) from nI_add k 8]
                  refine am_callV_r (As := [.int (nI (k + 8))]) (rest := []) ok_M_spells rfl rfl ok_M_byteAt oi_M_byteAt lk_6_78 (Or.inl ⟨_, _, _, rfl, rfl, rfl⟩) rfl rfl (Nat.le_of_ble_eq_true rfl) (c_M_byteAt _ C Y og n b hT (k + 8) (by omega)) ?_
                  rintro v_ w_ ⟨rfl, rfl⟩ -
                  refine am_eq_r (q' := (17, [some (.ref 19), some (.int (nI k)), some (.int 0), some (.int 8)], [.int (b (k + 8))], wd C Y og)) rfl ?_
                  refine am_steps_r ok_M_spells 2 (q' := (19, [some (.ref 19), some (.int (nI k)), some (.int 0), some (.int 8)], [.int 8, .int 0, .int (b (k + 8))], wd C Y og)) rfl ?_
                  refine am_callS_r (As := [.int 0, .int 8]) (rest := [.int (b (k + 8))]) ok_M_spells rfl rfl ok_M_letter os_M_letter lk_6_106 rfl rfl (Nat.le_of_ble_eq_true rfl) (c_M_letter_0 _ C Y og 8 (by omega)) ?_
                  rintro v_ w_ ⟨rfl, rfl⟩ -
                  refine am_eq_r (q' := (22, [some (.ref 19), some (.int (nI k)), some (.int 0), some (.int 8)], [.int 109, .int (b (k + 8))], wd C Y og)) rfl ?_
                  refine am_steps_r ok_M_spells 1 (q' := (bif decide ((b (k + 8)) = 109) then 27 else 25, [some (.ref 19), some (.int (nI k)), some (.int 0), some (.int 8)], [], wd C Y og)) rfl ?_
                  refine am_br_r (fun h_36 => ?_) (fun h_36 => ?_)
                  · skip
                    refine am_steps_r ok_M_spells 4 (q' := (4, [some (.ref 19), some (.int (nI k)), some (.int 0), some (.int 9)], [.int 9, .int 0], wd C Y og)) rfl ?_
                    refine am_callS_r (As := [.int 0, .int 9]) (rest := []) ok_M_spells rfl rfl ok_M_letter os_M_letter lk_6_106 rfl rfl (Nat.le_of_ble_eq_true rfl) (c_M_letter_0 _ C Y og 9 (by omega)) ?_
                    rintro v_ w_ ⟨rfl, rfl⟩ -
                    refine am_eq_r (q' := (7, [some (.ref 19), some (.int (nI k)), some (.int 0), some (.int 9)], [.int 0], wd C Y og)) rfl ?_
                    refine am_steps_r ok_M_spells 2 (q' := (34, [some (.ref 19), some (.int (nI k)), some (.int 0), some (.int 9)], [.int 1], wd C Y og)) rfl ?_
                    refine am_zret_r ok_M_spells rfl rfl rfl rfl ?_
                    refine ⟨?_, rfl⟩
                    simp_all [txA, st_9, bz, Nat.add_assoc]
                  · skip
                    refine am_steps_r ok_M_spells 1 (q' := (26, [some (.ref 19), some (.int (nI k)), some (.int 0), some (.int 8)], [.int 0], wd C Y og)) rfl ?_
                    refine am_zret_r ok_M_spells rfl rfl rfl rfl ?_
                    refine ⟨?_, rfl⟩
                    simp_all [txA, st_9, bz, Nat.add_assoc]
                · skip
                  refine am_steps_r ok_M_spells 1 (q' := (26, [some (.ref 19), some (.int (nI k)), some (.int 0), some (.int 7)], [.int 0], wd C Y og)) rfl ?_
                  refine am_zret_r ok_M_spells rfl rfl rfl rfl ?_
                  refine ⟨?_, rfl⟩
                  simp_all [txA, st_9, bz, Nat.add_assoc]
              · skip
                refine am_steps_r ok_M_spells 1 (q' := (26, [some (.ref 19), some (.int (nI k)), some (.int 0), some (.int 6)], [.int 0], wd C Y og)) rfl ?_
                refine am_zret_r ok_M_spells rfl rfl rfl rfl ?_
                refine ⟨?_, rfl⟩
                simp_all [txA, st_9, bz, Nat.add_assoc]
            · skip
              refine am_steps_r ok_M_spells 1 (q' := (26, [some (.ref 19), some (.int (nI k)), some (.int 0), some (.int 5)], [.int 0], wd C Y og)) rfl ?_
              refine am_zret_r ok_M_spells rfl rfl rfl rfl ?_
              refine ⟨?_, rfl⟩
              simp_all [txA, st_9, bz, Nat.add_assoc]
          · skip
            refine am_steps_r ok_M_spells 1 (q' := (26, [some (.ref 19), some (.int (nI k)), some (.int 0), some (.int 4)], [.int 0], wd C Y og)) rfl ?_
            refine am_zret_r ok_M_spells rfl rfl rfl rfl ?_
            refine ⟨?_, rfl⟩
            simp_all [txA, st_9, bz, Nat.add_assoc]
        · skip
          refine am_steps_r ok_M_spells 1 (q' := (26, [some (.ref 19), some (.int (nI k)), some (.int 0), some (.int 3)], [.int 0], wd C Y og)) rfl ?_
          refine am_zret_r ok_M_spells rfl rfl rfl rfl ?_
          refine ⟨?_, rfl⟩
          simp_all [txA, st_9, bz, Nat.add_assoc]
      · skip
        refine am_steps_r ok_M_spells 1 (q' := (26, [some (.ref 19), some (.int (nI k)), some (.int 0), some (.int 2)], [.int 0], wd C Y og)) rfl ?_
        refine am_zret_r ok_M_spells rfl rfl rfl rfl ?_
        refine ⟨?_, rfl⟩
        simp_all [txA, st_9, bz, Nat.add_assoc]
    · skip
      refine am_steps_r ok_M_spells 1 (q' := (26, [some (.ref 19), some (.int (nI k)), some (.int 0), some (.int 1)], [.int 0], wd C Y og)) rfl ?_
      refine am_zret_r ok_M_spells rfl rfl rfl rfl ?_
      refine ⟨?_, rfl⟩
      simp_all [txA, st_9, bz, Nat.add_assoc]
  · skip
    refine am_steps_r ok_M_spells 1 (q' := (26, [some (.ref 19), some (.int (nI k)), some (.int 0), some (.int 0)], [.int 0], wd C Y og)) rfl ?_
    refine am_zret_r ok_M_spells rfl rfl rfl rfl ?_
    refine ⟨?_, rfl⟩
    simp_all [txA, st_9, bz, Nat.add_assoc]
set_option maxHeartbeats 4000000 in
set_option maxRecDepth 100000 in
theorem c_M_spells_1 (d : Nat) (C : wd_C) (Y : wd_Y) (og : Nat → Int64) (n : Nat) (b : Nat → Int32) (hT : tpY Y n b) (k : Nat) (hk : k < 1073741000) : am_Mt l D cA ad fm (d + 1) m_M_spells [.ref 19, .int (nI k), .int 1] (wd C Y og) (fun v w' => v = some (.int (bz (txA b st_10 k))) ∧ w' = wd C Y og) := by
  refine am_mt ok_M_spells (by simp [am_arg, Value.category, m_M_spells, am_ml]) ?_
  refine am_eq_r (q' := (0, [some (.ref 19), some (.int (nI k)), some (.int 1), none], [], wd C Y og)) rfl ?_
  refine am_steps_r ok_M_spells 4 (q' := (4, [some (.ref 19), some (.int (nI k)), some (.int 1), some (.int 0)], [.int 0, .int 1], wd C Y og)) rfl ?_
  refine am_callS_r (As := [.int 1, .int 0]) (rest := []) ok_M_spells rfl rfl ok_M_letter os_M_letter lk_6_106 rfl rfl (Nat.le_of_ble_eq_true rfl) (c_M_letter_1 _ C Y og 0 (by omega)) ?_
  rintro v_ w_ ⟨rfl, rfl⟩ -
  refine am_eq_r (q' := (7, [some (.ref 19), some (.int (nI k)), some (.int 1), some (.int 0)], [.int 101], wd C Y og)) rfl ?_
  refine am_steps_r ok_M_spells 5 (q' := (14, [some (.ref 19), some (.int (nI k)), some (.int 1), some (.int 0)], [.int ((nI k) + 0), .ref 19], wd C Y og)) rfl ?_
  rw [show ((nI k) + 0 : Int32) = nI (k + 0) from nI_add k 0]
  refine am_callV_r (As := [.int (nI (k + 0))]) (rest := []) ok_M_spells rfl rfl ok_M_byteAt oi_M_byteAt lk_6_78 (Or.inl ⟨_, _, _, rfl, rfl, rfl⟩) rfl rfl (Nat.le_of_ble_eq_true rfl) (c_M_byteAt _ C Y og n b hT (k + 0) (by omega)) ?_
  rintro v_ w_ ⟨rfl, rfl⟩ -
  refine am_eq_r (q' := (17, [some (.ref 19), some (.int (nI k)), some (.int 1), some (.int 0)], [.int (b (k + 0))], wd C Y og)) rfl ?_
  refine am_steps_r ok_M_spells 2 (q' := (19, [some (.ref 19), some (.int (nI k)), some (.int 1), some (.int 0)], [.int 0, .int 1, .int (b (k + 0))], wd C Y og)) rfl ?_
  refine am_callS_r (As := [.int 1, .int 0]) (rest := [.int (b (k + 0))]) ok_M_spells rfl rfl ok_M_letter os_M_letter lk_6_106 rfl rfl (Nat.le_of_ble_eq_true rfl) (c_M_letter_1 _ C Y og 0 (by omega)) ?_
  rintro v_ w_ ⟨rfl, rfl⟩ -
  refine am_eq_r (q' := (22, [some (.ref 19), some (.int (nI k)), some (.int 1), some (.int 0)], [.int 101, .int (b (k + 0))], wd C Y og)) rfl ?_
  refine am_steps_r ok_M_spells 1 (q' := (bif decide ((b (k + 0)) = 101) then 27 else 25, [some (.ref 19), some (.int (nI k)), some (.int 1), some (.int 0)], [], wd C Y og)) rfl ?_
  refine am_br_r (fun h_4 => ?_) (fun h_4 => ?_)
  · skip
    refine am_steps_r ok_M_spells 4 (q' := (4, [some (.ref 19), some (.int (nI k)), some (.int 1), some (.int 1)], [.int 1, .int 1], wd C Y og)) rfl ?_
    refine am_callS_r (As := [.int 1, .int 1]) (rest := []) ok_M_spells rfl rfl ok_M_letter os_M_letter lk_6_106 rfl rfl (Nat.le_of_ble_eq_true rfl) (c_M_letter_1 _ C Y og 1 (by omega)) ?_
    rintro v_ w_ ⟨rfl, rfl⟩ -
    refine am_eq_r (q' := (7, [some (.ref 19), some (.int (nI k)), some (.int 1), some (.int 1)], [.int 110], wd C Y og)) rfl ?_
    refine am_steps_r ok_M_spells 5 (q' := (14, [some (.ref 19), some (.int (nI k)), some (.int 1), some (.int 1)], [.int ((nI k) + 1), .ref 19], wd C Y og)) rfl ?_
    rw [show ((nI k) + 1 : Int32) = nI (k + 1) from nI_add k 1]
    refine am_callV_r (As := [.int (nI (k + 1))]) (rest := []) ok_M_spells rfl rfl ok_M_byteAt oi_M_byteAt lk_6_78 (Or.inl ⟨_, _, _, rfl, rfl, rfl⟩) rfl rfl (Nat.le_of_ble_eq_true rfl) (c_M_byteAt _ C Y og n b hT (k + 1) (by omega)) ?_
    rintro v_ w_ ⟨rfl, rfl⟩ -
    refine am_eq_r (q' := (17, [some (.ref 19), some (.int (nI k)), some (.int 1), some (.int 1)], [.int (b (k + 1))], wd C Y og)) rfl ?_
    refine am_steps_r ok_M_spells 2 (q' := (19, [some (.ref 19), some (.int (nI k)), some (.int 1), some (.int 1)], [.int 1, .int 1, .int (b (k + 1))], wd C Y og)) rfl ?_
    refine am_callS_r (As := [.int 1, .int 1]) (rest := [.int (b (k + 1))]) ok_M_spells rfl rfl ok_M_letter os_M_letter lk_6_106 rfl rfl (Nat.le_of_ble_eq_true rfl) (c_M_letter_1 _ C Y og 1 (by omega)) ?_
    rintro v_ w_ ⟨rfl, rfl⟩ -
    refine am_eq_r (q' := (22, [some (.ref 19), some (.int (nI k)), some (.int 1), some (.int 1)], [.int 110, .int (b (k + 1))], wd C Y og)) rfl ?_
    refine am_steps_r ok_M_spells 1 (q' := (bif decide ((b (k + 1)) = 110) then 27 else 25, [some (.ref 19), some (.int (nI k)), some (.int 1), some (.int 1)], [], wd C Y og)) rfl ?_
    refine am_br_r (fun h_8 => ?_) (fun h_8 => ?_)
    · skip
      refine am_steps_r ok_M_spells 4 (q' := (4, [some (.ref 19), some (.int (nI k)), some (.int 1), some (.int 2)], [.int 2, .int 1], wd C Y og)) rfl ?_
      refine am_callS_r (As := [.int 1, .int 2]) (rest := []) ok_M_spells rfl rfl ok_M_letter os_M_letter lk_6_106 rfl rfl (Nat.le_of_ble_eq_true rfl) (c_M_letter_1 _ C Y og 2 (by omega)) ?_
      rintro v_ w_ ⟨rfl, rfl⟩ -
      refine am_eq_r (q' := (7, [some (.ref 19), some (.int (nI k)), some (.int 1), some (.int 2)], [.int 100], wd C Y og)) rfl ?_
      refine am_steps_r ok_M_spells 5 (q' := (14, [some (.ref 19), some (.int (nI k)), some (.int 1), some (.int 2)], [.int ((nI k) + 2), .ref 19], wd C Y og)) rfl ?_
      rw [show ((nI k) + 2 : Int32) = nI (k + 2) from nI_add k 2]
      refine am_callV_r (As := [.int (nI (k + 2))]) (rest := []) ok_M_spells rfl rfl ok_M_byteAt oi_M_byteAt lk_6_78 (Or.inl ⟨_, _, _, rfl, rfl, rfl⟩) rfl rfl (Nat.le_of_ble_eq_true rfl) (c_M_byteAt _ C Y og n b hT (k + 2) (by omega)) ?_
      rintro v_ w_ ⟨rfl, rfl⟩ -
      refine am_eq_r (q' := (17, [some (.ref 19), some (.int (nI k)), some (.int 1), some (.int 2)], [.int (b (k + 2))], wd C Y og)) rfl ?_
      refine am_steps_r ok_M_spells 2 (q' := (19, [some (.ref 19), some (.int (nI k)), some (.int 1), some (.int 2)], [.int 2, .int 1, .int (b (k + 2))], wd C Y og)) rfl ?_
      refine am_callS_r (As := [.int 1, .int 2]) (rest := [.int (b (k + 2))]) ok_M_spells rfl rfl ok_M_letter os_M_letter lk_6_106 rfl rfl (Nat.le_of_ble_eq_true rfl) (c_M_letter_1 _ C Y og 2 (by omega)) ?_
      rintro v_ w_ ⟨rfl, rfl⟩ -
      refine am_eq_r (q' := (22, [some (.ref 19), some (.int (nI k)), some (.int 1), some (.int 2)], [.int 100, .int (b (k + 2))], wd C Y og)) rfl ?_
      refine am_steps_r ok_M_spells 1 (q' := (bif decide ((b (k + 2)) = 100) then 27 else 25, [some (.ref 19), some (.int (nI k)), some (.int 1), some (.int 2)], [], wd C Y og)) rfl ?_
      refine am_br_r (fun h_12 => ?_) (fun h_12 => ?_)
      · skip
        refine am_steps_r ok_M_spells 4 (q' := (4, [some (.ref 19), some (.int (nI k)), some (.int 1), some (.int 3)], [.int 3, .int 1], wd C Y og)) rfl ?_
        refine am_callS_r (As := [.int 1, .int 3]) (rest := []) ok_M_spells rfl rfl ok_M_letter os_M_letter lk_6_106 rfl rfl (Nat.le_of_ble_eq_true rfl) (c_M_letter_1 _ C Y og 3 (by omega)) ?_
        rintro v_ w_ ⟨rfl, rfl⟩ -
        refine am_eq_r (q' := (7, [some (.ref 19), some (.int (nI k)), some (.int 1), some (.int 3)], [.int 111], wd C Y og)) rfl ?_
        refine am_steps_r ok_M_spells 5 (q' := (14, [some (.ref 19), some (.int (nI k)), some (.int 1), some (.int 3)], [.int ((nI k) + 3), .ref 19], wd C Y og)) rfl ?_
        rw [show ((nI k) + 3 : Int32) = nI (k + 3) from nI_add k 3]
        refine am_callV_r (As := [.int (nI (k + 3))]) (rest := []) ok_M_spells rfl rfl ok_M_byteAt oi_M_byteAt lk_6_78 (Or.inl ⟨_, _, _, rfl, rfl, rfl⟩) rfl rfl (Nat.le_of_ble_eq_true rfl) (c_M_byteAt _ C Y og n b hT (k + 3) (by omega)) ?_
        rintro v_ w_ ⟨rfl, rfl⟩ -
        refine am_eq_r (q' := (17, [some (.ref 19), some (.int (nI k)), some (.int 1), some (.int 3)], [.int (b (k + 3))], wd C Y og)) rfl ?_
        refine am_steps_r ok_M_spells 2 (q' := (19, [some (.ref 19), some (.int (nI k)), some (.int 1), some (.int 3)], [.int 3, .int 1, .int (b (k + 3))], wd C Y og)) rfl ?_
        refine am_callS_r (As := [.int 1, .int 3]) (rest := [.int (b (k + 3))]) ok_M_spells rfl rfl ok_M_letter os_M_letter lk_6_106 rfl rfl (Nat.le_of_ble_eq_true rfl) (c_M_letter_1 _ C Y og 3 (by omega)) ?_
        rintro v_ w_ ⟨rfl, rfl⟩ -
        refine am_eq_r (q' := (22, [some (.ref 19), some (.int (nI k)), some (.int 1), some (.int 3)], [.int 111, .int (b (k + 3))], wd C Y og)) rfl ?_
        refine am_steps_r ok_M_spells 1 (q' := (bif decide ((b (k + 3)) = 111) then 27 else 25, [some (.ref 19), some (.int (nI k)), some (.int 1), some (.int 3)], [], wd C Y og)) rfl ?_
        refine am_br_r (fun h_16 => ?_) (fun h_16 => ?_)
        · skip
          refine am_steps_r ok_M_spells 4 (q' := (4, [some (.ref 19), some (.int (nI k)), some (.int 1), some (.int 4)], [.int 4, .int 1], wd C Y og)) rfl ?_
          refine am_callS_r (As := [.int 1, .int 4]) (rest := []) ok_M_spells rfl rfl ok_M_letter os_M_letter lk_6_106 rfl rfl (Nat.le_of_ble_eq_true rfl) (c_M_letter_1 _ C Y og 4 (by omega)) ?_
          rintro v_ w_ ⟨rfl, rfl⟩ -
          refine am_eq_r (q' := (7, [some (.ref 19), some (.int (nI k)), some (.int 1), some (.int 4)], [.int 98], wd C Y og)) rfl ?_
          refine am_steps_r ok_M_spells 5 (q' := (14, [some (.ref 19), some (.int (nI k)), some (.int 1), some (.int 4)], [.int ((nI k) + 4), .ref 19], wd C Y og)) rfl ?_
          rw [show ((nI k) + 4 : Int32) = nI (k + 4) from nI_add k 4]
          refine am_callV_r (As := [.int (nI (k + 4))]) (rest := []) ok_M_spells rfl rfl ok_M_byteAt oi_M_byteAt lk_6_78 (Or.inl ⟨_, _, _, rfl, rfl, rfl⟩) rfl rfl (Nat.le_of_ble_eq_true rfl) (c_M_byteAt _ C Y og n b hT (k + 4) (by omega)) ?_
          rintro v_ w_ ⟨rfl, rfl⟩ -
          refine am_eq_r (q' := (17, [some (.ref 19), some (.int (nI k)), some (.int 1), some (.int 4)], [.int (b (k + 4))], wd C Y og)) rfl ?_
          refine am_steps_r ok_M_spells 2 (q' := (19, [some (.ref 19), some (.int (nI k)), some (.int 1), some (.int 4)], [.int 4, .int 1, .int (b (k + 4))], wd C Y og)) rfl ?_
          refine am_callS_r (As := [.int 1, .int 4]) (rest := [.int (b (k + 4))]) ok_M_spells rfl rfl ok_M_letter os_M_letter lk_6_106 rfl rfl (Nat.le_of_ble_eq_true rfl) (c_M_letter_1 _ C Y og 4 (by omega)) ?_
          rintro v_ w_ ⟨rfl, rfl⟩ -
          refine am_eq_r (q' := (22, [some (.ref 19), some (.int (nI k)), some (.int 1), some (.int 4)], [.int 98, .int (b (k + 4))], wd C Y og)) rfl ?_
          refine am_steps_r ok_M_spells 1 (q' := (bif decide ((b (k + 4)) = 98) then 27 else 25, [some (.ref 19), some (.int (nI k)), some (.int 1), some (.int 4)], [], wd C Y og)) rfl ?_
          refine am_br_r (fun h_20 => ?_) (fun h_20 => ?_)
          · skip
            refine am_steps_r ok_M_spells 4 (q' := (4, [some (.ref 19), some (.int (nI k)), some (.int 1), some (.int 5)], [.int 5, .int 1], wd C Y og)) rfl ?_
            refine am_callS_r (As := [.int 1, .int 5]) (rest := []) ok_M_spells rfl rfl ok_M_letter os_M_letter lk_6_106 rfl rfl (Nat.le_of_ble_eq_true rfl) (c_M_letter_1 _ C Y og 5 (by omega)) ?_
            rintro v_ w_ ⟨rfl, rfl⟩ -
            refine am_eq_r (q' := (7, [some (.ref 19), some (.int (nI k)), some (.int 1), some (.int 5)], [.int 106], wd C Y og)) rfl ?_
            refine am_steps_r ok_M_spells 5 (q' := (14, [some (.ref 19), some (.int (nI k)), some (.int 1), some (.int 5)], [.int ((nI k) + 5), .ref 19], wd C Y og)) rfl ?_
            rw [show ((nI k) + 5 : Int32) = nI (k + 5) from nI_add k 5]
            refine am_callV_r (As := [.int (nI (k + 5))]) (rest := []) ok_M_spells rfl rfl ok_M_byteAt oi_M_byteAt lk_6_78 (Or.inl ⟨_, _, _, rfl, rfl, rfl⟩) rfl rfl (Nat.le_of_ble_eq_true rfl) (c_M_byteAt _ C Y og n b hT (k + 5) (by omega)) ?_
            rintro v_ w_ ⟨rfl, rfl⟩ -
            refine am_eq_r (q' := (17, [some (.ref 19), some (.int (nI k)), some (.int 1), some (.int 5)], [.int (b (k + 5))], wd C Y og)) rfl ?_
            refine am_steps_r ok_M_spells 2 (q' := (19, [some (.ref 19), some (.int (nI k)), some (.int 1), some (.int 5)], [.int 5, .int 1, .int (b (k + 5))], wd C Y og)) rfl ?_
            refine am_callS_r (As := [.int 1, .int 5]) (rest := [.int (b (k + 5))]) ok_M_spells rfl rfl ok_M_letter os_M_letter lk_6_106 rfl rfl (Nat.le_of_ble_eq_true rfl) (c_M_letter_1 _ C Y og 5 (by omega)) ?_
            rintro v_ w_ ⟨rfl, rfl⟩ -
            refine am_eq_r (q' := (22, [some (.ref 19), some (.int (nI k)), some (.int 1), some (.int 5)], [.int 106, .int (b (k + 5))], wd C Y og)) rfl ?_
            refine am_steps_r ok_M_spells 1 (q' := (bif decide ((b (k + 5)) = 106) then 27 else 25, [some (.ref 19), some (.int (nI k)), some (.int 1), some (.int 5)], [], wd C Y og)) rfl ?_
            refine am_br_r (fun h_24 => ?_) (fun h_24 => ?_)
            · skip
              refine am_steps_r ok_M_spells 4 (q' := (4, [some (.ref 19), some (.int (nI k)), some (.int 1), some (.int 6)], [.int 6, .int 1], wd C Y og)) rfl ?_
              refine am_callS_r (As := [.int 1, .int 6]) (rest := []) ok_M_spells rfl rfl ok_M_letter os_M_letter lk_6_106 rfl rfl (Nat.le_of_ble_eq_true rfl) (c_M_letter_1 _ C Y og 6 (by omega)) ?_
              rintro v_ w_ ⟨rfl, rfl⟩ -
              refine am_eq_r (q' := (7, [some (.ref 19), some (.int (nI k)), some (.int 1), some (.int 6)], [.int 0], wd C Y og)) rfl ?_
              refine am_steps_r ok_M_spells 2 (q' := (34, [some (.ref 19), some (.int (nI k)), some (.int 1), some (.int 6)], [.int 1], wd C Y og)) rfl ?_
              refine am_zret_r ok_M_spells rfl rfl rfl rfl ?_
              refine ⟨?_, rfl⟩
              simp_all [txA, st_10, bz, Nat.add_assoc]
            · skip
              refine am_steps_r ok_M_spells 1 (q' := (26, [some (.ref 19), some (.int (nI k)), some (.int 1), some (.int 5)], [.int 0], wd C Y og)) rfl ?_
              refine am_zret_r ok_M_spells rfl rfl rfl rfl ?_
              refine ⟨?_, rfl⟩
              simp_all [txA, st_10, bz, Nat.add_assoc]
          · skip
            refine am_steps_r ok_M_spells 1 (q' := (26, [some (.ref 19), some (.int (nI k)), some (.int 1), some (.int 4)], [.int 0], wd C Y og)) rfl ?_
            refine am_zret_r ok_M_spells rfl rfl rfl rfl ?_
            refine ⟨?_, rfl⟩
            simp_all [txA, st_10, bz, Nat.add_assoc]
        · skip
          refine am_steps_r ok_M_spells 1 (q' := (26, [some (.ref 19), some (.int (nI k)), some (.int 1), some (.int 3)], [.int 0], wd C Y og)) rfl ?_
          refine am_zret_r ok_M_spells rfl rfl rfl rfl ?_
          refine ⟨?_, rfl⟩
          simp_all [txA, st_10, bz, Nat.add_assoc]
      · skip
        refine am_steps_r ok_M_spells 1 (q' := (26, [some (.ref 19), some (.int (nI k)), some (.int 1), some (.int 2)], [.int 0], wd C Y og)) rfl ?_
        refine am_zret_r ok_M_spells rfl rfl rfl rfl ?_
        refine ⟨?_, rfl⟩
        simp_all [txA, st_10, bz, Nat.add_assoc]
    · skip
      refine am_steps_r ok_M_spells 1 (q' := (26, [some (.ref 19), some (.int (nI k)), some (.int 1), some (.int 1)], [.int 0], wd C Y og)) rfl ?_
      refine am_zret_r ok_M_spells rfl rfl rfl rfl ?_
      refine ⟨?_, rfl⟩
      simp_all [txA, st_10, bz, Nat.add_assoc]
  · skip
    refine am_steps_r ok_M_spells 1 (q' := (26, [some (.ref 19), some (.int (nI k)), some (.int 1), some (.int 0)], [.int 0], wd C Y og)) rfl ?_
    refine am_zret_r ok_M_spells rfl rfl rfl rfl ?_
    refine ⟨?_, rfl⟩
    simp_all [txA, st_10, bz, Nat.add_assoc]
set_option maxHeartbeats 4000000 in
set_option maxRecDepth 100000 in
theorem c_M_spells_2 (d : Nat) (C : wd_C) (Y : wd_Y) (og : Nat → Int64) (n : Nat) (b : Nat → Int32) (hT : tpY Y n b) (k : Nat) (hk : k < 1073741000) : am_Mt l D cA ad fm (d + 1) m_M_spells [.ref 19, .int (nI k), .int 2] (wd C Y og) (fun v w' => v = some (.int (bz (txA b st_7 k))) ∧ w' = wd C Y og) := by
  refine am_mt ok_M_spells (by simp [am_arg, Value.category, m_M_spells, am_ml]) ?_
  refine am_eq_r (q' := (0, [some (.ref 19), some (.int (nI k)), some (.int 2), none], [], wd C Y og)) rfl ?_
  refine am_steps_r ok_M_spells 4 (q' := (4, [some (.ref 19), some (.int (nI k)), some (.int 2), some (.int 0)], [.int 0, .int 2], wd C Y og)) rfl ?_
  refine am_callS_r (As := [.int 2, .int 0]) (rest := []) ok_M_spells rfl rfl ok_M_letter os_M_letter lk_6_106 rfl rfl (Nat.le_of_ble_eq_true rfl) (c_M_letter_2 _ C Y og 0 (by omega)) ?_
  rintro v_ w_ ⟨rfl, rfl⟩ -
  refine am_eq_r (q' := (7, [some (.ref 19), some (.int (nI k)), some (.int 2), some (.int 0)], [.int 115], wd C Y og)) rfl ?_
  refine am_steps_r ok_M_spells 5 (q' := (14, [some (.ref 19), some (.int (nI k)), some (.int 2), some (.int 0)], [.int ((nI k) + 0), .ref 19], wd C Y og)) rfl ?_
  rw [show ((nI k) + 0 : Int32) = nI (k + 0) from nI_add k 0]
  refine am_callV_r (As := [.int (nI (k + 0))]) (rest := []) ok_M_spells rfl rfl ok_M_byteAt oi_M_byteAt lk_6_78 (Or.inl ⟨_, _, _, rfl, rfl, rfl⟩) rfl rfl (Nat.le_of_ble_eq_true rfl) (c_M_byteAt _ C Y og n b hT (k + 0) (by omega)) ?_
  rintro v_ w_ ⟨rfl, rfl⟩ -
  refine am_eq_r (q' := (17, [some (.ref 19), some (.int (nI k)), some (.int 2), some (.int 0)], [.int (b (k + 0))], wd C Y og)) rfl ?_
  refine am_steps_r ok_M_spells 2 (q' := (19, [some (.ref 19), some (.int (nI k)), some (.int 2), some (.int 0)], [.int 0, .int 2, .int (b (k + 0))], wd C Y og)) rfl ?_
  refine am_callS_r (As := [.int 2, .int 0]) (rest := [.int (b (k + 0))]) ok_M_spells rfl rfl ok_M_letter os_M_letter lk_6_106 rfl rfl (Nat.le_of_ble_eq_true rfl) (c_M_letter_2 _ C Y og 0 (by omega)) ?_
  rintro v_ w_ ⟨rfl, rfl⟩ -
  refine am_eq_r (q' := (22, [some (.ref 19), some (.int (nI k)), some (.int 2), some (.int 0)], [.int 115, .int (b (k + 0))], wd C Y og)) rfl ?_
  refine am_steps_r ok_M_spells 1 (q' := (bif decide ((b (k + 0)) = 115) then 27 else 25, [some (.ref 19), some (.int (nI k)), some (.int 2), some (.int 0)], [], wd C Y og)) rfl ?_
  refine am_br_r (fun h_4 => ?_) (fun h_4 => ?_)
  · skip
    refine am_steps_r ok_M_spells 4 (q' := (4, [some (.ref 19), some (.int (nI k)), some (.int 2), some (.int 1)], [.int 1, .int 2], wd C Y og)) rfl ?_
    refine am_callS_r (As := [.int 2, .int 1]) (rest := []) ok_M_spells rfl rfl ok_M_letter os_M_letter lk_6_106 rfl rfl (Nat.le_of_ble_eq_true rfl) (c_M_letter_2 _ C Y og 1 (by omega)) ?_
    rintro v_ w_ ⟨rfl, rfl⟩ -
    refine am_eq_r (q' := (7, [some (.ref 19), some (.int (nI k)), some (.int 2), some (.int 1)], [.int 116], wd C Y og)) rfl ?_
    refine am_steps_r ok_M_spells 5 (q' := (14, [some (.ref 19), some (.int (nI k)), some (.int 2), some (.int 1)], [.int ((nI k) + 1), .ref 19], wd C Y og)) rfl ?_
    rw [show ((nI k) + 1 : Int32) = nI (k + 1) from nI_add k 1]
    refine am_callV_r (As := [.int (nI (k + 1))]) (rest := []) ok_M_spells rfl rfl ok_M_byteAt oi_M_byteAt lk_6_78 (Or.inl ⟨_, _, _, rfl, rfl, rfl⟩) rfl rfl (Nat.le_of_ble_eq_true rfl) (c_M_byteAt _ C Y og n b hT (k + 1) (by omega)) ?_
    rintro v_ w_ ⟨rfl, rfl⟩ -
    refine am_eq_r (q' := (17, [some (.ref 19), some (.int (nI k)), some (.int 2), some (.int 1)], [.int (b (k + 1))], wd C Y og)) rfl ?_
    refine am_steps_r ok_M_spells 2 (q' := (19, [some (.ref 19), some (.int (nI k)), some (.int 2), some (.int 1)], [.int 1, .int 2, .int (b (k + 1))], wd C Y og)) rfl ?_
    refine am_callS_r (As := [.int 2, .int 1]) (rest := [.int (b (k + 1))]) ok_M_spells rfl rfl ok_M_letter os_M_letter lk_6_106 rfl rfl (Nat.le_of_ble_eq_true rfl) (c_M_letter_2 _ C Y og 1 (by omega)) ?_
    rintro v_ w_ ⟨rfl, rfl⟩ -
    refine am_eq_r (q' := (22, [some (.ref 19), some (.int (nI k)), some (.int 2), some (.int 1)], [.int 116, .int (b (k + 1))], wd C Y og)) rfl ?_
    refine am_steps_r ok_M_spells 1 (q' := (bif decide ((b (k + 1)) = 116) then 27 else 25, [some (.ref 19), some (.int (nI k)), some (.int 2), some (.int 1)], [], wd C Y og)) rfl ?_
    refine am_br_r (fun h_8 => ?_) (fun h_8 => ?_)
    · skip
      refine am_steps_r ok_M_spells 4 (q' := (4, [some (.ref 19), some (.int (nI k)), some (.int 2), some (.int 2)], [.int 2, .int 2], wd C Y og)) rfl ?_
      refine am_callS_r (As := [.int 2, .int 2]) (rest := []) ok_M_spells rfl rfl ok_M_letter os_M_letter lk_6_106 rfl rfl (Nat.le_of_ble_eq_true rfl) (c_M_letter_2 _ C Y og 2 (by omega)) ?_
      rintro v_ w_ ⟨rfl, rfl⟩ -
      refine am_eq_r (q' := (7, [some (.ref 19), some (.int (nI k)), some (.int 2), some (.int 2)], [.int 114], wd C Y og)) rfl ?_
      refine am_steps_r ok_M_spells 5 (q' := (14, [some (.ref 19), some (.int (nI k)), some (.int 2), some (.int 2)], [.int ((nI k) + 2), .ref 19], wd C Y og)) rfl ?_
      rw [show ((nI k) + 2 : Int32) = nI (k + 2) from nI_add k 2]
      refine am_callV_r (As := [.int (nI (k + 2))]) (rest := []) ok_M_spells rfl rfl ok_M_byteAt oi_M_byteAt lk_6_78 (Or.inl ⟨_, _, _, rfl, rfl, rfl⟩) rfl rfl (Nat.le_of_ble_eq_true rfl) (c_M_byteAt _ C Y og n b hT (k + 2) (by omega)) ?_
      rintro v_ w_ ⟨rfl, rfl⟩ -
      refine am_eq_r (q' := (17, [some (.ref 19), some (.int (nI k)), some (.int 2), some (.int 2)], [.int (b (k + 2))], wd C Y og)) rfl ?_
      refine am_steps_r ok_M_spells 2 (q' := (19, [some (.ref 19), some (.int (nI k)), some (.int 2), some (.int 2)], [.int 2, .int 2, .int (b (k + 2))], wd C Y og)) rfl ?_
      refine am_callS_r (As := [.int 2, .int 2]) (rest := [.int (b (k + 2))]) ok_M_spells rfl rfl ok_M_letter os_M_letter lk_6_106 rfl rfl (Nat.le_of_ble_eq_true rfl) (c_M_letter_2 _ C Y og 2 (by omega)) ?_
      rintro v_ w_ ⟨rfl, rfl⟩ -
      refine am_eq_r (q' := (22, [some (.ref 19), some (.int (nI k)), some (.int 2), some (.int 2)], [.int 114, .int (b (k + 2))], wd C Y og)) rfl ?_
      refine am_steps_r ok_M_spells 1 (q' := (bif decide ((b (k + 2)) = 114) then 27 else 25, [some (.ref 19), some (.int (nI k)), some (.int 2), some (.int 2)], [], wd C Y og)) rfl ?_
      refine am_br_r (fun h_12 => ?_) (fun h_12 => ?_)
      · skip
        refine am_steps_r ok_M_spells 4 (q' := (4, [some (.ref 19), some (.int (nI k)), some (.int 2), some (.int 3)], [.int 3, .int 2], wd C Y og)) rfl ?_
        refine am_callS_r (As := [.int 2, .int 3]) (rest := []) ok_M_spells rfl rfl ok_M_letter os_M_letter lk_6_106 rfl rfl (Nat.le_of_ble_eq_true rfl) (c_M_letter_2 _ C Y og 3 (by omega)) ?_
        rintro v_ w_ ⟨rfl, rfl⟩ -
        refine am_eq_r (q' := (7, [some (.ref 19), some (.int (nI k)), some (.int 2), some (.int 3)], [.int 101], wd C Y og)) rfl ?_
        refine am_steps_r ok_M_spells 5 (q' := (14, [some (.ref 19), some (.int (nI k)), some (.int 2), some (.int 3)], [.int ((nI k) + 3), .ref 19], wd C Y og)) rfl ?_
        rw [show ((nI k) + 3 : Int32) = nI (k + 3) from nI_add k 3]
        refine am_callV_r (As := [.int (nI (k + 3))]) (rest := []) ok_M_spells rfl rfl ok_M_byteAt oi_M_byteAt lk_6_78 (Or.inl ⟨_, _, _, rfl, rfl, rfl⟩) rfl rfl (Nat.le_of_ble_eq_true rfl) (c_M_byteAt _ C Y og n b hT (k + 3) (by omega)) ?_
        rintro v_ w_ ⟨rfl, rfl⟩ -
        refine am_eq_r (q' := (17, [some (.ref 19), some (.int (nI k)), some (.int 2), some (.int 3)], [.int (b (k + 3))], wd C Y og)) rfl ?_
        refine am_steps_r ok_M_spells 2 (q' := (19, [some (.ref 19), some (.int (nI k)), some (.int 2), some (.int 3)], [.int 3, .int 2, .int (b (k + 3))], wd C Y og)) rfl ?_
        refine am_callS_r (As := [.int 2, .int 3]) (rest := [.int (b (k + 3))]) ok_M_spells rfl rfl ok_M_letter os_M_letter lk_6_106 rfl rfl (Nat.le_of_ble_eq_true rfl) (c_M_letter_2 _ C Y og 3 (by omega)) ?_
        rintro v_ w_ ⟨rfl, rfl⟩ -
        refine am_eq_r (q' := (22, [some (.ref 19), some (.int (nI k)), some (.int 2), some (.int 3)], [.int 101, .int (b (k + 3))], wd C Y og)) rfl ?_
        refine am_steps_r ok_M_spells 1 (q' := (bif decide ((b (k + 3)) = 101) then 27 else 25, [some (.ref 19), some (.int (nI k)), some (.int 2), some (.int 3)], [], wd C Y og)) rfl ?_
        refine am_br_r (fun h_16 => ?_) (fun h_16 => ?_)
        · skip
          refine am_steps_r ok_M_spells 4 (q' := (4, [some (.ref 19), some (.int (nI k)), some (.int 2), some (.int 4)], [.int 4, .int 2], wd C Y og)) rfl ?_
          refine am_callS_r (As := [.int 2, .int 4]) (rest := []) ok_M_spells rfl rfl ok_M_letter os_M_letter lk_6_106 rfl rfl (Nat.le_of_ble_eq_true rfl) (c_M_letter_2 _ C Y og 4 (by omega)) ?_
          rintro v_ w_ ⟨rfl, rfl⟩ -
          refine am_eq_r (q' := (7, [some (.ref 19), some (.int (nI k)), some (.int 2), some (.int 4)], [.int 97], wd C Y og)) rfl ?_
          refine am_steps_r ok_M_spells 5 (q' := (14, [some (.ref 19), some (.int (nI k)), some (.int 2), some (.int 4)], [.int ((nI k) + 4), .ref 19], wd C Y og)) rfl ?_
          rw [show ((nI k) + 4 : Int32) = nI (k + 4) from nI_add k 4]
          refine am_callV_r (As := [.int (nI (k + 4))]) (rest := []) ok_M_spells rfl rfl ok_M_byteAt oi_M_byteAt lk_6_78 (Or.inl ⟨_, _, _, rfl, rfl, rfl⟩) rfl rfl (Nat.le_of_ble_eq_true rfl) (c_M_byteAt _ C Y og n b hT (k + 4) (by omega)) ?_
          rintro v_ w_ ⟨rfl, rfl⟩ -
          refine am_eq_r (q' := (17, [some (.ref 19), some (.int (nI k)), some (.int 2), some (.int 4)], [.int (b (k + 4))], wd C Y og)) rfl ?_
          refine am_steps_r ok_M_spells 2 (q' := (19, [some (.ref 19), some (.int (nI k)), some (.int 2), some (.int 4)], [.int 4, .int 2, .int (b (k + 4))], wd C Y og)) rfl ?_
          refine am_callS_r (As := [.int 2, .int 4]) (rest := [.int (b (k + 4))]) ok_M_spells rfl rfl ok_M_letter os_M_letter lk_6_106 rfl rfl (Nat.le_of_ble_eq_true rfl) (c_M_letter_2 _ C Y og 4 (by omega)) ?_
          rintro v_ w_ ⟨rfl, rfl⟩ -
          refine am_eq_r (q' := (22, [some (.ref 19), some (.int (nI k)), some (.int 2), some (.int 4)], [.int 97, .int (b (k + 4))], wd C Y og)) rfl ?_
          refine am_steps_r ok_M_spells 1 (q' := (bif decide ((b (k + 4)) = 97) then 27 else 25, [some (.ref 19), some (.int (nI k)), some (.int 2), some (.int 4)], [], wd C Y og)) rfl ?_
          refine am_br_r (fun h_20 => ?_) (fun h_20 => ?_)
          · skip
            refine am_steps_r ok_M_spells 4 (q' := (4, [some (.ref 19), some (.int (nI k)), some (.int 2), some (.int 5)], [.int 5, .int 2], wd C Y og)) rfl ?_
            refine am_callS_r (As := [.int 2, .int 5]) (rest := []) ok_M_spells rfl rfl ok_M_letter os_M_letter lk_6_106 rfl rfl (Nat.le_of_ble_eq_true rfl) (c_M_letter_2 _ C Y og 5 (by omega)) ?_
            rintro v_ w_ ⟨rfl, rfl⟩ -
            refine am_eq_r (q' := (7, [some (.ref 19), some (.int (nI k)), some (.int 2), some (.int 5)], [.int 109], wd C Y og)) rfl ?_
            refine am_steps_r ok_M_spells 5 (q' := (14, [some (.ref 19), some (.int (nI k)), some (.int 2), some (.int 5)], [.int ((nI k) + 5), .ref 19], wd C Y og)) rfl ?_
            rw [show ((nI k) + 5 : Int32) = nI (k + 5) from nI_add k 5]
            refine am_callV_r (As := [.int (nI (k + 5))]) (rest := []) ok_M_spells rfl rfl ok_M_byteAt oi_M_byteAt lk_6_78 (Or.inl ⟨_, _, _, rfl, rfl, rfl⟩) rfl rfl (Nat.le_of_ble_eq_true rfl) (c_M_byteAt _ C Y og n b hT (k + 5) (by omega)) ?_
            rintro v_ w_ ⟨rfl, rfl⟩ -
            refine am_eq_r (q' := (17, [some (.ref 19), some (.int (nI k)), some (.int 2), some (.int 5)], [.int (b (k + 5))], wd C Y og)) rfl ?_
            refine am_steps_r ok_M_spells 2 (q' := (19, [some (.ref 19), some (.int (nI k)), some (.int 2), some (.int 5)], [.int 5, .int 2, .int (b (k + 5))], wd C Y og)) rfl ?_
            refine am_callS_r (As := [.int 2, .int 5]) (rest := [.int (b (k + 5))]) ok_M_spells rfl rfl ok_M_letter os_M_letter lk_6_106 rfl rfl (Nat.le_of_ble_eq_true rfl) (c_M_letter_2 _ C Y og 5 (by omega)) ?_
            rintro v_ w_ ⟨rfl, rfl⟩ -
            refine am_eq_r (q' := (22, [some (.ref 19), some (.int (nI k)), some (.int 2), some (.int 5)], [.int 109, .int (b (k + 5))], wd C Y og)) rfl ?_
            refine am_steps_r ok_M_spells 1 (q' := (bif decide ((b (k + 5)) = 109) then 27 else 25, [some (.ref 19), some (.int (nI k)), some (.int 2), some (.int 5)], [], wd C Y og)) rfl ?_
            refine am_br_r (fun h_24 => ?_) (fun h_24 => ?_)
            · skip
              refine am_steps_r ok_M_spells 4 (q' := (4, [some (.ref 19), some (.int (nI k)), some (.int 2), some (.int 6)], [.int 6, .int 2], wd C Y og)) rfl ?_
              refine am_callS_r (As := [.int 2, .int 6]) (rest := []) ok_M_spells rfl rfl ok_M_letter os_M_letter lk_6_106 rfl rfl (Nat.le_of_ble_eq_true rfl) (c_M_letter_2 _ C Y og 6 (by omega)) ?_
              rintro v_ w_ ⟨rfl, rfl⟩ -
              refine am_eq_r (q' := (7, [some (.ref 19), some (.int (nI k)), some (.int 2), some (.int 6)], [.int 0], wd C Y og)) rfl ?_
              refine am_steps_r ok_M_spells 2 (q' := (34, [some (.ref 19), some (.int (nI k)), some (.int 2), some (.int 6)], [.int 1], wd C Y og)) rfl ?_
              refine am_zret_r ok_M_spells rfl rfl rfl rfl ?_
              refine ⟨?_, rfl⟩
              simp_all [txA, st_7, bz, Nat.add_assoc]
            · skip
              refine am_steps_r ok_M_spells 1 (q' := (26, [some (.ref 19), some (.int (nI k)), some (.int 2), some (.int 5)], [.int 0], wd C Y og)) rfl ?_
              refine am_zret_r ok_M_spells rfl rfl rfl rfl ?_
              refine ⟨?_, rfl⟩
              simp_all [txA, st_7, bz, Nat.add_assoc]
          · skip
            refine am_steps_r ok_M_spells 1 (q' := (26, [some (.ref 19), some (.int (nI k)), some (.int 2), some (.int 4)], [.int 0], wd C Y og)) rfl ?_
            refine am_zret_r ok_M_spells rfl rfl rfl rfl ?_
            refine ⟨?_, rfl⟩
            simp_all [txA, st_7, bz, Nat.add_assoc]
        · skip
          refine am_steps_r ok_M_spells 1 (q' := (26, [some (.ref 19), some (.int (nI k)), some (.int 2), some (.int 3)], [.int 0], wd C Y og)) rfl ?_
          refine am_zret_r ok_M_spells rfl rfl rfl rfl ?_
          refine ⟨?_, rfl⟩
          simp_all [txA, st_7, bz, Nat.add_assoc]
      · skip
        refine am_steps_r ok_M_spells 1 (q' := (26, [some (.ref 19), some (.int (nI k)), some (.int 2), some (.int 2)], [.int 0], wd C Y og)) rfl ?_
        refine am_zret_r ok_M_spells rfl rfl rfl rfl ?_
        refine ⟨?_, rfl⟩
        simp_all [txA, st_7, bz, Nat.add_assoc]
    · skip
      refine am_steps_r ok_M_spells 1 (q' := (26, [some (.ref 19), some (.int (nI k)), some (.int 2), some (.int 1)], [.int 0], wd C Y og)) rfl ?_
      refine am_zret_r ok_M_spells rfl rfl rfl rfl ?_
      refine ⟨?_, rfl⟩
      simp_all [txA, st_7, bz, Nat.add_assoc]
  · skip
    refine am_steps_r ok_M_spells 1 (q' := (26, [some (.ref 19), some (.int (nI k)), some (.int 2), some (.int 0)], [.int 0], wd C Y og)) rfl ?_
    refine am_zret_r ok_M_spells rfl rfl rfl rfl ?_
    refine ⟨?_, rfl⟩
    simp_all [txA, st_7, bz, Nat.add_assoc]
set_option maxHeartbeats 4000000 in
set_option maxRecDepth 100000 in
theorem c_M_spells_3 (d : Nat) (C : wd_C) (Y : wd_Y) (og : Nat → Int64) (n : Nat) (b : Nat → Int32) (hT : tpY Y n b) (k : Nat) (hk : k < 1073741000) : am_Mt l D cA ad fm (d + 1) m_M_spells [.ref 19, .int (nI k), .int 3] (wd C Y og) (fun v w' => v = some (.int (bz (txA b st_0 k))) ∧ w' = wd C Y og) := by
  refine am_mt ok_M_spells (by simp [am_arg, Value.category, m_M_spells, am_ml]) ?_
  refine am_eq_r (q' := (0, [some (.ref 19), some (.int (nI k)), some (.int 3), none], [], wd C Y og)) rfl ?_
  refine am_steps_r ok_M_spells 4 (q' := (4, [some (.ref 19), some (.int (nI k)), some (.int 3), some (.int 0)], [.int 0, .int 3], wd C Y og)) rfl ?_
  refine am_callS_r (As := [.int 3, .int 0]) (rest := []) ok_M_spells rfl rfl ok_M_letter os_M_letter lk_6_106 rfl rfl (Nat.le_of_ble_eq_true rfl) (c_M_letter_3 _ C Y og 0 (by omega)) ?_
  rintro v_ w_ ⟨rfl, rfl⟩ -
  refine am_eq_r (q' := (7, [some (.ref 19), some (.int (nI k)), some (.int 3), some (.int 0)], [.int 111], wd C Y og)) rfl ?_
  refine am_steps_r ok_M_spells 5 (q' := (14, [some (.ref 19), some (.int (nI k)), some (.int 3), some (.int 0)], [.int ((nI k) + 0), .ref 19], wd C Y og)) rfl ?_
  rw [show ((nI k) + 0 : Int32) = nI (k + 0) from nI_add k 0]
  refine am_callV_r (As := [.int (nI (k + 0))]) (rest := []) ok_M_spells rfl rfl ok_M_byteAt oi_M_byteAt lk_6_78 (Or.inl ⟨_, _, _, rfl, rfl, rfl⟩) rfl rfl (Nat.le_of_ble_eq_true rfl) (c_M_byteAt _ C Y og n b hT (k + 0) (by omega)) ?_
  rintro v_ w_ ⟨rfl, rfl⟩ -
  refine am_eq_r (q' := (17, [some (.ref 19), some (.int (nI k)), some (.int 3), some (.int 0)], [.int (b (k + 0))], wd C Y og)) rfl ?_
  refine am_steps_r ok_M_spells 2 (q' := (19, [some (.ref 19), some (.int (nI k)), some (.int 3), some (.int 0)], [.int 0, .int 3, .int (b (k + 0))], wd C Y og)) rfl ?_
  refine am_callS_r (As := [.int 3, .int 0]) (rest := [.int (b (k + 0))]) ok_M_spells rfl rfl ok_M_letter os_M_letter lk_6_106 rfl rfl (Nat.le_of_ble_eq_true rfl) (c_M_letter_3 _ C Y og 0 (by omega)) ?_
  rintro v_ w_ ⟨rfl, rfl⟩ -
  refine am_eq_r (q' := (22, [some (.ref 19), some (.int (nI k)), some (.int 3), some (.int 0)], [.int 111, .int (b (k + 0))], wd C Y og)) rfl ?_
  refine am_steps_r ok_M_spells 1 (q' := (bif decide ((b (k + 0)) = 111) then 27 else 25, [some (.ref 19), some (.int (nI k)), some (.int 3), some (.int 0)], [], wd C Y og)) rfl ?_
  refine am_br_r (fun h_4 => ?_) (fun h_4 => ?_)
  · skip
    refine am_steps_r ok_M_spells 4 (q' := (4, [some (.ref 19), some (.int (nI k)), some (.int 3), some (.int 1)], [.int 1, .int 3], wd C Y og)) rfl ?_
    refine am_callS_r (As := [.int 3, .int 1]) (rest := []) ok_M_spells rfl rfl ok_M_letter os_M_letter lk_6_106 rfl rfl (Nat.le_of_ble_eq_true rfl) (c_M_letter_3 _ C Y og 1 (by omega)) ?_
    rintro v_ w_ ⟨rfl, rfl⟩ -
    refine am_eq_r (q' := (7, [some (.ref 19), some (.int (nI k)), some (.int 3), some (.int 1)], [.int 98], wd C Y og)) rfl ?_
    refine am_steps_r ok_M_spells 5 (q' := (14, [some (.ref 19), some (.int (nI k)), some (.int 3), some (.int 1)], [.int ((nI k) + 1), .ref 19], wd C Y og)) rfl ?_
    rw [show ((nI k) + 1 : Int32) = nI (k + 1) from nI_add k 1]
    refine am_callV_r (As := [.int (nI (k + 1))]) (rest := []) ok_M_spells rfl rfl ok_M_byteAt oi_M_byteAt lk_6_78 (Or.inl ⟨_, _, _, rfl, rfl, rfl⟩) rfl rfl (Nat.le_of_ble_eq_true rfl) (c_M_byteAt _ C Y og n b hT (k + 1) (by omega)) ?_
    rintro v_ w_ ⟨rfl, rfl⟩ -
    refine am_eq_r (q' := (17, [some (.ref 19), some (.int (nI k)), some (.int 3), some (.int 1)], [.int (b (k + 1))], wd C Y og)) rfl ?_
    refine am_steps_r ok_M_spells 2 (q' := (19, [some (.ref 19), some (.int (nI k)), some (.int 3), some (.int 1)], [.int 1, .int 3, .int (b (k + 1))], wd C Y og)) rfl ?_
    refine am_callS_r (As := [.int 3, .int 1]) (rest := [.int (b (k + 1))]) ok_M_spells rfl rfl ok_M_letter os_M_letter lk_6_106 rfl rfl (Nat.le_of_ble_eq_true rfl) (c_M_letter_3 _ C Y og 1 (by omega)) ?_
    rintro v_ w_ ⟨rfl, rfl⟩ -
    refine am_eq_r (q' := (22, [some (.ref 19), some (.int (nI k)), some (.int 3), some (.int 1)], [.int 98, .int (b (k + 1))], wd C Y og)) rfl ?_
    refine am_steps_r ok_M_spells 1 (q' := (bif decide ((b (k + 1)) = 98) then 27 else 25, [some (.ref 19), some (.int (nI k)), some (.int 3), some (.int 1)], [], wd C Y og)) rfl ?_
    refine am_br_r (fun h_8 => ?_) (fun h_8 => ?_)
    · skip
      refine am_steps_r ok_M_spells 4 (q' := (4, [some (.ref 19), some (.int (nI k)), some (.int 3), some (.int 2)], [.int 2, .int 3], wd C Y og)) rfl ?_
      refine am_callS_r (As := [.int 3, .int 2]) (rest := []) ok_M_spells rfl rfl ok_M_letter os_M_letter lk_6_106 rfl rfl (Nat.le_of_ble_eq_true rfl) (c_M_letter_3 _ C Y og 2 (by omega)) ?_
      rintro v_ w_ ⟨rfl, rfl⟩ -
      refine am_eq_r (q' := (7, [some (.ref 19), some (.int (nI k)), some (.int 3), some (.int 2)], [.int 106], wd C Y og)) rfl ?_
      refine am_steps_r ok_M_spells 5 (q' := (14, [some (.ref 19), some (.int (nI k)), some (.int 3), some (.int 2)], [.int ((nI k) + 2), .ref 19], wd C Y og)) rfl ?_
      rw [show ((nI k) + 2 : Int32) = nI (k + 2) from nI_add k 2]
      refine am_callV_r (As := [.int (nI (k + 2))]) (rest := []) ok_M_spells rfl rfl ok_M_byteAt oi_M_byteAt lk_6_78 (Or.inl ⟨_, _, _, rfl, rfl, rfl⟩) rfl rfl (Nat.le_of_ble_eq_true rfl) (c_M_byteAt _ C Y og n b hT (k + 2) (by omega)) ?_
      rintro v_ w_ ⟨rfl, rfl⟩ -
      refine am_eq_r (q' := (17, [some (.ref 19), some (.int (nI k)), some (.int 3), some (.int 2)], [.int (b (k + 2))], wd C Y og)) rfl ?_
      refine am_steps_r ok_M_spells 2 (q' := (19, [some (.ref 19), some (.int (nI k)), some (.int 3), some (.int 2)], [.int 2, .int 3, .int (b (k + 2))], wd C Y og)) rfl ?_
      refine am_callS_r (As := [.int 3, .int 2]) (rest := [.int (b (k + 2))]) ok_M_spells rfl rfl ok_M_letter os_M_letter lk_6_106 rfl rfl (Nat.le_of_ble_eq_true rfl) (c_M_letter_3 _ C Y og 2 (by omega)) ?_
      rintro v_ w_ ⟨rfl, rfl⟩ -
      refine am_eq_r (q' := (22, [some (.ref 19), some (.int (nI k)), some (.int 3), some (.int 2)], [.int 106, .int (b (k + 2))], wd C Y og)) rfl ?_
      refine am_steps_r ok_M_spells 1 (q' := (bif decide ((b (k + 2)) = 106) then 27 else 25, [some (.ref 19), some (.int (nI k)), some (.int 3), some (.int 2)], [], wd C Y og)) rfl ?_
      refine am_br_r (fun h_12 => ?_) (fun h_12 => ?_)
      · skip
        refine am_steps_r ok_M_spells 4 (q' := (4, [some (.ref 19), some (.int (nI k)), some (.int 3), some (.int 3)], [.int 3, .int 3], wd C Y og)) rfl ?_
        refine am_callS_r (As := [.int 3, .int 3]) (rest := []) ok_M_spells rfl rfl ok_M_letter os_M_letter lk_6_106 rfl rfl (Nat.le_of_ble_eq_true rfl) (c_M_letter_3 _ C Y og 3 (by omega)) ?_
        rintro v_ w_ ⟨rfl, rfl⟩ -
        refine am_eq_r (q' := (7, [some (.ref 19), some (.int (nI k)), some (.int 3), some (.int 3)], [.int 0], wd C Y og)) rfl ?_
        refine am_steps_r ok_M_spells 2 (q' := (34, [some (.ref 19), some (.int (nI k)), some (.int 3), some (.int 3)], [.int 1], wd C Y og)) rfl ?_
        refine am_zret_r ok_M_spells rfl rfl rfl rfl ?_
        refine ⟨?_, rfl⟩
        simp_all [txA, st_0, bz, Nat.add_assoc]
      · skip
        refine am_steps_r ok_M_spells 1 (q' := (26, [some (.ref 19), some (.int (nI k)), some (.int 3), some (.int 2)], [.int 0], wd C Y og)) rfl ?_
        refine am_zret_r ok_M_spells rfl rfl rfl rfl ?_
        refine ⟨?_, rfl⟩
        simp_all [txA, st_0, bz, Nat.add_assoc]
    · skip
      refine am_steps_r ok_M_spells 1 (q' := (26, [some (.ref 19), some (.int (nI k)), some (.int 3), some (.int 1)], [.int 0], wd C Y og)) rfl ?_
      refine am_zret_r ok_M_spells rfl rfl rfl rfl ?_
      refine ⟨?_, rfl⟩
      simp_all [txA, st_0, bz, Nat.add_assoc]
  · skip
    refine am_steps_r ok_M_spells 1 (q' := (26, [some (.ref 19), some (.int (nI k)), some (.int 3), some (.int 0)], [.int 0], wd C Y og)) rfl ?_
    refine am_zret_r ok_M_spells rfl rfl rfl rfl ?_
    refine ⟨?_, rfl⟩
    simp_all [txA, st_0, bz, Nat.add_assoc]
set_option maxHeartbeats 4000000 in
set_option maxRecDepth 100000 in
theorem c_M_spells_4 (d : Nat) (C : wd_C) (Y : wd_Y) (og : Nat → Int64) (n : Nat) (b : Nat → Int32) (hT : tpY Y n b) (k : Nat) (hk : k < 1073741000) : am_Mt l D cA ad fm (d + 1) m_M_spells [.ref 19, .int (nI k), .int 4] (wd C Y og) (fun v w' => v = some (.int (bz (txA b st_5 k))) ∧ w' = wd C Y og) := by
  refine am_mt ok_M_spells (by simp [am_arg, Value.category, m_M_spells, am_ml]) ?_
  refine am_eq_r (q' := (0, [some (.ref 19), some (.int (nI k)), some (.int 4), none], [], wd C Y og)) rfl ?_
  refine am_steps_r ok_M_spells 4 (q' := (4, [some (.ref 19), some (.int (nI k)), some (.int 4), some (.int 0)], [.int 0, .int 4], wd C Y og)) rfl ?_
  refine am_callS_r (As := [.int 4, .int 0]) (rest := []) ok_M_spells rfl rfl ok_M_letter os_M_letter lk_6_106 rfl rfl (Nat.le_of_ble_eq_true rfl) (c_M_letter_4 _ C Y og 0 (by omega)) ?_
  rintro v_ w_ ⟨rfl, rfl⟩ -
  refine am_eq_r (q' := (7, [some (.ref 19), some (.int (nI k)), some (.int 4), some (.int 0)], [.int 116], wd C Y og)) rfl ?_
  refine am_steps_r ok_M_spells 5 (q' := (14, [some (.ref 19), some (.int (nI k)), some (.int 4), some (.int 0)], [.int ((nI k) + 0), .ref 19], wd C Y og)) rfl ?_
  rw [show ((nI k) + 0 : Int32) = nI (k + 0) from nI_add k 0]
  refine am_callV_r (As := [.int (nI (k + 0))]) (rest := []) ok_M_spells rfl rfl ok_M_byteAt oi_M_byteAt lk_6_78 (Or.inl ⟨_, _, _, rfl, rfl, rfl⟩) rfl rfl (Nat.le_of_ble_eq_true rfl) (c_M_byteAt _ C Y og n b hT (k + 0) (by omega)) ?_
  rintro v_ w_ ⟨rfl, rfl⟩ -
  refine am_eq_r (q' := (17, [some (.ref 19), some (.int (nI k)), some (.int 4), some (.int 0)], [.int (b (k + 0))], wd C Y og)) rfl ?_
  refine am_steps_r ok_M_spells 2 (q' := (19, [some (.ref 19), some (.int (nI k)), some (.int 4), some (.int 0)], [.int 0, .int 4, .int (b (k + 0))], wd C Y og)) rfl ?_
  refine am_callS_r (As := [.int 4, .int 0]) (rest := [.int (b (k + 0))]) ok_M_spells rfl rfl ok_M_letter os_M_letter lk_6_106 rfl rfl (Nat.le_of_ble_eq_true rfl) (c_M_letter_4 _ C Y og 0 (by omega)) ?_
  rintro v_ w_ ⟨rfl, rfl⟩ -
  refine am_eq_r (q' := (22, [some (.ref 19), some (.int (nI k)), some (.int 4), some (.int 0)], [.int 116, .int (b (k + 0))], wd C Y og)) rfl ?_
  refine am_steps_r ok_M_spells 1 (q' := (bif decide ((b (k + 0)) = 116) then 27 else 25, [some (.ref 19), some (.int (nI k)), some (.int 4), some (.int 0)], [], wd C Y og)) rfl ?_
  refine am_br_r (fun h_4 => ?_) (fun h_4 => ?_)
  · skip
    refine am_steps_r ok_M_spells 4 (q' := (4, [some (.ref 19), some (.int (nI k)), some (.int 4), some (.int 1)], [.int 1, .int 4], wd C Y og)) rfl ?_
    refine am_callS_r (As := [.int 4, .int 1]) (rest := []) ok_M_spells rfl rfl ok_M_letter os_M_letter lk_6_106 rfl rfl (Nat.le_of_ble_eq_true rfl) (c_M_letter_4 _ C Y og 1 (by omega)) ?_
    rintro v_ w_ ⟨rfl, rfl⟩ -
    refine am_eq_r (q' := (7, [some (.ref 19), some (.int (nI k)), some (.int 4), some (.int 1)], [.int 114], wd C Y og)) rfl ?_
    refine am_steps_r ok_M_spells 5 (q' := (14, [some (.ref 19), some (.int (nI k)), some (.int 4), some (.int 1)], [.int ((nI k) + 1), .ref 19], wd C Y og)) rfl ?_
    rw [show ((nI k) + 1 : Int32) = nI (k + 1) from nI_add k 1]
    refine am_callV_r (As := [.int (nI (k + 1))]) (rest := []) ok_M_spells rfl rfl ok_M_byteAt oi_M_byteAt lk_6_78 (Or.inl ⟨_, _, _, rfl, rfl, rfl⟩) rfl rfl (Nat.le_of_ble_eq_true rfl) (c_M_byteAt _ C Y og n b hT (k + 1) (by omega)) ?_
    rintro v_ w_ ⟨rfl, rfl⟩ -
    refine am_eq_r (q' := (17, [some (.ref 19), some (.int (nI k)), some (.int 4), some (.int 1)], [.int (b (k + 1))], wd C Y og)) rfl ?_
    refine am_steps_r ok_M_spells 2 (q' := (19, [some (.ref 19), some (.int (nI k)), some (.int 4), some (.int 1)], [.int 1, .int 4, .int (b (k + 1))], wd C Y og)) rfl ?_
    refine am_callS_r (As := [.int 4, .int 1]) (rest := [.int (b (k + 1))]) ok_M_spells rfl rfl ok_M_letter os_M_letter lk_6_106 rfl rfl (Nat.le_of_ble_eq_true rfl) (c_M_letter_4 _ C Y og 1 (by omega)) ?_
    rintro v_ w_ ⟨rfl, rfl⟩ -
    refine am_eq_r (q' := (22, [some (.ref 19), some (.int (nI k)), some (.int 4), some (.int 1)], [.int 114, .int (b (k + 1))], wd C Y og)) rfl ?_
    refine am_steps_r ok_M_spells 1 (q' := (bif decide ((b (k + 1)) = 114) then 27 else 25, [some (.ref 19), some (.int (nI k)), some (.int 4), some (.int 1)], [], wd C Y og)) rfl ?_
    refine am_br_r (fun h_8 => ?_) (fun h_8 => ?_)
    · skip
      refine am_steps_r ok_M_spells 4 (q' := (4, [some (.ref 19), some (.int (nI k)), some (.int 4), some (.int 2)], [.int 2, .int 4], wd C Y og)) rfl ?_
      refine am_callS_r (As := [.int 4, .int 2]) (rest := []) ok_M_spells rfl rfl ok_M_letter os_M_letter lk_6_106 rfl rfl (Nat.le_of_ble_eq_true rfl) (c_M_letter_4 _ C Y og 2 (by omega)) ?_
      rintro v_ w_ ⟨rfl, rfl⟩ -
      refine am_eq_r (q' := (7, [some (.ref 19), some (.int (nI k)), some (.int 4), some (.int 2)], [.int 117], wd C Y og)) rfl ?_
      refine am_steps_r ok_M_spells 5 (q' := (14, [some (.ref 19), some (.int (nI k)), some (.int 4), some (.int 2)], [.int ((nI k) + 2), .ref 19], wd C Y og)) rfl ?_
      rw [show ((nI k) + 2 : Int32) = nI (k + 2) from nI_add k 2]
      refine am_callV_r (As := [.int (nI (k + 2))]) (rest := []) ok_M_spells rfl rfl ok_M_byteAt oi_M_byteAt lk_6_78 (Or.inl ⟨_, _, _, rfl, rfl, rfl⟩) rfl rfl (Nat.le_of_ble_eq_true rfl) (c_M_byteAt _ C Y og n b hT (k + 2) (by omega)) ?_
      rintro v_ w_ ⟨rfl, rfl⟩ -
      refine am_eq_r (q' := (17, [some (.ref 19), some (.int (nI k)), some (.int 4), some (.int 2)], [.int (b (k + 2))], wd C Y og)) rfl ?_
      refine am_steps_r ok_M_spells 2 (q' := (19, [some (.ref 19), some (.int (nI k)), some (.int 4), some (.int 2)], [.int 2, .int 4, .int (b (k + 2))], wd C Y og)) rfl ?_
      refine am_callS_r (As := [.int 4, .int 2]) (rest := [.int (b (k + 2))]) ok_M_spells rfl rfl ok_M_letter os_M_letter lk_6_106 rfl rfl (Nat.le_of_ble_eq_true rfl) (c_M_letter_4 _ C Y og 2 (by omega)) ?_
      rintro v_ w_ ⟨rfl, rfl⟩ -
      refine am_eq_r (q' := (22, [some (.ref 19), some (.int (nI k)), some (.int 4), some (.int 2)], [.int 117, .int (b (k + 2))], wd C Y og)) rfl ?_
      refine am_steps_r ok_M_spells 1 (q' := (bif decide ((b (k + 2)) = 117) then 27 else 25, [some (.ref 19), some (.int (nI k)), some (.int 4), some (.int 2)], [], wd C Y og)) rfl ?_
      refine am_br_r (fun h_12 => ?_) (fun h_12 => ?_)
      · skip
        refine am_steps_r ok_M_spells 4 (q' := (4, [some (.ref 19), some (.int (nI k)), some (.int 4), some (.int 3)], [.int 3, .int 4], wd C Y og)) rfl ?_
        refine am_callS_r (As := [.int 4, .int 3]) (rest := []) ok_M_spells rfl rfl ok_M_letter os_M_letter lk_6_106 rfl rfl (Nat.le_of_ble_eq_true rfl) (c_M_letter_4 _ C Y og 3 (by omega)) ?_
        rintro v_ w_ ⟨rfl, rfl⟩ -
        refine am_eq_r (q' := (7, [some (.ref 19), some (.int (nI k)), some (.int 4), some (.int 3)], [.int 101], wd C Y og)) rfl ?_
        refine am_steps_r ok_M_spells 5 (q' := (14, [some (.ref 19), some (.int (nI k)), some (.int 4), some (.int 3)], [.int ((nI k) + 3), .ref 19], wd C Y og)) rfl ?_
        rw [show ((nI k) + 3 : Int32) = nI (k + 3) from nI_add k 3]
        refine am_callV_r (As := [.int (nI (k + 3))]) (rest := []) ok_M_spells rfl rfl ok_M_byteAt oi_M_byteAt lk_6_78 (Or.inl ⟨_, _, _, rfl, rfl, rfl⟩) rfl rfl (Nat.le_of_ble_eq_true rfl) (c_M_byteAt _ C Y og n b hT (k + 3) (by omega)) ?_
        rintro v_ w_ ⟨rfl, rfl⟩ -
        refine am_eq_r (q' := (17, [some (.ref 19), some (.int (nI k)), some (.int 4), some (.int 3)], [.int (b (k + 3))], wd C Y og)) rfl ?_
        refine am_steps_r ok_M_spells 2 (q' := (19, [some (.ref 19), some (.int (nI k)), some (.int 4), some (.int 3)], [.int 3, .int 4, .int (b (k + 3))], wd C Y og)) rfl ?_
        refine am_callS_r (As := [.int 4, .int 3]) (rest := [.int (b (k + 3))]) ok_M_spells rfl rfl ok_M_letter os_M_letter lk_6_106 rfl rfl (Nat.le_of_ble_eq_true rfl) (c_M_letter_4 _ C Y og 3 (by omega)) ?_
        rintro v_ w_ ⟨rfl, rfl⟩ -
        refine am_eq_r (q' := (22, [some (.ref 19), some (.int (nI k)), some (.int 4), some (.int 3)], [.int 101, .int (b (k + 3))], wd C Y og)) rfl ?_
        refine am_steps_r ok_M_spells 1 (q' := (bif decide ((b (k + 3)) = 101) then 27 else 25, [some (.ref 19), some (.int (nI k)), some (.int 4), some (.int 3)], [], wd C Y og)) rfl ?_
        refine am_br_r (fun h_16 => ?_) (fun h_16 => ?_)
        · skip
          refine am_steps_r ok_M_spells 4 (q' := (4, [some (.ref 19), some (.int (nI k)), some (.int 4), some (.int 4)], [.int 4, .int 4], wd C Y og)) rfl ?_
          refine am_callS_r (As := [.int 4, .int 4]) (rest := []) ok_M_spells rfl rfl ok_M_letter os_M_letter lk_6_106 rfl rfl (Nat.le_of_ble_eq_true rfl) (c_M_letter_4 _ C Y og 4 (by omega)) ?_
          rintro v_ w_ ⟨rfl, rfl⟩ -
          refine am_eq_r (q' := (7, [some (.ref 19), some (.int (nI k)), some (.int 4), some (.int 4)], [.int 0], wd C Y og)) rfl ?_
          refine am_steps_r ok_M_spells 2 (q' := (34, [some (.ref 19), some (.int (nI k)), some (.int 4), some (.int 4)], [.int 1], wd C Y og)) rfl ?_
          refine am_zret_r ok_M_spells rfl rfl rfl rfl ?_
          refine ⟨?_, rfl⟩
          simp_all [txA, st_5, bz, Nat.add_assoc]
        · skip
          refine am_steps_r ok_M_spells 1 (q' := (26, [some (.ref 19), some (.int (nI k)), some (.int 4), some (.int 3)], [.int 0], wd C Y og)) rfl ?_
          refine am_zret_r ok_M_spells rfl rfl rfl rfl ?_
          refine ⟨?_, rfl⟩
          simp_all [txA, st_5, bz, Nat.add_assoc]
      · skip
        refine am_steps_r ok_M_spells 1 (q' := (26, [some (.ref 19), some (.int (nI k)), some (.int 4), some (.int 2)], [.int 0], wd C Y og)) rfl ?_
        refine am_zret_r ok_M_spells rfl rfl rfl rfl ?_
        refine ⟨?_, rfl⟩
        simp_all [txA, st_5, bz, Nat.add_assoc]
    · skip
      refine am_steps_r ok_M_spells 1 (q' := (26, [some (.ref 19), some (.int (nI k)), some (.int 4), some (.int 1)], [.int 0], wd C Y og)) rfl ?_
      refine am_zret_r ok_M_spells rfl rfl rfl rfl ?_
      refine ⟨?_, rfl⟩
      simp_all [txA, st_5, bz, Nat.add_assoc]
  · skip
    refine am_steps_r ok_M_spells 1 (q' := (26, [some (.ref 19), some (.int (nI k)), some (.int 4), some (.int 0)], [.int 0], wd C Y og)) rfl ?_
    refine am_zret_r ok_M_spells rfl rfl rfl rfl ?_
    refine ⟨?_, rfl⟩
    simp_all [txA, st_5, bz, Nat.add_assoc]
set_option maxHeartbeats 4000000 in
set_option maxRecDepth 100000 in
theorem c_M_spells_5 (d : Nat) (C : wd_C) (Y : wd_Y) (og : Nat → Int64) (n : Nat) (b : Nat → Int32) (hT : tpY Y n b) (k : Nat) (hk : k < 1073741000) : am_Mt l D cA ad fm (d + 1) m_M_spells [.ref 19, .int (nI k), .int 5] (wd C Y og) (fun v w' => v = some (.int (bz (txA b st_6 k))) ∧ w' = wd C Y og) := by
  refine am_mt ok_M_spells (by simp [am_arg, Value.category, m_M_spells, am_ml]) ?_
  refine am_eq_r (q' := (0, [some (.ref 19), some (.int (nI k)), some (.int 5), none], [], wd C Y og)) rfl ?_
  refine am_steps_r ok_M_spells 4 (q' := (4, [some (.ref 19), some (.int (nI k)), some (.int 5), some (.int 0)], [.int 0, .int 5], wd C Y og)) rfl ?_
  refine am_callS_r (As := [.int 5, .int 0]) (rest := []) ok_M_spells rfl rfl ok_M_letter os_M_letter lk_6_106 rfl rfl (Nat.le_of_ble_eq_true rfl) (c_M_letter_5 _ C Y og 0 (by omega)) ?_
  rintro v_ w_ ⟨rfl, rfl⟩ -
  refine am_eq_r (q' := (7, [some (.ref 19), some (.int (nI k)), some (.int 5), some (.int 0)], [.int 102], wd C Y og)) rfl ?_
  refine am_steps_r ok_M_spells 5 (q' := (14, [some (.ref 19), some (.int (nI k)), some (.int 5), some (.int 0)], [.int ((nI k) + 0), .ref 19], wd C Y og)) rfl ?_
  rw [show ((nI k) + 0 : Int32) = nI (k + 0) from nI_add k 0]
  refine am_callV_r (As := [.int (nI (k + 0))]) (rest := []) ok_M_spells rfl rfl ok_M_byteAt oi_M_byteAt lk_6_78 (Or.inl ⟨_, _, _, rfl, rfl, rfl⟩) rfl rfl (Nat.le_of_ble_eq_true rfl) (c_M_byteAt _ C Y og n b hT (k + 0) (by omega)) ?_
  rintro v_ w_ ⟨rfl, rfl⟩ -
  refine am_eq_r (q' := (17, [some (.ref 19), some (.int (nI k)), some (.int 5), some (.int 0)], [.int (b (k + 0))], wd C Y og)) rfl ?_
  refine am_steps_r ok_M_spells 2 (q' := (19, [some (.ref 19), some (.int (nI k)), some (.int 5), some (.int 0)], [.int 0, .int 5, .int (b (k + 0))], wd C Y og)) rfl ?_
  refine am_callS_r (As := [.int 5, .int 0]) (rest := [.int (b (k + 0))]) ok_M_spells rfl rfl ok_M_letter os_M_letter lk_6_106 rfl rfl (Nat.le_of_ble_eq_true rfl) (c_M_letter_5 _ C Y og 0 (by omega)) ?_
  rintro v_ w_ ⟨rfl, rfl⟩ -
  refine am_eq_r (q' := (22, [some (.ref 19), some (.int (nI k)), some (.int 5), some (.int 0)], [.int 102, .int (b (k + 0))], wd C Y og)) rfl ?_
  refine am_steps_r ok_M_spells 1 (q' := (bif decide ((b (k + 0)) = 102) then 27 else 25, [some (.ref 19), some (.int (nI k)), some (.int 5), some (.int 0)], [], wd C Y og)) rfl ?_
  refine am_br_r (fun h_4 => ?_) (fun h_4 => ?_)
  · skip
    refine am_steps_r ok_M_spells 4 (q' := (4, [some (.ref 19), some (.int (nI k)), some (.int 5), some (.int 1)], [.int 1, .int 5], wd C Y og)) rfl ?_
    refine am_callS_r (As := [.int 5, .int 1]) (rest := []) ok_M_spells rfl rfl ok_M_letter os_M_letter lk_6_106 rfl rfl (Nat.le_of_ble_eq_true rfl) (c_M_letter_5 _ C Y og 1 (by omega)) ?_
    rintro v_ w_ ⟨rfl, rfl⟩ -
    refine am_eq_r (q' := (7, [some (.ref 19), some (.int (nI k)), some (.int 5), some (.int 1)], [.int 97], wd C Y og)) rfl ?_
    refine am_steps_r ok_M_spells 5 (q' := (14, [some (.ref 19), some (.int (nI k)), some (.int 5), some (.int 1)], [.int ((nI k) + 1), .ref 19], wd C Y og)) rfl ?_
    rw [show ((nI k) + 1 : Int32) = nI (k + 1) from nI_add k 1]
    refine am_callV_r (As := [.int (nI (k + 1))]) (rest := []) ok_M_spells rfl rfl ok_M_byteAt oi_M_byteAt lk_6_78 (Or.inl ⟨_, _, _, rfl, rfl, rfl⟩) rfl rfl (Nat.le_of_ble_eq_true rfl) (c_M_byteAt _ C Y og n b hT (k + 1) (by omega)) ?_
    rintro v_ w_ ⟨rfl, rfl⟩ -
    refine am_eq_r (q' := (17, [some (.ref 19), some (.int (nI k)), some (.int 5), some (.int 1)], [.int (b (k + 1))], wd C Y og)) rfl ?_
    refine am_steps_r ok_M_spells 2 (q' := (19, [some (.ref 19), some (.int (nI k)), some (.int 5), some (.int 1)], [.int 1, .int 5, .int (b (k + 1))], wd C Y og)) rfl ?_
    refine am_callS_r (As := [.int 5, .int 1]) (rest := [.int (b (k + 1))]) ok_M_spells rfl rfl ok_M_letter os_M_letter lk_6_106 rfl rfl (Nat.le_of_ble_eq_true rfl) (c_M_letter_5 _ C Y og 1 (by omega)) ?_
    rintro v_ w_ ⟨rfl, rfl⟩ -
    refine am_eq_r (q' := (22, [some (.ref 19), some (.int (nI k)), some (.int 5), some (.int 1)], [.int 97, .int (b (k + 1))], wd C Y og)) rfl ?_
    refine am_steps_r ok_M_spells 1 (q' := (bif decide ((b (k + 1)) = 97) then 27 else 25, [some (.ref 19), some (.int (nI k)), some (.int 5), some (.int 1)], [], wd C Y og)) rfl ?_
    refine am_br_r (fun h_8 => ?_) (fun h_8 => ?_)
    · skip
      refine am_steps_r ok_M_spells 4 (q' := (4, [some (.ref 19), some (.int (nI k)), some (.int 5), some (.int 2)], [.int 2, .int 5], wd C Y og)) rfl ?_
      refine am_callS_r (As := [.int 5, .int 2]) (rest := []) ok_M_spells rfl rfl ok_M_letter os_M_letter lk_6_106 rfl rfl (Nat.le_of_ble_eq_true rfl) (c_M_letter_5 _ C Y og 2 (by omega)) ?_
      rintro v_ w_ ⟨rfl, rfl⟩ -
      refine am_eq_r (q' := (7, [some (.ref 19), some (.int (nI k)), some (.int 5), some (.int 2)], [.int 108], wd C Y og)) rfl ?_
      refine am_steps_r ok_M_spells 5 (q' := (14, [some (.ref 19), some (.int (nI k)), some (.int 5), some (.int 2)], [.int ((nI k) + 2), .ref 19], wd C Y og)) rfl ?_
      rw [show ((nI k) + 2 : Int32) = nI (k + 2) from nI_add k 2]
      refine am_callV_r (As := [.int (nI (k + 2))]) (rest := []) ok_M_spells rfl rfl ok_M_byteAt oi_M_byteAt lk_6_78 (Or.inl ⟨_, _, _, rfl, rfl, rfl⟩) rfl rfl (Nat.le_of_ble_eq_true rfl) (c_M_byteAt _ C Y og n b hT (k + 2) (by omega)) ?_
      rintro v_ w_ ⟨rfl, rfl⟩ -
      refine am_eq_r (q' := (17, [some (.ref 19), some (.int (nI k)), some (.int 5), some (.int 2)], [.int (b (k + 2))], wd C Y og)) rfl ?_
      refine am_steps_r ok_M_spells 2 (q' := (19, [some (.ref 19), some (.int (nI k)), some (.int 5), some (.int 2)], [.int 2, .int 5, .int (b (k + 2))], wd C Y og)) rfl ?_
      refine am_callS_r (As := [.int 5, .int 2]) (rest := [.int (b (k + 2))]) ok_M_spells rfl rfl ok_M_letter os_M_letter lk_6_106 rfl rfl (Nat.le_of_ble_eq_true rfl) (c_M_letter_5 _ C Y og 2 (by omega)) ?_
      rintro v_ w_ ⟨rfl, rfl⟩ -
      refine am_eq_r (q' := (22, [some (.ref 19), some (.int (nI k)), some (.int 5), some (.int 2)], [.int 108, .int (b (k + 2))], wd C Y og)) rfl ?_
      refine am_steps_r ok_M_spells 1 (q' := (bif decide ((b (k + 2)) = 108) then 27 else 25, [some (.ref 19), some (.int (nI k)), some (.int 5), some (.int 2)], [], wd C Y og)) rfl ?_
      refine am_br_r (fun h_12 => ?_) (fun h_12 => ?_)
      · skip
        refine am_steps_r ok_M_spells 4 (q' := (4, [some (.ref 19), some (.int (nI k)), some (.int 5), some (.int 3)], [.int 3, .int 5], wd C Y og)) rfl ?_
        refine am_callS_r (As := [.int 5, .int 3]) (rest := []) ok_M_spells rfl rfl ok_M_letter os_M_letter lk_6_106 rfl rfl (Nat.le_of_ble_eq_true rfl) (c_M_letter_5 _ C Y og 3 (by omega)) ?_
        rintro v_ w_ ⟨rfl, rfl⟩ -
        refine am_eq_r (q' := (7, [some (.ref 19), some (.int (nI k)), some (.int 5), some (.int 3)], [.int 115], wd C Y og)) rfl ?_
        refine am_steps_r ok_M_spells 5 (q' := (14, [some (.ref 19), some (.int (nI k)), some (.int 5), some (.int 3)], [.int ((nI k) + 3), .ref 19], wd C Y og)) rfl ?_
        rw [show ((nI k) + 3 : Int32) = nI (k + 3) from nI_add k 3]
        refine am_callV_r (As := [.int (nI (k + 3))]) (rest := []) ok_M_spells rfl rfl ok_M_byteAt oi_M_byteAt lk_6_78 (Or.inl ⟨_, _, _, rfl, rfl, rfl⟩) rfl rfl (Nat.le_of_ble_eq_true rfl) (c_M_byteAt _ C Y og n b hT (k + 3) (by omega)) ?_
        rintro v_ w_ ⟨rfl, rfl⟩ -
        refine am_eq_r (q' := (17, [some (.ref 19), some (.int (nI k)), some (.int 5), some (.int 3)], [.int (b (k + 3))], wd C Y og)) rfl ?_
        refine am_steps_r ok_M_spells 2 (q' := (19, [some (.ref 19), some (.int (nI k)), some (.int 5), some (.int 3)], [.int 3, .int 5, .int (b (k + 3))], wd C Y og)) rfl ?_
        refine am_callS_r (As := [.int 5, .int 3]) (rest := [.int (b (k + 3))]) ok_M_spells rfl rfl ok_M_letter os_M_letter lk_6_106 rfl rfl (Nat.le_of_ble_eq_true rfl) (c_M_letter_5 _ C Y og 3 (by omega)) ?_
        rintro v_ w_ ⟨rfl, rfl⟩ -
        refine am_eq_r (q' := (22, [some (.ref 19), some (.int (nI k)), some (.int 5), some (.int 3)], [.int 115, .int (b (k + 3))], wd C Y og)) rfl ?_
        refine am_steps_r ok_M_spells 1 (q' := (bif decide ((b (k + 3)) = 115) then 27 else 25, [some (.ref 19), some (.int (nI k)), some (.int 5), some (.int 3)], [], wd C Y og)) rfl ?_
        refine am_br_r (fun h_16 => ?_) (fun h_16 => ?_)
        · skip
          refine am_steps_r ok_M_spells 4 (q' := (4, [some (.ref 19), some (.int (nI k)), some (.int 5), some (.int 4)], [.int 4, .int 5], wd C Y og)) rfl ?_
          refine am_callS_r (As := [.int 5, .int 4]) (rest := []) ok_M_spells rfl rfl ok_M_letter os_M_letter lk_6_106 rfl rfl (Nat.le_of_ble_eq_true rfl) (c_M_letter_5 _ C Y og 4 (by omega)) ?_
          rintro v_ w_ ⟨rfl, rfl⟩ -
          refine am_eq_r (q' := (7, [some (.ref 19), some (.int (nI k)), some (.int 5), some (.int 4)], [.int 101], wd C Y og)) rfl ?_
          refine am_steps_r ok_M_spells 5 (q' := (14, [some (.ref 19), some (.int (nI k)), some (.int 5), some (.int 4)], [.int ((nI k) + 4), .ref 19], wd C Y og)) rfl ?_
          rw [show ((nI k) + 4 : Int32) = nI (k + 4) from nI_add k 4]
          refine am_callV_r (As := [.int (nI (k + 4))]) (rest := []) ok_M_spells rfl rfl ok_M_byteAt oi_M_byteAt lk_6_78 (Or.inl ⟨_, _, _, rfl, rfl, rfl⟩) rfl rfl (Nat.le_of_ble_eq_true rfl) (c_M_byteAt _ C Y og n b hT (k + 4) (by omega)) ?_
          rintro v_ w_ ⟨rfl, rfl⟩ -
          refine am_eq_r (q' := (17, [some (.ref 19), some (.int (nI k)), some (.int 5), some (.int 4)], [.int (b (k + 4))], wd C Y og)) rfl ?_
          refine am_steps_r ok_M_spells 2 (q' := (19, [some (.ref 19), some (.int (nI k)), some (.int 5), some (.int 4)], [.int 4, .int 5, .int (b (k + 4))], wd C Y og)) rfl ?_
          refine am_callS_r (As := [.int 5, .int 4]) (rest := [.int (b (k + 4))]) ok_M_spells rfl rfl ok_M_letter os_M_letter lk_6_106 rfl rfl (Nat.le_of_ble_eq_true rfl) (c_M_letter_5 _ C Y og 4 (by omega)) ?_
          rintro v_ w_ ⟨rfl, rfl⟩ -
          refine am_eq_r (q' := (22, [some (.ref 19), some (.int (nI k)), some (.int 5), some (.int 4)], [.int 101, .int (b (k + 4))], wd C Y og)) rfl ?_
          refine am_steps_r ok_M_spells 1 (q' := (bif decide ((b (k + 4)) = 101) then 27 else 25, [some (.ref 19), some (.int (nI k)), some (.int 5), some (.int 4)], [], wd C Y og)) rfl ?_
          refine am_br_r (fun h_20 => ?_) (fun h_20 => ?_)
          · skip
            refine am_steps_r ok_M_spells 4 (q' := (4, [some (.ref 19), some (.int (nI k)), some (.int 5), some (.int 5)], [.int 5, .int 5], wd C Y og)) rfl ?_
            refine am_callS_r (As := [.int 5, .int 5]) (rest := []) ok_M_spells rfl rfl ok_M_letter os_M_letter lk_6_106 rfl rfl (Nat.le_of_ble_eq_true rfl) (c_M_letter_5 _ C Y og 5 (by omega)) ?_
            rintro v_ w_ ⟨rfl, rfl⟩ -
            refine am_eq_r (q' := (7, [some (.ref 19), some (.int (nI k)), some (.int 5), some (.int 5)], [.int 0], wd C Y og)) rfl ?_
            refine am_steps_r ok_M_spells 2 (q' := (34, [some (.ref 19), some (.int (nI k)), some (.int 5), some (.int 5)], [.int 1], wd C Y og)) rfl ?_
            refine am_zret_r ok_M_spells rfl rfl rfl rfl ?_
            refine ⟨?_, rfl⟩
            simp_all [txA, st_6, bz, Nat.add_assoc]
          · skip
            refine am_steps_r ok_M_spells 1 (q' := (26, [some (.ref 19), some (.int (nI k)), some (.int 5), some (.int 4)], [.int 0], wd C Y og)) rfl ?_
            refine am_zret_r ok_M_spells rfl rfl rfl rfl ?_
            refine ⟨?_, rfl⟩
            simp_all [txA, st_6, bz, Nat.add_assoc]
        · skip
          refine am_steps_r ok_M_spells 1 (q' := (26, [some (.ref 19), some (.int (nI k)), some (.int 5), some (.int 3)], [.int 0], wd C Y og)) rfl ?_
          refine am_zret_r ok_M_spells rfl rfl rfl rfl ?_
          refine ⟨?_, rfl⟩
          simp_all [txA, st_6, bz, Nat.add_assoc]
      · skip
        refine am_steps_r ok_M_spells 1 (q' := (26, [some (.ref 19), some (.int (nI k)), some (.int 5), some (.int 2)], [.int 0], wd C Y og)) rfl ?_
        refine am_zret_r ok_M_spells rfl rfl rfl rfl ?_
        refine ⟨?_, rfl⟩
        simp_all [txA, st_6, bz, Nat.add_assoc]
    · skip
      refine am_steps_r ok_M_spells 1 (q' := (26, [some (.ref 19), some (.int (nI k)), some (.int 5), some (.int 1)], [.int 0], wd C Y og)) rfl ?_
      refine am_zret_r ok_M_spells rfl rfl rfl rfl ?_
      refine ⟨?_, rfl⟩
      simp_all [txA, st_6, bz, Nat.add_assoc]
  · skip
    refine am_steps_r ok_M_spells 1 (q' := (26, [some (.ref 19), some (.int (nI k)), some (.int 5), some (.int 0)], [.int 0], wd C Y og)) rfl ?_
    refine am_zret_r ok_M_spells rfl rfl rfl rfl ?_
    refine ⟨?_, rfl⟩
    simp_all [txA, st_6, bz, Nat.add_assoc]
set_option maxHeartbeats 4000000 in
set_option maxRecDepth 100000 in
theorem c_M_spells_6 (d : Nat) (C : wd_C) (Y : wd_Y) (og : Nat → Int64) (n : Nat) (b : Nat → Int32) (hT : tpY Y n b) (k : Nat) (hk : k < 1073741000) : am_Mt l D cA ad fm (d + 1) m_M_spells [.ref 19, .int (nI k), .int 6] (wd C Y og) (fun v w' => v = some (.int (bz (txA b st_4 k))) ∧ w' = wd C Y og) := by
  refine am_mt ok_M_spells (by simp [am_arg, Value.category, m_M_spells, am_ml]) ?_
  refine am_eq_r (q' := (0, [some (.ref 19), some (.int (nI k)), some (.int 6), none], [], wd C Y og)) rfl ?_
  refine am_steps_r ok_M_spells 4 (q' := (4, [some (.ref 19), some (.int (nI k)), some (.int 6), some (.int 0)], [.int 0, .int 6], wd C Y og)) rfl ?_
  refine am_callS_r (As := [.int 6, .int 0]) (rest := []) ok_M_spells rfl rfl ok_M_letter os_M_letter lk_6_106 rfl rfl (Nat.le_of_ble_eq_true rfl) (c_M_letter_6 _ C Y og 0 (by omega)) ?_
  rintro v_ w_ ⟨rfl, rfl⟩ -
  refine am_eq_r (q' := (7, [some (.ref 19), some (.int (nI k)), some (.int 6), some (.int 0)], [.int 110], wd C Y og)) rfl ?_
  refine am_steps_r ok_M_spells 5 (q' := (14, [some (.ref 19), some (.int (nI k)), some (.int 6), some (.int 0)], [.int ((nI k) + 0), .ref 19], wd C Y og)) rfl ?_
  rw [show ((nI k) + 0 : Int32) = nI (k + 0) from nI_add k 0]
  refine am_callV_r (As := [.int (nI (k + 0))]) (rest := []) ok_M_spells rfl rfl ok_M_byteAt oi_M_byteAt lk_6_78 (Or.inl ⟨_, _, _, rfl, rfl, rfl⟩) rfl rfl (Nat.le_of_ble_eq_true rfl) (c_M_byteAt _ C Y og n b hT (k + 0) (by omega)) ?_
  rintro v_ w_ ⟨rfl, rfl⟩ -
  refine am_eq_r (q' := (17, [some (.ref 19), some (.int (nI k)), some (.int 6), some (.int 0)], [.int (b (k + 0))], wd C Y og)) rfl ?_
  refine am_steps_r ok_M_spells 2 (q' := (19, [some (.ref 19), some (.int (nI k)), some (.int 6), some (.int 0)], [.int 0, .int 6, .int (b (k + 0))], wd C Y og)) rfl ?_
  refine am_callS_r (As := [.int 6, .int 0]) (rest := [.int (b (k + 0))]) ok_M_spells rfl rfl ok_M_letter os_M_letter lk_6_106 rfl rfl (Nat.le_of_ble_eq_true rfl) (c_M_letter_6 _ C Y og 0 (by omega)) ?_
  rintro v_ w_ ⟨rfl, rfl⟩ -
  refine am_eq_r (q' := (22, [some (.ref 19), some (.int (nI k)), some (.int 6), some (.int 0)], [.int 110, .int (b (k + 0))], wd C Y og)) rfl ?_
  refine am_steps_r ok_M_spells 1 (q' := (bif decide ((b (k + 0)) = 110) then 27 else 25, [some (.ref 19), some (.int (nI k)), some (.int 6), some (.int 0)], [], wd C Y og)) rfl ?_
  refine am_br_r (fun h_4 => ?_) (fun h_4 => ?_)
  · skip
    refine am_steps_r ok_M_spells 4 (q' := (4, [some (.ref 19), some (.int (nI k)), some (.int 6), some (.int 1)], [.int 1, .int 6], wd C Y og)) rfl ?_
    refine am_callS_r (As := [.int 6, .int 1]) (rest := []) ok_M_spells rfl rfl ok_M_letter os_M_letter lk_6_106 rfl rfl (Nat.le_of_ble_eq_true rfl) (c_M_letter_6 _ C Y og 1 (by omega)) ?_
    rintro v_ w_ ⟨rfl, rfl⟩ -
    refine am_eq_r (q' := (7, [some (.ref 19), some (.int (nI k)), some (.int 6), some (.int 1)], [.int 117], wd C Y og)) rfl ?_
    refine am_steps_r ok_M_spells 5 (q' := (14, [some (.ref 19), some (.int (nI k)), some (.int 6), some (.int 1)], [.int ((nI k) + 1), .ref 19], wd C Y og)) rfl ?_
    rw [show ((nI k) + 1 : Int32) = nI (k + 1) from nI_add k 1]
    refine am_callV_r (As := [.int (nI (k + 1))]) (rest := []) ok_M_spells rfl rfl ok_M_byteAt oi_M_byteAt lk_6_78 (Or.inl ⟨_, _, _, rfl, rfl, rfl⟩) rfl rfl (Nat.le_of_ble_eq_true rfl) (c_M_byteAt _ C Y og n b hT (k + 1) (by omega)) ?_
    rintro v_ w_ ⟨rfl, rfl⟩ -
    refine am_eq_r (q' := (17, [some (.ref 19), some (.int (nI k)), some (.int 6), some (.int 1)], [.int (b (k + 1))], wd C Y og)) rfl ?_
    refine am_steps_r ok_M_spells 2 (q' := (19, [some (.ref 19), some (.int (nI k)), some (.int 6), some (.int 1)], [.int 1, .int 6, .int (b (k + 1))], wd C Y og)) rfl ?_
    refine am_callS_r (As := [.int 6, .int 1]) (rest := [.int (b (k + 1))]) ok_M_spells rfl rfl ok_M_letter os_M_letter lk_6_106 rfl rfl (Nat.le_of_ble_eq_true rfl) (c_M_letter_6 _ C Y og 1 (by omega)) ?_
    rintro v_ w_ ⟨rfl, rfl⟩ -
    refine am_eq_r (q' := (22, [some (.ref 19), some (.int (nI k)), some (.int 6), some (.int 1)], [.int 117, .int (b (k + 1))], wd C Y og)) rfl ?_
    refine am_steps_r ok_M_spells 1 (q' := (bif decide ((b (k + 1)) = 117) then 27 else 25, [some (.ref 19), some (.int (nI k)), some (.int 6), some (.int 1)], [], wd C Y og)) rfl ?_
    refine am_br_r (fun h_8 => ?_) (fun h_8 => ?_)
    · skip
      refine am_steps_r ok_M_spells 4 (q' := (4, [some (.ref 19), some (.int (nI k)), some (.int 6), some (.int 2)], [.int 2, .int 6], wd C Y og)) rfl ?_
      refine am_callS_r (As := [.int 6, .int 2]) (rest := []) ok_M_spells rfl rfl ok_M_letter os_M_letter lk_6_106 rfl rfl (Nat.le_of_ble_eq_true rfl) (c_M_letter_6 _ C Y og 2 (by omega)) ?_
      rintro v_ w_ ⟨rfl, rfl⟩ -
      refine am_eq_r (q' := (7, [some (.ref 19), some (.int (nI k)), some (.int 6), some (.int 2)], [.int 108], wd C Y og)) rfl ?_
      refine am_steps_r ok_M_spells 5 (q' := (14, [some (.ref 19), some (.int (nI k)), some (.int 6), some (.int 2)], [.int ((nI k) + 2), .ref 19], wd C Y og)) rfl ?_
      rw [show ((nI k) + 2 : Int32) = nI (k + 2) from nI_add k 2]
      refine am_callV_r (As := [.int (nI (k + 2))]) (rest := []) ok_M_spells rfl rfl ok_M_byteAt oi_M_byteAt lk_6_78 (Or.inl ⟨_, _, _, rfl, rfl, rfl⟩) rfl rfl (Nat.le_of_ble_eq_true rfl) (c_M_byteAt _ C Y og n b hT (k + 2) (by omega)) ?_
      rintro v_ w_ ⟨rfl, rfl⟩ -
      refine am_eq_r (q' := (17, [some (.ref 19), some (.int (nI k)), some (.int 6), some (.int 2)], [.int (b (k + 2))], wd C Y og)) rfl ?_
      refine am_steps_r ok_M_spells 2 (q' := (19, [some (.ref 19), some (.int (nI k)), some (.int 6), some (.int 2)], [.int 2, .int 6, .int (b (k + 2))], wd C Y og)) rfl ?_
      refine am_callS_r (As := [.int 6, .int 2]) (rest := [.int (b (k + 2))]) ok_M_spells rfl rfl ok_M_letter os_M_letter lk_6_106 rfl rfl (Nat.le_of_ble_eq_true rfl) (c_M_letter_6 _ C Y og 2 (by omega)) ?_
      rintro v_ w_ ⟨rfl, rfl⟩ -
      refine am_eq_r (q' := (22, [some (.ref 19), some (.int (nI k)), some (.int 6), some (.int 2)], [.int 108, .int (b (k + 2))], wd C Y og)) rfl ?_
      refine am_steps_r ok_M_spells 1 (q' := (bif decide ((b (k + 2)) = 108) then 27 else 25, [some (.ref 19), some (.int (nI k)), some (.int 6), some (.int 2)], [], wd C Y og)) rfl ?_
      refine am_br_r (fun h_12 => ?_) (fun h_12 => ?_)
      · skip
        refine am_steps_r ok_M_spells 4 (q' := (4, [some (.ref 19), some (.int (nI k)), some (.int 6), some (.int 3)], [.int 3, .int 6], wd C Y og)) rfl ?_
        refine am_callS_r (As := [.int 6, .int 3]) (rest := []) ok_M_spells rfl rfl ok_M_letter os_M_letter lk_6_106 rfl rfl (Nat.le_of_ble_eq_true rfl) (c_M_letter_6 _ C Y og 3 (by omega)) ?_
        rintro v_ w_ ⟨rfl, rfl⟩ -
        refine am_eq_r (q' := (7, [some (.ref 19), some (.int (nI k)), some (.int 6), some (.int 3)], [.int 108], wd C Y og)) rfl ?_
        refine am_steps_r ok_M_spells 5 (q' := (14, [some (.ref 19), some (.int (nI k)), some (.int 6), some (.int 3)], [.int ((nI k) + 3), .ref 19], wd C Y og)) rfl ?_
        rw [show ((nI k) + 3 : Int32) = nI (k + 3) from nI_add k 3]
        refine am_callV_r (As := [.int (nI (k + 3))]) (rest := []) ok_M_spells rfl rfl ok_M_byteAt oi_M_byteAt lk_6_78 (Or.inl ⟨_, _, _, rfl, rfl, rfl⟩) rfl rfl (Nat.le_of_ble_eq_true rfl) (c_M_byteAt _ C Y og n b hT (k + 3) (by omega)) ?_
        rintro v_ w_ ⟨rfl, rfl⟩ -
        refine am_eq_r (q' := (17, [some (.ref 19), some (.int (nI k)), some (.int 6), some (.int 3)], [.int (b (k + 3))], wd C Y og)) rfl ?_
        refine am_steps_r ok_M_spells 2 (q' := (19, [some (.ref 19), some (.int (nI k)), some (.int 6), some (.int 3)], [.int 3, .int 6, .int (b (k + 3))], wd C Y og)) rfl ?_
        refine am_callS_r (As := [.int 6, .int 3]) (rest := [.int (b (k + 3))]) ok_M_spells rfl rfl ok_M_letter os_M_letter lk_6_106 rfl rfl (Nat.le_of_ble_eq_true rfl) (c_M_letter_6 _ C Y og 3 (by omega)) ?_
        rintro v_ w_ ⟨rfl, rfl⟩ -
        refine am_eq_r (q' := (22, [some (.ref 19), some (.int (nI k)), some (.int 6), some (.int 3)], [.int 108, .int (b (k + 3))], wd C Y og)) rfl ?_
        refine am_steps_r ok_M_spells 1 (q' := (bif decide ((b (k + 3)) = 108) then 27 else 25, [some (.ref 19), some (.int (nI k)), some (.int 6), some (.int 3)], [], wd C Y og)) rfl ?_
        refine am_br_r (fun h_16 => ?_) (fun h_16 => ?_)
        · skip
          refine am_steps_r ok_M_spells 4 (q' := (4, [some (.ref 19), some (.int (nI k)), some (.int 6), some (.int 4)], [.int 4, .int 6], wd C Y og)) rfl ?_
          refine am_callS_r (As := [.int 6, .int 4]) (rest := []) ok_M_spells rfl rfl ok_M_letter os_M_letter lk_6_106 rfl rfl (Nat.le_of_ble_eq_true rfl) (c_M_letter_6 _ C Y og 4 (by omega)) ?_
          rintro v_ w_ ⟨rfl, rfl⟩ -
          refine am_eq_r (q' := (7, [some (.ref 19), some (.int (nI k)), some (.int 6), some (.int 4)], [.int 0], wd C Y og)) rfl ?_
          refine am_steps_r ok_M_spells 2 (q' := (34, [some (.ref 19), some (.int (nI k)), some (.int 6), some (.int 4)], [.int 1], wd C Y og)) rfl ?_
          refine am_zret_r ok_M_spells rfl rfl rfl rfl ?_
          refine ⟨?_, rfl⟩
          simp_all [txA, st_4, bz, Nat.add_assoc]
        · skip
          refine am_steps_r ok_M_spells 1 (q' := (26, [some (.ref 19), some (.int (nI k)), some (.int 6), some (.int 3)], [.int 0], wd C Y og)) rfl ?_
          refine am_zret_r ok_M_spells rfl rfl rfl rfl ?_
          refine ⟨?_, rfl⟩
          simp_all [txA, st_4, bz, Nat.add_assoc]
      · skip
        refine am_steps_r ok_M_spells 1 (q' := (26, [some (.ref 19), some (.int (nI k)), some (.int 6), some (.int 2)], [.int 0], wd C Y og)) rfl ?_
        refine am_zret_r ok_M_spells rfl rfl rfl rfl ?_
        refine ⟨?_, rfl⟩
        simp_all [txA, st_4, bz, Nat.add_assoc]
    · skip
      refine am_steps_r ok_M_spells 1 (q' := (26, [some (.ref 19), some (.int (nI k)), some (.int 6), some (.int 1)], [.int 0], wd C Y og)) rfl ?_
      refine am_zret_r ok_M_spells rfl rfl rfl rfl ?_
      refine ⟨?_, rfl⟩
      simp_all [txA, st_4, bz, Nat.add_assoc]
  · skip
    refine am_steps_r ok_M_spells 1 (q' := (26, [some (.ref 19), some (.int (nI k)), some (.int 6), some (.int 0)], [.int 0], wd C Y og)) rfl ?_
    refine am_zret_r ok_M_spells rfl rfl rfl rfl ?_
    refine ⟨?_, rfl⟩
    simp_all [txA, st_4, bz, Nat.add_assoc]
set_option maxHeartbeats 4000000 in
set_option maxRecDepth 100000 in
theorem c_M_spells_7 (d : Nat) (C : wd_C) (Y : wd_Y) (og : Nat → Int64) (n : Nat) (b : Nat → Int32) (hT : tpY Y n b) (k : Nat) (hk : k < 1073741000) : am_Mt l D cA ad fm (d + 1) m_M_spells [.ref 19, .int (nI k), .int 7] (wd C Y og) (fun v w' => v = some (.int (bz (txA b st_8 k))) ∧ w' = wd C Y og) := by
  refine am_mt ok_M_spells (by simp [am_arg, Value.category, m_M_spells, am_ml]) ?_
  refine am_eq_r (q' := (0, [some (.ref 19), some (.int (nI k)), some (.int 7), none], [], wd C Y og)) rfl ?_
  refine am_steps_r ok_M_spells 4 (q' := (4, [some (.ref 19), some (.int (nI k)), some (.int 7), some (.int 0)], [.int 0, .int 7], wd C Y og)) rfl ?_
  refine am_callS_r (As := [.int 7, .int 0]) (rest := []) ok_M_spells rfl rfl ok_M_letter os_M_letter lk_6_106 rfl rfl (Nat.le_of_ble_eq_true rfl) (c_M_letter_7 _ C Y og 0 (by omega)) ?_
  rintro v_ w_ ⟨rfl, rfl⟩ -
  refine am_eq_r (q' := (7, [some (.ref 19), some (.int (nI k)), some (.int 7), some (.int 0)], [.int 76], wd C Y og)) rfl ?_
  refine am_steps_r ok_M_spells 5 (q' := (14, [some (.ref 19), some (.int (nI k)), some (.int 7), some (.int 0)], [.int ((nI k) + 0), .ref 19], wd C Y og)) rfl ?_
  rw [show ((nI k) + 0 : Int32) = nI (k + 0) from nI_add k 0]
  refine am_callV_r (As := [.int (nI (k + 0))]) (rest := []) ok_M_spells rfl rfl ok_M_byteAt oi_M_byteAt lk_6_78 (Or.inl ⟨_, _, _, rfl, rfl, rfl⟩) rfl rfl (Nat.le_of_ble_eq_true rfl) (c_M_byteAt _ C Y og n b hT (k + 0) (by omega)) ?_
  rintro v_ w_ ⟨rfl, rfl⟩ -
  refine am_eq_r (q' := (17, [some (.ref 19), some (.int (nI k)), some (.int 7), some (.int 0)], [.int (b (k + 0))], wd C Y og)) rfl ?_
  refine am_steps_r ok_M_spells 2 (q' := (19, [some (.ref 19), some (.int (nI k)), some (.int 7), some (.int 0)], [.int 0, .int 7, .int (b (k + 0))], wd C Y og)) rfl ?_
  refine am_callS_r (As := [.int 7, .int 0]) (rest := [.int (b (k + 0))]) ok_M_spells rfl rfl ok_M_letter os_M_letter lk_6_106 rfl rfl (Nat.le_of_ble_eq_true rfl) (c_M_letter_7 _ C Y og 0 (by omega)) ?_
  rintro v_ w_ ⟨rfl, rfl⟩ -
  refine am_eq_r (q' := (22, [some (.ref 19), some (.int (nI k)), some (.int 7), some (.int 0)], [.int 76, .int (b (k + 0))], wd C Y og)) rfl ?_
  refine am_steps_r ok_M_spells 1 (q' := (bif decide ((b (k + 0)) = 76) then 27 else 25, [some (.ref 19), some (.int (nI k)), some (.int 7), some (.int 0)], [], wd C Y og)) rfl ?_
  refine am_br_r (fun h_4 => ?_) (fun h_4 => ?_)
  · skip
    refine am_steps_r ok_M_spells 4 (q' := (4, [some (.ref 19), some (.int (nI k)), some (.int 7), some (.int 1)], [.int 1, .int 7], wd C Y og)) rfl ?_
    refine am_callS_r (As := [.int 7, .int 1]) (rest := []) ok_M_spells rfl rfl ok_M_letter os_M_letter lk_6_106 rfl rfl (Nat.le_of_ble_eq_true rfl) (c_M_letter_7 _ C Y og 1 (by omega)) ?_
    rintro v_ w_ ⟨rfl, rfl⟩ -
    refine am_eq_r (q' := (7, [some (.ref 19), some (.int (nI k)), some (.int 7), some (.int 1)], [.int 101], wd C Y og)) rfl ?_
    refine am_steps_r ok_M_spells 5 (q' := (14, [some (.ref 19), some (.int (nI k)), some (.int 7), some (.int 1)], [.int ((nI k) + 1), .ref 19], wd C Y og)) rfl ?_
    rw [show ((nI k) + 1 : Int32) = nI (k + 1) from nI_add k 1]
    refine am_callV_r (As := [.int (nI (k + 1))]) (rest := []) ok_M_spells rfl rfl ok_M_byteAt oi_M_byteAt lk_6_78 (Or.inl ⟨_, _, _, rfl, rfl, rfl⟩) rfl rfl (Nat.le_of_ble_eq_true rfl) (c_M_byteAt _ C Y og n b hT (k + 1) (by omega)) ?_
    rintro v_ w_ ⟨rfl, rfl⟩ -
    refine am_eq_r (q' := (17, [some (.ref 19), some (.int (nI k)), some (.int 7), some (.int 1)], [.int (b (k + 1))], wd C Y og)) rfl ?_
    refine am_steps_r ok_M_spells 2 (q' := (19, [some (.ref 19), some (.int (nI k)), some (.int 7), some (.int 1)], [.int 1, .int 7, .int (b (k + 1))], wd C Y og)) rfl ?_
    refine am_callS_r (As := [.int 7, .int 1]) (rest := [.int (b (k + 1))]) ok_M_spells rfl rfl ok_M_letter os_M_letter lk_6_106 rfl rfl (Nat.le_of_ble_eq_true rfl) (c_M_letter_7 _ C Y og 1 (by omega)) ?_
    rintro v_ w_ ⟨rfl, rfl⟩ -
    refine am_eq_r (q' := (22, [some (.ref 19), some (.int (nI k)), some (.int 7), some (.int 1)], [.int 101, .int (b (k + 1))], wd C Y og)) rfl ?_
    refine am_steps_r ok_M_spells 1 (q' := (bif decide ((b (k + 1)) = 101) then 27 else 25, [some (.ref 19), some (.int (nI k)), some (.int 7), some (.int 1)], [], wd C Y og)) rfl ?_
    refine am_br_r (fun h_8 => ?_) (fun h_8 => ?_)
    · skip
      refine am_steps_r ok_M_spells 4 (q' := (4, [some (.ref 19), some (.int (nI k)), some (.int 7), some (.int 2)], [.int 2, .int 7], wd C Y og)) rfl ?_
      refine am_callS_r (As := [.int 7, .int 2]) (rest := []) ok_M_spells rfl rfl ok_M_letter os_M_letter lk_6_106 rfl rfl (Nat.le_of_ble_eq_true rfl) (c_M_letter_7 _ C Y og 2 (by omega)) ?_
      rintro v_ w_ ⟨rfl, rfl⟩ -
      refine am_eq_r (q' := (7, [some (.ref 19), some (.int (nI k)), some (.int 7), some (.int 2)], [.int 110], wd C Y og)) rfl ?_
      refine am_steps_r ok_M_spells 5 (q' := (14, [some (.ref 19), some (.int (nI k)), some (.int 7), some (.int 2)], [.int ((nI k) + 2), .ref 19], wd C Y og)) rfl ?_
      rw [show ((nI k) + 2 : Int32) = nI (k + 2) from nI_add k 2]
      refine am_callV_r (As := [.int (nI (k + 2))]) (rest := []) ok_M_spells rfl rfl ok_M_byteAt oi_M_byteAt lk_6_78 (Or.inl ⟨_, _, _, rfl, rfl, rfl⟩) rfl rfl (Nat.le_of_ble_eq_true rfl) (c_M_byteAt _ C Y og n b hT (k + 2) (by omega)) ?_
      rintro v_ w_ ⟨rfl, rfl⟩ -
      refine am_eq_r (q' := (17, [some (.ref 19), some (.int (nI k)), some (.int 7), some (.int 2)], [.int (b (k + 2))], wd C Y og)) rfl ?_
      refine am_steps_r ok_M_spells 2 (q' := (19, [some (.ref 19), some (.int (nI k)), some (.int 7), some (.int 2)], [.int 2, .int 7, .int (b (k + 2))], wd C Y og)) rfl ?_
      refine am_callS_r (As := [.int 7, .int 2]) (rest := [.int (b (k + 2))]) ok_M_spells rfl rfl ok_M_letter os_M_letter lk_6_106 rfl rfl (Nat.le_of_ble_eq_true rfl) (c_M_letter_7 _ C Y og 2 (by omega)) ?_
      rintro v_ w_ ⟨rfl, rfl⟩ -
      refine am_eq_r (q' := (22, [some (.ref 19), some (.int (nI k)), some (.int 7), some (.int 2)], [.int 110, .int (b (k + 2))], wd C Y og)) rfl ?_
      refine am_steps_r ok_M_spells 1 (q' := (bif decide ((b (k + 2)) = 110) then 27 else 25, [some (.ref 19), some (.int (nI k)), some (.int 7), some (.int 2)], [], wd C Y og)) rfl ?_
      refine am_br_r (fun h_12 => ?_) (fun h_12 => ?_)
      · skip
        refine am_steps_r ok_M_spells 4 (q' := (4, [some (.ref 19), some (.int (nI k)), some (.int 7), some (.int 3)], [.int 3, .int 7], wd C Y og)) rfl ?_
        refine am_callS_r (As := [.int 7, .int 3]) (rest := []) ok_M_spells rfl rfl ok_M_letter os_M_letter lk_6_106 rfl rfl (Nat.le_of_ble_eq_true rfl) (c_M_letter_7 _ C Y og 3 (by omega)) ?_
        rintro v_ w_ ⟨rfl, rfl⟩ -
        refine am_eq_r (q' := (7, [some (.ref 19), some (.int (nI k)), some (.int 7), some (.int 3)], [.int 103], wd C Y og)) rfl ?_
        refine am_steps_r ok_M_spells 5 (q' := (14, [some (.ref 19), some (.int (nI k)), some (.int 7), some (.int 3)], [.int ((nI k) + 3), .ref 19], wd C Y og)) rfl ?_
        rw [show ((nI k) + 3 : Int32) = nI (k + 3) from nI_add k 3]
        refine am_callV_r (As := [.int (nI (k + 3))]) (rest := []) ok_M_spells rfl rfl ok_M_byteAt oi_M_byteAt lk_6_78 (Or.inl ⟨_, _, _, rfl, rfl, rfl⟩) rfl rfl (Nat.le_of_ble_eq_true rfl) (c_M_byteAt _ C Y og n b hT (k + 3) (by omega)) ?_
        rintro v_ w_ ⟨rfl, rfl⟩ -
        refine am_eq_r (q' := (17, [some (.ref 19), some (.int (nI k)), some (.int 7), some (.int 3)], [.int (b (k + 3))], wd C Y og)) rfl ?_
        refine am_steps_r ok_M_spells 2 (q' := (19, [some (.ref 19), some (.int (nI k)), some (.int 7), some (.int 3)], [.int 3, .int 7, .int (b (k + 3))], wd C Y og)) rfl ?_
        refine am_callS_r (As := [.int 7, .int 3]) (rest := [.int (b (k + 3))]) ok_M_spells rfl rfl ok_M_letter os_M_letter lk_6_106 rfl rfl (Nat.le_of_ble_eq_true rfl) (c_M_letter_7 _ C Y og 3 (by omega)) ?_
        rintro v_ w_ ⟨rfl, rfl⟩ -
        refine am_eq_r (q' := (22, [some (.ref 19), some (.int (nI k)), some (.int 7), some (.int 3)], [.int 103, .int (b (k + 3))], wd C Y og)) rfl ?_
        refine am_steps_r ok_M_spells 1 (q' := (bif decide ((b (k + 3)) = 103) then 27 else 25, [some (.ref 19), some (.int (nI k)), some (.int 7), some (.int 3)], [], wd C Y og)) rfl ?_
        refine am_br_r (fun h_16 => ?_) (fun h_16 => ?_)
        · skip
          refine am_steps_r ok_M_spells 4 (q' := (4, [some (.ref 19), some (.int (nI k)), some (.int 7), some (.int 4)], [.int 4, .int 7], wd C Y og)) rfl ?_
          refine am_callS_r (As := [.int 7, .int 4]) (rest := []) ok_M_spells rfl rfl ok_M_letter os_M_letter lk_6_106 rfl rfl (Nat.le_of_ble_eq_true rfl) (c_M_letter_7 _ C Y og 4 (by omega)) ?_
          rintro v_ w_ ⟨rfl, rfl⟩ -
          refine am_eq_r (q' := (7, [some (.ref 19), some (.int (nI k)), some (.int 7), some (.int 4)], [.int 116], wd C Y og)) rfl ?_
          refine am_steps_r ok_M_spells 5 (q' := (14, [some (.ref 19), some (.int (nI k)), some (.int 7), some (.int 4)], [.int ((nI k) + 4), .ref 19], wd C Y og)) rfl ?_
          rw [show ((nI k) + 4 : Int32) = nI (k + 4) from nI_add k 4]
          refine am_callV_r (As := [.int (nI (k + 4))]) (rest := []) ok_M_spells rfl rfl ok_M_byteAt oi_M_byteAt lk_6_78 (Or.inl ⟨_, _, _, rfl, rfl, rfl⟩) rfl rfl (Nat.le_of_ble_eq_true rfl) (c_M_byteAt _ C Y og n b hT (k + 4) (by omega)) ?_
          rintro v_ w_ ⟨rfl, rfl⟩ -
          refine am_eq_r (q' := (17, [some (.ref 19), some (.int (nI k)), some (.int 7), some (.int 4)], [.int (b (k + 4))], wd C Y og)) rfl ?_
          refine am_steps_r ok_M_spells 2 (q' := (19, [some (.ref 19), some (.int (nI k)), some (.int 7), some (.int 4)], [.int 4, .int 7, .int (b (k + 4))], wd C Y og)) rfl ?_
          refine am_callS_r (As := [.int 7, .int 4]) (rest := [.int (b (k + 4))]) ok_M_spells rfl rfl ok_M_letter os_M_letter lk_6_106 rfl rfl (Nat.le_of_ble_eq_true rfl) (c_M_letter_7 _ C Y og 4 (by omega)) ?_
          rintro v_ w_ ⟨rfl, rfl⟩ -
          refine am_eq_r (q' := (22, [some (.ref 19), some (.int (nI k)), some (.int 7), some (.int 4)], [.int 116, .int (b (k + 4))], wd C Y og)) rfl ?_
          refine am_steps_r ok_M_spells 1 (q' := (bif decide ((b (k + 4)) = 116) then 27 else 25, [some (.ref 19), some (.int (nI k)), some (.int 7), some (.int 4)], [], wd C Y og)) rfl ?_
          refine am_br_r (fun h_20 => ?_) (fun h_20 => ?_)
          · skip
            refine am_steps_r ok_M_spells 4 (q' := (4, [some (.ref 19), some (.int (nI k)), some (.int 7), some (.int 5)], [.int 5, .int 7], wd C Y og)) rfl ?_
            refine am_callS_r (As := [.int 7, .int 5]) (rest := []) ok_M_spells rfl rfl ok_M_letter os_M_letter lk_6_106 rfl rfl (Nat.le_of_ble_eq_true rfl) (c_M_letter_7 _ C Y og 5 (by omega)) ?_
            rintro v_ w_ ⟨rfl, rfl⟩ -
            refine am_eq_r (q' := (7, [some (.ref 19), some (.int (nI k)), some (.int 7), some (.int 5)], [.int 104], wd C Y og)) rfl ?_
            refine am_steps_r ok_M_spells 5 (q' := (14, [some (.ref 19), some (.int (nI k)), some (.int 7), some (.int 5)], [.int ((nI k) + 5), .ref 19], wd C Y og)) rfl ?_
            rw [show ((nI k) + 5 : Int32) = nI (k + 5) from nI_add k 5]
            refine am_callV_r (As := [.int (nI (k + 5))]) (rest := []) ok_M_spells rfl rfl ok_M_byteAt oi_M_byteAt lk_6_78 (Or.inl ⟨_, _, _, rfl, rfl, rfl⟩) rfl rfl (Nat.le_of_ble_eq_true rfl) (c_M_byteAt _ C Y og n b hT (k + 5) (by omega)) ?_
            rintro v_ w_ ⟨rfl, rfl⟩ -
            refine am_eq_r (q' := (17, [some (.ref 19), some (.int (nI k)), some (.int 7), some (.int 5)], [.int (b (k + 5))], wd C Y og)) rfl ?_
            refine am_steps_r ok_M_spells 2 (q' := (19, [some (.ref 19), some (.int (nI k)), some (.int 7), some (.int 5)], [.int 5, .int 7, .int (b (k + 5))], wd C Y og)) rfl ?_
            refine am_callS_r (As := [.int 7, .int 5]) (rest := [.int (b (k + 5))]) ok_M_spells rfl rfl ok_M_letter os_M_letter lk_6_106 rfl rfl (Nat.le_of_ble_eq_true rfl) (c_M_letter_7 _ C Y og 5 (by omega)) ?_
            rintro v_ w_ ⟨rfl, rfl⟩ -
            refine am_eq_r (q' := (22, [some (.ref 19), some (.int (nI k)), some (.int 7), some (.int 5)], [.int 104, .int (b (k + 5))], wd C Y og)) rfl ?_
            refine am_steps_r ok_M_spells 1 (q' := (bif decide ((b (k + 5)) = 104) then 27 else 25, [some (.ref 19), some (.int (nI k)), some (.int 7), some (.int 5)], [], wd C Y og)) rfl ?_
            refine am_br_r (fun h_24 => ?_) (fun h_24 => ?_)
            · skip
              refine am_steps_r ok_M_spells 4 (q' := (4, [some (.ref 19), some (.int (nI k)), some (.int 7), some (.int 6)], [.int 6, .int 7], wd C Y og)) rfl ?_
              refine am_callS_r (As := [.int 7, .int 6]) (rest := []) ok_M_spells rfl rfl ok_M_letter os_M_letter lk_6_106 rfl rfl (Nat.le_of_ble_eq_true rfl) (c_M_letter_7 _ C Y og 6 (by omega)) ?_
              rintro v_ w_ ⟨rfl, rfl⟩ -
              refine am_eq_r (q' := (7, [some (.ref 19), some (.int (nI k)), some (.int 7), some (.int 6)], [.int 0], wd C Y og)) rfl ?_
              refine am_steps_r ok_M_spells 2 (q' := (34, [some (.ref 19), some (.int (nI k)), some (.int 7), some (.int 6)], [.int 1], wd C Y og)) rfl ?_
              refine am_zret_r ok_M_spells rfl rfl rfl rfl ?_
              refine ⟨?_, rfl⟩
              simp_all [txA, st_8, bz, Nat.add_assoc]
            · skip
              refine am_steps_r ok_M_spells 1 (q' := (26, [some (.ref 19), some (.int (nI k)), some (.int 7), some (.int 5)], [.int 0], wd C Y og)) rfl ?_
              refine am_zret_r ok_M_spells rfl rfl rfl rfl ?_
              refine ⟨?_, rfl⟩
              simp_all [txA, st_8, bz, Nat.add_assoc]
          · skip
            refine am_steps_r ok_M_spells 1 (q' := (26, [some (.ref 19), some (.int (nI k)), some (.int 7), some (.int 4)], [.int 0], wd C Y og)) rfl ?_
            refine am_zret_r ok_M_spells rfl rfl rfl rfl ?_
            refine ⟨?_, rfl⟩
            simp_all [txA, st_8, bz, Nat.add_assoc]
        · skip
          refine am_steps_r ok_M_spells 1 (q' := (26, [some (.ref 19), some (.int (nI k)), some (.int 7), some (.int 3)], [.int 0], wd C Y og)) rfl ?_
          refine am_zret_r ok_M_spells rfl rfl rfl rfl ?_
          refine ⟨?_, rfl⟩
          simp_all [txA, st_8, bz, Nat.add_assoc]
      · skip
        refine am_steps_r ok_M_spells 1 (q' := (26, [some (.ref 19), some (.int (nI k)), some (.int 7), some (.int 2)], [.int 0], wd C Y og)) rfl ?_
        refine am_zret_r ok_M_spells rfl rfl rfl rfl ?_
        refine ⟨?_, rfl⟩
        simp_all [txA, st_8, bz, Nat.add_assoc]
    · skip
      refine am_steps_r ok_M_spells 1 (q' := (26, [some (.ref 19), some (.int (nI k)), some (.int 7), some (.int 1)], [.int 0], wd C Y og)) rfl ?_
      refine am_zret_r ok_M_spells rfl rfl rfl rfl ?_
      refine ⟨?_, rfl⟩
      simp_all [txA, st_8, bz, Nat.add_assoc]
  · skip
    refine am_steps_r ok_M_spells 1 (q' := (26, [some (.ref 19), some (.int (nI k)), some (.int 7), some (.int 0)], [.int 0], wd C Y og)) rfl ?_
    refine am_zret_r ok_M_spells rfl rfl rfl rfl ?_
    refine ⟨?_, rfl⟩
    simp_all [txA, st_8, bz, Nat.add_assoc]
set_option maxHeartbeats 4000000 in
set_option maxRecDepth 100000 in
theorem c_M_spells_8 (d : Nat) (C : wd_C) (Y : wd_Y) (og : Nat → Int64) (n : Nat) (b : Nat → Int32) (hT : tpY Y n b) (k : Nat) (hk : k < 1073741000) : am_Mt l D cA ad fm (d + 1) m_M_spells [.ref 19, .int (nI k), .int 8] (wd C Y og) (fun v w' => v = some (.int (bz (txA b st_3 k))) ∧ w' = wd C Y og) := by
  refine am_mt ok_M_spells (by simp [am_arg, Value.category, m_M_spells, am_ml]) ?_
  refine am_eq_r (q' := (0, [some (.ref 19), some (.int (nI k)), some (.int 8), none], [], wd C Y og)) rfl ?_
  refine am_steps_r ok_M_spells 4 (q' := (4, [some (.ref 19), some (.int (nI k)), some (.int 8), some (.int 0)], [.int 0, .int 8], wd C Y og)) rfl ?_
  refine am_callS_r (As := [.int 8, .int 0]) (rest := []) ok_M_spells rfl rfl ok_M_letter os_M_letter lk_6_106 rfl rfl (Nat.le_of_ble_eq_true rfl) (c_M_letter_8 _ C Y og 0 (by omega)) ?_
  rintro v_ w_ ⟨rfl, rfl⟩ -
  refine am_eq_r (q' := (7, [some (.ref 19), some (.int (nI k)), some (.int 8), some (.int 0)], [.int 82], wd C Y og)) rfl ?_
  refine am_steps_r ok_M_spells 5 (q' := (14, [some (.ref 19), some (.int (nI k)), some (.int 8), some (.int 0)], [.int ((nI k) + 0), .ref 19], wd C Y og)) rfl ?_
  rw [show ((nI k) + 0 : Int32) = nI (k + 0) from nI_add k 0]
  refine am_callV_r (As := [.int (nI (k + 0))]) (rest := []) ok_M_spells rfl rfl ok_M_byteAt oi_M_byteAt lk_6_78 (Or.inl ⟨_, _, _, rfl, rfl, rfl⟩) rfl rfl (Nat.le_of_ble_eq_true rfl) (c_M_byteAt _ C Y og n b hT (k + 0) (by omega)) ?_
  rintro v_ w_ ⟨rfl, rfl⟩ -
  refine am_eq_r (q' := (17, [some (.ref 19), some (.int (nI k)), some (.int 8), some (.int 0)], [.int (b (k + 0))], wd C Y og)) rfl ?_
  refine am_steps_r ok_M_spells 2 (q' := (19, [some (.ref 19), some (.int (nI k)), some (.int 8), some (.int 0)], [.int 0, .int 8, .int (b (k + 0))], wd C Y og)) rfl ?_
  refine am_callS_r (As := [.int 8, .int 0]) (rest := [.int (b (k + 0))]) ok_M_spells rfl rfl ok_M_letter os_M_letter lk_6_106 rfl rfl (Nat.le_of_ble_eq_true rfl) (c_M_letter_8 _ C Y og 0 (by omega)) ?_
  rintro v_ w_ ⟨rfl, rfl⟩ -
  refine am_eq_r (q' := (22, [some (.ref 19), some (.int (nI k)), some (.int 8), some (.int 0)], [.int 82, .int (b (k + 0))], wd C Y og)) rfl ?_
  refine am_steps_r ok_M_spells 1 (q' := (bif decide ((b (k + 0)) = 82) then 27 else 25, [some (.ref 19), some (.int (nI k)), some (.int 8), some (.int 0)], [], wd C Y og)) rfl ?_
  refine am_br_r (fun h_4 => ?_) (fun h_4 => ?_)
  · skip
    refine am_steps_r ok_M_spells 4 (q' := (4, [some (.ref 19), some (.int (nI k)), some (.int 8), some (.int 1)], [.int 1, .int 8], wd C Y og)) rfl ?_
    refine am_callS_r (As := [.int 8, .int 1]) (rest := []) ok_M_spells rfl rfl ok_M_letter os_M_letter lk_6_106 rfl rfl (Nat.le_of_ble_eq_true rfl) (c_M_letter_8 _ C Y og 1 (by omega)) ?_
    rintro v_ w_ ⟨rfl, rfl⟩ -
    refine am_eq_r (q' := (7, [some (.ref 19), some (.int (nI k)), some (.int 8), some (.int 1)], [.int 0], wd C Y og)) rfl ?_
    refine am_steps_r ok_M_spells 2 (q' := (34, [some (.ref 19), some (.int (nI k)), some (.int 8), some (.int 1)], [.int 1], wd C Y og)) rfl ?_
    refine am_zret_r ok_M_spells rfl rfl rfl rfl ?_
    refine ⟨?_, rfl⟩
    simp_all [txA, st_3, bz, Nat.add_assoc]
  · skip
    refine am_steps_r ok_M_spells 1 (q' := (26, [some (.ref 19), some (.int (nI k)), some (.int 8), some (.int 0)], [.int 0], wd C Y og)) rfl ?_
    refine am_zret_r ok_M_spells rfl rfl rfl rfl ?_
    refine ⟨?_, rfl⟩
    simp_all [txA, st_3, bz, Nat.add_assoc]
set_option maxHeartbeats 4000000 in
set_option maxRecDepth 100000 in
theorem c_M_isWord_0 (d : Nat) (C : wd_C) (Y : wd_Y) (og : Nat → Int64) (n : Nat) (b : Nat → Int32) (hT : tpY Y n b) (k : Nat) (hk : k < 1073740000) : am_Mt l D cA ad fm (d + 2) m_M_isWord [.ref 19, .int (nI k), .int 0] (wd C Y og) (fun v w' => v = some (.int (bz (wdA b st_9 k))) ∧ w' = wd C Y og) := by
  refine am_mt ok_M_isWord (by simp [am_arg, Value.category, m_M_isWord, am_ml]) ?_
  refine am_eq_r (q' := (0, [some (.ref 19), some (.int (nI k)), some (.int 0)], [], wd C Y og)) rfl ?_
  refine am_steps_r ok_M_isWord 3 (q' := (3, [some (.ref 19), some (.int (nI k)), some (.int 0)], [.int 0, .int (nI k), .ref 19], wd C Y og)) rfl ?_
  refine am_callV_r (As := [.int (nI k), .int 0]) (rest := []) ok_M_isWord rfl rfl ok_M_spells oi_M_spells lk_6_110 (Or.inl ⟨_, _, _, rfl, rfl, rfl⟩) rfl rfl (Nat.le_of_ble_eq_true rfl) (c_M_spells_0 _ C Y og n b hT k (by omega)) ?_
  rintro v_ w_ ⟨rfl, rfl⟩ -
  refine am_eq_r (q' := (6, [some (.ref 19), some (.int (nI k)), some (.int 0)], [.int (bz (txA b st_9 k))], wd C Y og)) rfl ?_
  refine am_steps_r ok_M_isWord 1 (q' := (bif decide ((bz (txA b st_9 k)) = 0) then 29 else 9, [some (.ref 19), some (.int (nI k)), some (.int 0)], [], wd C Y og)) rfl ?_
  refine am_bz_r (fun h_2 => ?_) (fun h_2 => ?_)
  · skip
    refine am_steps_r ok_M_isWord 3 (q' := (12, [some (.ref 19), some (.int (nI k)), some (.int 0)], [.int 0, .int (nI k), .ref 19], wd C Y og)) rfl ?_
    refine am_callS_r (As := [.int 0]) (rest := [.int (nI k), .ref 19]) ok_M_isWord rfl rfl ok_M_letters os_M_letters lk_6_114 rfl rfl (Nat.le_of_ble_eq_true rfl) (c_M_letters_0 _ C Y og) ?_
    rintro v_ w_ ⟨rfl, rfl⟩ -
    refine am_eq_r (q' := (15, [some (.ref 19), some (.int (nI k)), some (.int 0)], [.int 9, .int (nI k), .ref 19], wd C Y og)) rfl ?_
    refine am_steps_r ok_M_isWord 1 (q' := (16, [some (.ref 19), some (.int (nI k)), some (.int 0)], [.int ((nI k) + 9), .ref 19], wd C Y og)) rfl ?_
    rw [show ((nI k) + 9 : Int32) = nI (k + 9) from nI_add k 9]
    refine am_callV_r (As := [.int (nI (k + 9))]) (rest := []) ok_M_isWord rfl rfl ok_M_byteAt oi_M_byteAt lk_6_78 (Or.inl ⟨_, _, _, rfl, rfl, rfl⟩) rfl rfl (Nat.le_of_ble_eq_true rfl) (c_M_byteAt _ C Y og n b hT (k + 9) (by omega)) ?_
    rintro v_ w_ ⟨rfl, rfl⟩ -
    refine am_eq_r (q' := (19, [some (.ref 19), some (.int (nI k)), some (.int 0)], [.int (b (k + 9))], wd C Y og)) rfl ?_
    refine am_callS_r (As := [.int (b (k + 9))]) (rest := []) ok_M_isWord rfl rfl ok_M_isRegular os_M_isRegular lk_6_85 rfl rfl (Nat.le_of_ble_eq_true rfl) (c_M_isRegular _ C Y og (b (k + 9))) ?_
    rintro v_ w_ ⟨rfl, rfl⟩ -
    refine am_eq_r (q' := (22, [some (.ref 19), some (.int (nI k)), some (.int 0)], [.int (bz (isReg (b (k + 9))))], wd C Y og)) rfl ?_
    refine am_steps_r ok_M_isWord 1 (q' := (bif decide ((bz (isReg (b (k + 9)))) = 0) then 25 else 29, [some (.ref 19), some (.int (nI k)), some (.int 0)], [], wd C Y og)) rfl ?_
    refine am_bz_r (fun h_6 => ?_) (fun h_6 => ?_)
    · skip
      refine am_steps_r ok_M_isWord 1 (q' := (30, [some (.ref 19), some (.int (nI k)), some (.int 0)], [.int 0], wd C Y og)) rfl ?_
      refine am_zret_r ok_M_isWord rfl rfl rfl rfl ?_
      refine ⟨?_, rfl⟩
      simp_all [wdA, bz, st_9]
    · skip
      refine am_steps_r ok_M_isWord 2 (q' := (30, [some (.ref 19), some (.int (nI k)), some (.int 0)], [.int 1], wd C Y og)) rfl ?_
      refine am_zret_r ok_M_isWord rfl rfl rfl rfl ?_
      refine ⟨?_, rfl⟩
      simp_all [wdA, bz, st_9]
  · skip
    refine am_steps_r ok_M_isWord 1 (q' := (30, [some (.ref 19), some (.int (nI k)), some (.int 0)], [.int 0], wd C Y og)) rfl ?_
    refine am_zret_r ok_M_isWord rfl rfl rfl rfl ?_
    refine ⟨?_, rfl⟩
    simp_all [wdA, bz, st_9]
set_option maxHeartbeats 4000000 in
set_option maxRecDepth 100000 in
theorem c_M_isWord_1 (d : Nat) (C : wd_C) (Y : wd_Y) (og : Nat → Int64) (n : Nat) (b : Nat → Int32) (hT : tpY Y n b) (k : Nat) (hk : k < 1073740000) : am_Mt l D cA ad fm (d + 2) m_M_isWord [.ref 19, .int (nI k), .int 1] (wd C Y og) (fun v w' => v = some (.int (bz (wdA b st_10 k))) ∧ w' = wd C Y og) := by
  refine am_mt ok_M_isWord (by simp [am_arg, Value.category, m_M_isWord, am_ml]) ?_
  refine am_eq_r (q' := (0, [some (.ref 19), some (.int (nI k)), some (.int 1)], [], wd C Y og)) rfl ?_
  refine am_steps_r ok_M_isWord 3 (q' := (3, [some (.ref 19), some (.int (nI k)), some (.int 1)], [.int 1, .int (nI k), .ref 19], wd C Y og)) rfl ?_
  refine am_callV_r (As := [.int (nI k), .int 1]) (rest := []) ok_M_isWord rfl rfl ok_M_spells oi_M_spells lk_6_110 (Or.inl ⟨_, _, _, rfl, rfl, rfl⟩) rfl rfl (Nat.le_of_ble_eq_true rfl) (c_M_spells_1 _ C Y og n b hT k (by omega)) ?_
  rintro v_ w_ ⟨rfl, rfl⟩ -
  refine am_eq_r (q' := (6, [some (.ref 19), some (.int (nI k)), some (.int 1)], [.int (bz (txA b st_10 k))], wd C Y og)) rfl ?_
  refine am_steps_r ok_M_isWord 1 (q' := (bif decide ((bz (txA b st_10 k)) = 0) then 29 else 9, [some (.ref 19), some (.int (nI k)), some (.int 1)], [], wd C Y og)) rfl ?_
  refine am_bz_r (fun h_2 => ?_) (fun h_2 => ?_)
  · skip
    refine am_steps_r ok_M_isWord 3 (q' := (12, [some (.ref 19), some (.int (nI k)), some (.int 1)], [.int 1, .int (nI k), .ref 19], wd C Y og)) rfl ?_
    refine am_callS_r (As := [.int 1]) (rest := [.int (nI k), .ref 19]) ok_M_isWord rfl rfl ok_M_letters os_M_letters lk_6_114 rfl rfl (Nat.le_of_ble_eq_true rfl) (c_M_letters_1 _ C Y og) ?_
    rintro v_ w_ ⟨rfl, rfl⟩ -
    refine am_eq_r (q' := (15, [some (.ref 19), some (.int (nI k)), some (.int 1)], [.int 6, .int (nI k), .ref 19], wd C Y og)) rfl ?_
    refine am_steps_r ok_M_isWord 1 (q' := (16, [some (.ref 19), some (.int (nI k)), some (.int 1)], [.int ((nI k) + 6), .ref 19], wd C Y og)) rfl ?_
    rw [show ((nI k) + 6 : Int32) = nI (k + 6) from nI_add k 6]
    refine am_callV_r (As := [.int (nI (k + 6))]) (rest := []) ok_M_isWord rfl rfl ok_M_byteAt oi_M_byteAt lk_6_78 (Or.inl ⟨_, _, _, rfl, rfl, rfl⟩) rfl rfl (Nat.le_of_ble_eq_true rfl) (c_M_byteAt _ C Y og n b hT (k + 6) (by omega)) ?_
    rintro v_ w_ ⟨rfl, rfl⟩ -
    refine am_eq_r (q' := (19, [some (.ref 19), some (.int (nI k)), some (.int 1)], [.int (b (k + 6))], wd C Y og)) rfl ?_
    refine am_callS_r (As := [.int (b (k + 6))]) (rest := []) ok_M_isWord rfl rfl ok_M_isRegular os_M_isRegular lk_6_85 rfl rfl (Nat.le_of_ble_eq_true rfl) (c_M_isRegular _ C Y og (b (k + 6))) ?_
    rintro v_ w_ ⟨rfl, rfl⟩ -
    refine am_eq_r (q' := (22, [some (.ref 19), some (.int (nI k)), some (.int 1)], [.int (bz (isReg (b (k + 6))))], wd C Y og)) rfl ?_
    refine am_steps_r ok_M_isWord 1 (q' := (bif decide ((bz (isReg (b (k + 6)))) = 0) then 25 else 29, [some (.ref 19), some (.int (nI k)), some (.int 1)], [], wd C Y og)) rfl ?_
    refine am_bz_r (fun h_6 => ?_) (fun h_6 => ?_)
    · skip
      refine am_steps_r ok_M_isWord 1 (q' := (30, [some (.ref 19), some (.int (nI k)), some (.int 1)], [.int 0], wd C Y og)) rfl ?_
      refine am_zret_r ok_M_isWord rfl rfl rfl rfl ?_
      refine ⟨?_, rfl⟩
      simp_all [wdA, bz, st_10]
    · skip
      refine am_steps_r ok_M_isWord 2 (q' := (30, [some (.ref 19), some (.int (nI k)), some (.int 1)], [.int 1], wd C Y og)) rfl ?_
      refine am_zret_r ok_M_isWord rfl rfl rfl rfl ?_
      refine ⟨?_, rfl⟩
      simp_all [wdA, bz, st_10]
  · skip
    refine am_steps_r ok_M_isWord 1 (q' := (30, [some (.ref 19), some (.int (nI k)), some (.int 1)], [.int 0], wd C Y og)) rfl ?_
    refine am_zret_r ok_M_isWord rfl rfl rfl rfl ?_
    refine ⟨?_, rfl⟩
    simp_all [wdA, bz, st_10]
set_option maxHeartbeats 4000000 in
set_option maxRecDepth 100000 in
theorem c_M_isWord_2 (d : Nat) (C : wd_C) (Y : wd_Y) (og : Nat → Int64) (n : Nat) (b : Nat → Int32) (hT : tpY Y n b) (k : Nat) (hk : k < 1073740000) : am_Mt l D cA ad fm (d + 2) m_M_isWord [.ref 19, .int (nI k), .int 2] (wd C Y og) (fun v w' => v = some (.int (bz (wdA b st_7 k))) ∧ w' = wd C Y og) := by
  refine am_mt ok_M_isWord (by simp [am_arg, Value.category, m_M_isWord, am_ml]) ?_
  refine am_eq_r (q' := (0, [some (.ref 19), some (.int (nI k)), some (.int 2)], [], wd C Y og)) rfl ?_
  refine am_steps_r ok_M_isWord 3 (q' := (3, [some (.ref 19), some (.int (nI k)), some (.int 2)], [.int 2, .int (nI k), .ref 19], wd C Y og)) rfl ?_
  refine am_callV_r (As := [.int (nI k), .int 2]) (rest := []) ok_M_isWord rfl rfl ok_M_spells oi_M_spells lk_6_110 (Or.inl ⟨_, _, _, rfl, rfl, rfl⟩) rfl rfl (Nat.le_of_ble_eq_true rfl) (c_M_spells_2 _ C Y og n b hT k (by omega)) ?_
  rintro v_ w_ ⟨rfl, rfl⟩ -
  refine am_eq_r (q' := (6, [some (.ref 19), some (.int (nI k)), some (.int 2)], [.int (bz (txA b st_7 k))], wd C Y og)) rfl ?_
  refine am_steps_r ok_M_isWord 1 (q' := (bif decide ((bz (txA b st_7 k)) = 0) then 29 else 9, [some (.ref 19), some (.int (nI k)), some (.int 2)], [], wd C Y og)) rfl ?_
  refine am_bz_r (fun h_2 => ?_) (fun h_2 => ?_)
  · skip
    refine am_steps_r ok_M_isWord 3 (q' := (12, [some (.ref 19), some (.int (nI k)), some (.int 2)], [.int 2, .int (nI k), .ref 19], wd C Y og)) rfl ?_
    refine am_callS_r (As := [.int 2]) (rest := [.int (nI k), .ref 19]) ok_M_isWord rfl rfl ok_M_letters os_M_letters lk_6_114 rfl rfl (Nat.le_of_ble_eq_true rfl) (c_M_letters_2 _ C Y og) ?_
    rintro v_ w_ ⟨rfl, rfl⟩ -
    refine am_eq_r (q' := (15, [some (.ref 19), some (.int (nI k)), some (.int 2)], [.int 6, .int (nI k), .ref 19], wd C Y og)) rfl ?_
    refine am_steps_r ok_M_isWord 1 (q' := (16, [some (.ref 19), some (.int (nI k)), some (.int 2)], [.int ((nI k) + 6), .ref 19], wd C Y og)) rfl ?_
    rw [show ((nI k) + 6 : Int32) = nI (k + 6) from nI_add k 6]
    refine am_callV_r (As := [.int (nI (k + 6))]) (rest := []) ok_M_isWord rfl rfl ok_M_byteAt oi_M_byteAt lk_6_78 (Or.inl ⟨_, _, _, rfl, rfl, rfl⟩) rfl rfl (Nat.le_of_ble_eq_true rfl) (c_M_byteAt _ C Y og n b hT (k + 6) (by omega)) ?_
    rintro v_ w_ ⟨rfl, rfl⟩ -
    refine am_eq_r (q' := (19, [some (.ref 19), some (.int (nI k)), some (.int 2)], [.int (b (k + 6))], wd C Y og)) rfl ?_
    refine am_callS_r (As := [.int (b (k + 6))]) (rest := []) ok_M_isWord rfl rfl ok_M_isRegular os_M_isRegular lk_6_85 rfl rfl (Nat.le_of_ble_eq_true rfl) (c_M_isRegular _ C Y og (b (k + 6))) ?_
    rintro v_ w_ ⟨rfl, rfl⟩ -
    refine am_eq_r (q' := (22, [some (.ref 19), some (.int (nI k)), some (.int 2)], [.int (bz (isReg (b (k + 6))))], wd C Y og)) rfl ?_
    refine am_steps_r ok_M_isWord 1 (q' := (bif decide ((bz (isReg (b (k + 6)))) = 0) then 25 else 29, [some (.ref 19), some (.int (nI k)), some (.int 2)], [], wd C Y og)) rfl ?_
    refine am_bz_r (fun h_6 => ?_) (fun h_6 => ?_)
    · skip
      refine am_steps_r ok_M_isWord 1 (q' := (30, [some (.ref 19), some (.int (nI k)), some (.int 2)], [.int 0], wd C Y og)) rfl ?_
      refine am_zret_r ok_M_isWord rfl rfl rfl rfl ?_
      refine ⟨?_, rfl⟩
      simp_all [wdA, bz, st_7]
    · skip
      refine am_steps_r ok_M_isWord 2 (q' := (30, [some (.ref 19), some (.int (nI k)), some (.int 2)], [.int 1], wd C Y og)) rfl ?_
      refine am_zret_r ok_M_isWord rfl rfl rfl rfl ?_
      refine ⟨?_, rfl⟩
      simp_all [wdA, bz, st_7]
  · skip
    refine am_steps_r ok_M_isWord 1 (q' := (30, [some (.ref 19), some (.int (nI k)), some (.int 2)], [.int 0], wd C Y og)) rfl ?_
    refine am_zret_r ok_M_isWord rfl rfl rfl rfl ?_
    refine ⟨?_, rfl⟩
    simp_all [wdA, bz, st_7]
set_option maxHeartbeats 4000000 in
set_option maxRecDepth 100000 in
theorem c_M_isWord_3 (d : Nat) (C : wd_C) (Y : wd_Y) (og : Nat → Int64) (n : Nat) (b : Nat → Int32) (hT : tpY Y n b) (k : Nat) (hk : k < 1073740000) : am_Mt l D cA ad fm (d + 2) m_M_isWord [.ref 19, .int (nI k), .int 3] (wd C Y og) (fun v w' => v = some (.int (bz (wdA b st_0 k))) ∧ w' = wd C Y og) := by
  refine am_mt ok_M_isWord (by simp [am_arg, Value.category, m_M_isWord, am_ml]) ?_
  refine am_eq_r (q' := (0, [some (.ref 19), some (.int (nI k)), some (.int 3)], [], wd C Y og)) rfl ?_
  refine am_steps_r ok_M_isWord 3 (q' := (3, [some (.ref 19), some (.int (nI k)), some (.int 3)], [.int 3, .int (nI k), .ref 19], wd C Y og)) rfl ?_
  refine am_callV_r (As := [.int (nI k), .int 3]) (rest := []) ok_M_isWord rfl rfl ok_M_spells oi_M_spells lk_6_110 (Or.inl ⟨_, _, _, rfl, rfl, rfl⟩) rfl rfl (Nat.le_of_ble_eq_true rfl) (c_M_spells_3 _ C Y og n b hT k (by omega)) ?_
  rintro v_ w_ ⟨rfl, rfl⟩ -
  refine am_eq_r (q' := (6, [some (.ref 19), some (.int (nI k)), some (.int 3)], [.int (bz (txA b st_0 k))], wd C Y og)) rfl ?_
  refine am_steps_r ok_M_isWord 1 (q' := (bif decide ((bz (txA b st_0 k)) = 0) then 29 else 9, [some (.ref 19), some (.int (nI k)), some (.int 3)], [], wd C Y og)) rfl ?_
  refine am_bz_r (fun h_2 => ?_) (fun h_2 => ?_)
  · skip
    refine am_steps_r ok_M_isWord 3 (q' := (12, [some (.ref 19), some (.int (nI k)), some (.int 3)], [.int 3, .int (nI k), .ref 19], wd C Y og)) rfl ?_
    refine am_callS_r (As := [.int 3]) (rest := [.int (nI k), .ref 19]) ok_M_isWord rfl rfl ok_M_letters os_M_letters lk_6_114 rfl rfl (Nat.le_of_ble_eq_true rfl) (c_M_letters_3 _ C Y og) ?_
    rintro v_ w_ ⟨rfl, rfl⟩ -
    refine am_eq_r (q' := (15, [some (.ref 19), some (.int (nI k)), some (.int 3)], [.int 3, .int (nI k), .ref 19], wd C Y og)) rfl ?_
    refine am_steps_r ok_M_isWord 1 (q' := (16, [some (.ref 19), some (.int (nI k)), some (.int 3)], [.int ((nI k) + 3), .ref 19], wd C Y og)) rfl ?_
    rw [show ((nI k) + 3 : Int32) = nI (k + 3) from nI_add k 3]
    refine am_callV_r (As := [.int (nI (k + 3))]) (rest := []) ok_M_isWord rfl rfl ok_M_byteAt oi_M_byteAt lk_6_78 (Or.inl ⟨_, _, _, rfl, rfl, rfl⟩) rfl rfl (Nat.le_of_ble_eq_true rfl) (c_M_byteAt _ C Y og n b hT (k + 3) (by omega)) ?_
    rintro v_ w_ ⟨rfl, rfl⟩ -
    refine am_eq_r (q' := (19, [some (.ref 19), some (.int (nI k)), some (.int 3)], [.int (b (k + 3))], wd C Y og)) rfl ?_
    refine am_callS_r (As := [.int (b (k + 3))]) (rest := []) ok_M_isWord rfl rfl ok_M_isRegular os_M_isRegular lk_6_85 rfl rfl (Nat.le_of_ble_eq_true rfl) (c_M_isRegular _ C Y og (b (k + 3))) ?_
    rintro v_ w_ ⟨rfl, rfl⟩ -
    refine am_eq_r (q' := (22, [some (.ref 19), some (.int (nI k)), some (.int 3)], [.int (bz (isReg (b (k + 3))))], wd C Y og)) rfl ?_
    refine am_steps_r ok_M_isWord 1 (q' := (bif decide ((bz (isReg (b (k + 3)))) = 0) then 25 else 29, [some (.ref 19), some (.int (nI k)), some (.int 3)], [], wd C Y og)) rfl ?_
    refine am_bz_r (fun h_6 => ?_) (fun h_6 => ?_)
    · skip
      refine am_steps_r ok_M_isWord 1 (q' := (30, [some (.ref 19), some (.int (nI k)), some (.int 3)], [.int 0], wd C Y og)) rfl ?_
      refine am_zret_r ok_M_isWord rfl rfl rfl rfl ?_
      refine ⟨?_, rfl⟩
      simp_all [wdA, bz, st_0]
    · skip
      refine am_steps_r ok_M_isWord 2 (q' := (30, [some (.ref 19), some (.int (nI k)), some (.int 3)], [.int 1], wd C Y og)) rfl ?_
      refine am_zret_r ok_M_isWord rfl rfl rfl rfl ?_
      refine ⟨?_, rfl⟩
      simp_all [wdA, bz, st_0]
  · skip
    refine am_steps_r ok_M_isWord 1 (q' := (30, [some (.ref 19), some (.int (nI k)), some (.int 3)], [.int 0], wd C Y og)) rfl ?_
    refine am_zret_r ok_M_isWord rfl rfl rfl rfl ?_
    refine ⟨?_, rfl⟩
    simp_all [wdA, bz, st_0]
set_option maxHeartbeats 4000000 in
set_option maxRecDepth 100000 in
theorem c_M_isWord_4 (d : Nat) (C : wd_C) (Y : wd_Y) (og : Nat → Int64) (n : Nat) (b : Nat → Int32) (hT : tpY Y n b) (k : Nat) (hk : k < 1073740000) : am_Mt l D cA ad fm (d + 2) m_M_isWord [.ref 19, .int (nI k), .int 4] (wd C Y og) (fun v w' => v = some (.int (bz (wdA b st_5 k))) ∧ w' = wd C Y og) := by
  refine am_mt ok_M_isWord (by simp [am_arg, Value.category, m_M_isWord, am_ml]) ?_
  refine am_eq_r (q' := (0, [some (.ref 19), some (.int (nI k)), some (.int 4)], [], wd C Y og)) rfl ?_
  refine am_steps_r ok_M_isWord 3 (q' := (3, [some (.ref 19), some (.int (nI k)), some (.int 4)], [.int 4, .int (nI k), .ref 19], wd C Y og)) rfl ?_
  refine am_callV_r (As := [.int (nI k), .int 4]) (rest := []) ok_M_isWord rfl rfl ok_M_spells oi_M_spells lk_6_110 (Or.inl ⟨_, _, _, rfl, rfl, rfl⟩) rfl rfl (Nat.le_of_ble_eq_true rfl) (c_M_spells_4 _ C Y og n b hT k (by omega)) ?_
  rintro v_ w_ ⟨rfl, rfl⟩ -
  refine am_eq_r (q' := (6, [some (.ref 19), some (.int (nI k)), some (.int 4)], [.int (bz (txA b st_5 k))], wd C Y og)) rfl ?_
  refine am_steps_r ok_M_isWord 1 (q' := (bif decide ((bz (txA b st_5 k)) = 0) then 29 else 9, [some (.ref 19), some (.int (nI k)), some (.int 4)], [], wd C Y og)) rfl ?_
  refine am_bz_r (fun h_2 => ?_) (fun h_2 => ?_)
  · skip
    refine am_steps_r ok_M_isWord 3 (q' := (12, [some (.ref 19), some (.int (nI k)), some (.int 4)], [.int 4, .int (nI k), .ref 19], wd C Y og)) rfl ?_
    refine am_callS_r (As := [.int 4]) (rest := [.int (nI k), .ref 19]) ok_M_isWord rfl rfl ok_M_letters os_M_letters lk_6_114 rfl rfl (Nat.le_of_ble_eq_true rfl) (c_M_letters_4 _ C Y og) ?_
    rintro v_ w_ ⟨rfl, rfl⟩ -
    refine am_eq_r (q' := (15, [some (.ref 19), some (.int (nI k)), some (.int 4)], [.int 4, .int (nI k), .ref 19], wd C Y og)) rfl ?_
    refine am_steps_r ok_M_isWord 1 (q' := (16, [some (.ref 19), some (.int (nI k)), some (.int 4)], [.int ((nI k) + 4), .ref 19], wd C Y og)) rfl ?_
    rw [show ((nI k) + 4 : Int32) = nI (k + 4) from nI_add k 4]
    refine am_callV_r (As := [.int (nI (k + 4))]) (rest := []) ok_M_isWord rfl rfl ok_M_byteAt oi_M_byteAt lk_6_78 (Or.inl ⟨_, _, _, rfl, rfl, rfl⟩) rfl rfl (Nat.le_of_ble_eq_true rfl) (c_M_byteAt _ C Y og n b hT (k + 4) (by omega)) ?_
    rintro v_ w_ ⟨rfl, rfl⟩ -
    refine am_eq_r (q' := (19, [some (.ref 19), some (.int (nI k)), some (.int 4)], [.int (b (k + 4))], wd C Y og)) rfl ?_
    refine am_callS_r (As := [.int (b (k + 4))]) (rest := []) ok_M_isWord rfl rfl ok_M_isRegular os_M_isRegular lk_6_85 rfl rfl (Nat.le_of_ble_eq_true rfl) (c_M_isRegular _ C Y og (b (k + 4))) ?_
    rintro v_ w_ ⟨rfl, rfl⟩ -
    refine am_eq_r (q' := (22, [some (.ref 19), some (.int (nI k)), some (.int 4)], [.int (bz (isReg (b (k + 4))))], wd C Y og)) rfl ?_
    refine am_steps_r ok_M_isWord 1 (q' := (bif decide ((bz (isReg (b (k + 4)))) = 0) then 25 else 29, [some (.ref 19), some (.int (nI k)), some (.int 4)], [], wd C Y og)) rfl ?_
    refine am_bz_r (fun h_6 => ?_) (fun h_6 => ?_)
    · skip
      refine am_steps_r ok_M_isWord 1 (q' := (30, [some (.ref 19), some (.int (nI k)), some (.int 4)], [.int 0], wd C Y og)) rfl ?_
      refine am_zret_r ok_M_isWord rfl rfl rfl rfl ?_
      refine ⟨?_, rfl⟩
      simp_all [wdA, bz, st_5]
    · skip
      refine am_steps_r ok_M_isWord 2 (q' := (30, [some (.ref 19), some (.int (nI k)), some (.int 4)], [.int 1], wd C Y og)) rfl ?_
      refine am_zret_r ok_M_isWord rfl rfl rfl rfl ?_
      refine ⟨?_, rfl⟩
      simp_all [wdA, bz, st_5]
  · skip
    refine am_steps_r ok_M_isWord 1 (q' := (30, [some (.ref 19), some (.int (nI k)), some (.int 4)], [.int 0], wd C Y og)) rfl ?_
    refine am_zret_r ok_M_isWord rfl rfl rfl rfl ?_
    refine ⟨?_, rfl⟩
    simp_all [wdA, bz, st_5]
set_option maxHeartbeats 4000000 in
set_option maxRecDepth 100000 in
theorem c_M_isWord_5 (d : Nat) (C : wd_C) (Y : wd_Y) (og : Nat → Int64) (n : Nat) (b : Nat → Int32) (hT : tpY Y n b) (k : Nat) (hk : k < 1073740000) : am_Mt l D cA ad fm (d + 2) m_M_isWord [.ref 19, .int (nI k), .int 5] (wd C Y og) (fun v w' => v = some (.int (bz (wdA b st_6 k))) ∧ w' = wd C Y og) := by
  refine am_mt ok_M_isWord (by simp [am_arg, Value.category, m_M_isWord, am_ml]) ?_
  refine am_eq_r (q' := (0, [some (.ref 19), some (.int (nI k)), some (.int 5)], [], wd C Y og)) rfl ?_
  refine am_steps_r ok_M_isWord 3 (q' := (3, [some (.ref 19), some (.int (nI k)), some (.int 5)], [.int 5, .int (nI k), .ref 19], wd C Y og)) rfl ?_
  refine am_callV_r (As := [.int (nI k), .int 5]) (rest := []) ok_M_isWord rfl rfl ok_M_spells oi_M_spells lk_6_110 (Or.inl ⟨_, _, _, rfl, rfl, rfl⟩) rfl rfl (Nat.le_of_ble_eq_true rfl) (c_M_spells_5 _ C Y og n b hT k (by omega)) ?_
  rintro v_ w_ ⟨rfl, rfl⟩ -
  refine am_eq_r (q' := (6, [some (.ref 19), some (.int (nI k)), some (.int 5)], [.int (bz (txA b st_6 k))], wd C Y og)) rfl ?_
  refine am_steps_r ok_M_isWord 1 (q' := (bif decide ((bz (txA b st_6 k)) = 0) then 29 else 9, [some (.ref 19), some (.int (nI k)), some (.int 5)], [], wd C Y og)) rfl ?_
  refine am_bz_r (fun h_2 => ?_) (fun h_2 => ?_)
  · skip
    refine am_steps_r ok_M_isWord 3 (q' := (12, [some (.ref 19), some (.int (nI k)), some (.int 5)], [.int 5, .int (nI k), .ref 19], wd C Y og)) rfl ?_
    refine am_callS_r (As := [.int 5]) (rest := [.int (nI k), .ref 19]) ok_M_isWord rfl rfl ok_M_letters os_M_letters lk_6_114 rfl rfl (Nat.le_of_ble_eq_true rfl) (c_M_letters_5 _ C Y og) ?_
    rintro v_ w_ ⟨rfl, rfl⟩ -
    refine am_eq_r (q' := (15, [some (.ref 19), some (.int (nI k)), some (.int 5)], [.int 5, .int (nI k), .ref 19], wd C Y og)) rfl ?_
    refine am_steps_r ok_M_isWord 1 (q' := (16, [some (.ref 19), some (.int (nI k)), some (.int 5)], [.int ((nI k) + 5), .ref 19], wd C Y og)) rfl ?_
    rw [show ((nI k) + 5 : Int32) = nI (k + 5) from nI_add k 5]
    refine am_callV_r (As := [.int (nI (k + 5))]) (rest := []) ok_M_isWord rfl rfl ok_M_byteAt oi_M_byteAt lk_6_78 (Or.inl ⟨_, _, _, rfl, rfl, rfl⟩) rfl rfl (Nat.le_of_ble_eq_true rfl) (c_M_byteAt _ C Y og n b hT (k + 5) (by omega)) ?_
    rintro v_ w_ ⟨rfl, rfl⟩ -
    refine am_eq_r (q' := (19, [some (.ref 19), some (.int (nI k)), some (.int 5)], [.int (b (k + 5))], wd C Y og)) rfl ?_
    refine am_callS_r (As := [.int (b (k + 5))]) (rest := []) ok_M_isWord rfl rfl ok_M_isRegular os_M_isRegular lk_6_85 rfl rfl (Nat.le_of_ble_eq_true rfl) (c_M_isRegular _ C Y og (b (k + 5))) ?_
    rintro v_ w_ ⟨rfl, rfl⟩ -
    refine am_eq_r (q' := (22, [some (.ref 19), some (.int (nI k)), some (.int 5)], [.int (bz (isReg (b (k + 5))))], wd C Y og)) rfl ?_
    refine am_steps_r ok_M_isWord 1 (q' := (bif decide ((bz (isReg (b (k + 5)))) = 0) then 25 else 29, [some (.ref 19), some (.int (nI k)), some (.int 5)], [], wd C Y og)) rfl ?_
    refine am_bz_r (fun h_6 => ?_) (fun h_6 => ?_)
    · skip
      refine am_steps_r ok_M_isWord 1 (q' := (30, [some (.ref 19), some (.int (nI k)), some (.int 5)], [.int 0], wd C Y og)) rfl ?_
      refine am_zret_r ok_M_isWord rfl rfl rfl rfl ?_
      refine ⟨?_, rfl⟩
      simp_all [wdA, bz, st_6]
    · skip
      refine am_steps_r ok_M_isWord 2 (q' := (30, [some (.ref 19), some (.int (nI k)), some (.int 5)], [.int 1], wd C Y og)) rfl ?_
      refine am_zret_r ok_M_isWord rfl rfl rfl rfl ?_
      refine ⟨?_, rfl⟩
      simp_all [wdA, bz, st_6]
  · skip
    refine am_steps_r ok_M_isWord 1 (q' := (30, [some (.ref 19), some (.int (nI k)), some (.int 5)], [.int 0], wd C Y og)) rfl ?_
    refine am_zret_r ok_M_isWord rfl rfl rfl rfl ?_
    refine ⟨?_, rfl⟩
    simp_all [wdA, bz, st_6]
set_option maxHeartbeats 4000000 in
set_option maxRecDepth 100000 in
theorem c_M_isWord_6 (d : Nat) (C : wd_C) (Y : wd_Y) (og : Nat → Int64) (n : Nat) (b : Nat → Int32) (hT : tpY Y n b) (k : Nat) (hk : k < 1073740000) : am_Mt l D cA ad fm (d + 2) m_M_isWord [.ref 19, .int (nI k), .int 6] (wd C Y og) (fun v w' => v = some (.int (bz (wdA b st_4 k))) ∧ w' = wd C Y og) := by
  refine am_mt ok_M_isWord (by simp [am_arg, Value.category, m_M_isWord, am_ml]) ?_
  refine am_eq_r (q' := (0, [some (.ref 19), some (.int (nI k)), some (.int 6)], [], wd C Y og)) rfl ?_
  refine am_steps_r ok_M_isWord 3 (q' := (3, [some (.ref 19), some (.int (nI k)), some (.int 6)], [.int 6, .int (nI k), .ref 19], wd C Y og)) rfl ?_
  refine am_callV_r (As := [.int (nI k), .int 6]) (rest := []) ok_M_isWord rfl rfl ok_M_spells oi_M_spells lk_6_110 (Or.inl ⟨_, _, _, rfl, rfl, rfl⟩) rfl rfl (Nat.le_of_ble_eq_true rfl) (c_M_spells_6 _ C Y og n b hT k (by omega)) ?_
  rintro v_ w_ ⟨rfl, rfl⟩ -
  refine am_eq_r (q' := (6, [some (.ref 19), some (.int (nI k)), some (.int 6)], [.int (bz (txA b st_4 k))], wd C Y og)) rfl ?_
  refine am_steps_r ok_M_isWord 1 (q' := (bif decide ((bz (txA b st_4 k)) = 0) then 29 else 9, [some (.ref 19), some (.int (nI k)), some (.int 6)], [], wd C Y og)) rfl ?_
  refine am_bz_r (fun h_2 => ?_) (fun h_2 => ?_)
  · skip
    refine am_steps_r ok_M_isWord 3 (q' := (12, [some (.ref 19), some (.int (nI k)), some (.int 6)], [.int 6, .int (nI k), .ref 19], wd C Y og)) rfl ?_
    refine am_callS_r (As := [.int 6]) (rest := [.int (nI k), .ref 19]) ok_M_isWord rfl rfl ok_M_letters os_M_letters lk_6_114 rfl rfl (Nat.le_of_ble_eq_true rfl) (c_M_letters_6 _ C Y og) ?_
    rintro v_ w_ ⟨rfl, rfl⟩ -
    refine am_eq_r (q' := (15, [some (.ref 19), some (.int (nI k)), some (.int 6)], [.int 4, .int (nI k), .ref 19], wd C Y og)) rfl ?_
    refine am_steps_r ok_M_isWord 1 (q' := (16, [some (.ref 19), some (.int (nI k)), some (.int 6)], [.int ((nI k) + 4), .ref 19], wd C Y og)) rfl ?_
    rw [show ((nI k) + 4 : Int32) = nI (k + 4) from nI_add k 4]
    refine am_callV_r (As := [.int (nI (k + 4))]) (rest := []) ok_M_isWord rfl rfl ok_M_byteAt oi_M_byteAt lk_6_78 (Or.inl ⟨_, _, _, rfl, rfl, rfl⟩) rfl rfl (Nat.le_of_ble_eq_true rfl) (c_M_byteAt _ C Y og n b hT (k + 4) (by omega)) ?_
    rintro v_ w_ ⟨rfl, rfl⟩ -
    refine am_eq_r (q' := (19, [some (.ref 19), some (.int (nI k)), some (.int 6)], [.int (b (k + 4))], wd C Y og)) rfl ?_
    refine am_callS_r (As := [.int (b (k + 4))]) (rest := []) ok_M_isWord rfl rfl ok_M_isRegular os_M_isRegular lk_6_85 rfl rfl (Nat.le_of_ble_eq_true rfl) (c_M_isRegular _ C Y og (b (k + 4))) ?_
    rintro v_ w_ ⟨rfl, rfl⟩ -
    refine am_eq_r (q' := (22, [some (.ref 19), some (.int (nI k)), some (.int 6)], [.int (bz (isReg (b (k + 4))))], wd C Y og)) rfl ?_
    refine am_steps_r ok_M_isWord 1 (q' := (bif decide ((bz (isReg (b (k + 4)))) = 0) then 25 else 29, [some (.ref 19), some (.int (nI k)), some (.int 6)], [], wd C Y og)) rfl ?_
    refine am_bz_r (fun h_6 => ?_) (fun h_6 => ?_)
    · skip
      refine am_steps_r ok_M_isWord 1 (q' := (30, [some (.ref 19), some (.int (nI k)), some (.int 6)], [.int 0], wd C Y og)) rfl ?_
      refine am_zret_r ok_M_isWord rfl rfl rfl rfl ?_
      refine ⟨?_, rfl⟩
      simp_all [wdA, bz, st_4]
    · skip
      refine am_steps_r ok_M_isWord 2 (q' := (30, [some (.ref 19), some (.int (nI k)), some (.int 6)], [.int 1], wd C Y og)) rfl ?_
      refine am_zret_r ok_M_isWord rfl rfl rfl rfl ?_
      refine ⟨?_, rfl⟩
      simp_all [wdA, bz, st_4]
  · skip
    refine am_steps_r ok_M_isWord 1 (q' := (30, [some (.ref 19), some (.int (nI k)), some (.int 6)], [.int 0], wd C Y og)) rfl ?_
    refine am_zret_r ok_M_isWord rfl rfl rfl rfl ?_
    refine ⟨?_, rfl⟩
    simp_all [wdA, bz, st_4]
set_option maxHeartbeats 4000000 in
set_option maxRecDepth 100000 in
theorem c_M_isWord_7 (d : Nat) (C : wd_C) (Y : wd_Y) (og : Nat → Int64) (n : Nat) (b : Nat → Int32) (hT : tpY Y n b) (k : Nat) (hk : k < 1073740000) : am_Mt l D cA ad fm (d + 2) m_M_isWord [.ref 19, .int (nI k), .int 7] (wd C Y og) (fun v w' => v = some (.int (bz (wdA b st_8 k))) ∧ w' = wd C Y og) := by
  refine am_mt ok_M_isWord (by simp [am_arg, Value.category, m_M_isWord, am_ml]) ?_
  refine am_eq_r (q' := (0, [some (.ref 19), some (.int (nI k)), some (.int 7)], [], wd C Y og)) rfl ?_
  refine am_steps_r ok_M_isWord 3 (q' := (3, [some (.ref 19), some (.int (nI k)), some (.int 7)], [.int 7, .int (nI k), .ref 19], wd C Y og)) rfl ?_
  refine am_callV_r (As := [.int (nI k), .int 7]) (rest := []) ok_M_isWord rfl rfl ok_M_spells oi_M_spells lk_6_110 (Or.inl ⟨_, _, _, rfl, rfl, rfl⟩) rfl rfl (Nat.le_of_ble_eq_true rfl) (c_M_spells_7 _ C Y og n b hT k (by omega)) ?_
  rintro v_ w_ ⟨rfl, rfl⟩ -
  refine am_eq_r (q' := (6, [some (.ref 19), some (.int (nI k)), some (.int 7)], [.int (bz (txA b st_8 k))], wd C Y og)) rfl ?_
  refine am_steps_r ok_M_isWord 1 (q' := (bif decide ((bz (txA b st_8 k)) = 0) then 29 else 9, [some (.ref 19), some (.int (nI k)), some (.int 7)], [], wd C Y og)) rfl ?_
  refine am_bz_r (fun h_2 => ?_) (fun h_2 => ?_)
  · skip
    refine am_steps_r ok_M_isWord 3 (q' := (12, [some (.ref 19), some (.int (nI k)), some (.int 7)], [.int 7, .int (nI k), .ref 19], wd C Y og)) rfl ?_
    refine am_callS_r (As := [.int 7]) (rest := [.int (nI k), .ref 19]) ok_M_isWord rfl rfl ok_M_letters os_M_letters lk_6_114 rfl rfl (Nat.le_of_ble_eq_true rfl) (c_M_letters_7 _ C Y og) ?_
    rintro v_ w_ ⟨rfl, rfl⟩ -
    refine am_eq_r (q' := (15, [some (.ref 19), some (.int (nI k)), some (.int 7)], [.int 6, .int (nI k), .ref 19], wd C Y og)) rfl ?_
    refine am_steps_r ok_M_isWord 1 (q' := (16, [some (.ref 19), some (.int (nI k)), some (.int 7)], [.int ((nI k) + 6), .ref 19], wd C Y og)) rfl ?_
    rw [show ((nI k) + 6 : Int32) = nI (k + 6) from nI_add k 6]
    refine am_callV_r (As := [.int (nI (k + 6))]) (rest := []) ok_M_isWord rfl rfl ok_M_byteAt oi_M_byteAt lk_6_78 (Or.inl ⟨_, _, _, rfl, rfl, rfl⟩) rfl rfl (Nat.le_of_ble_eq_true rfl) (c_M_byteAt _ C Y og n b hT (k + 6) (by omega)) ?_
    rintro v_ w_ ⟨rfl, rfl⟩ -
    refine am_eq_r (q' := (19, [some (.ref 19), some (.int (nI k)), some (.int 7)], [.int (b (k + 6))], wd C Y og)) rfl ?_
    refine am_callS_r (As := [.int (b (k + 6))]) (rest := []) ok_M_isWord rfl rfl ok_M_isRegular os_M_isRegular lk_6_85 rfl rfl (Nat.le_of_ble_eq_true rfl) (c_M_isRegular _ C Y og (b (k + 6))) ?_
    rintro v_ w_ ⟨rfl, rfl⟩ -
    refine am_eq_r (q' := (22, [some (.ref 19), some (.int (nI k)), some (.int 7)], [.int (bz (isReg (b (k + 6))))], wd C Y og)) rfl ?_
    refine am_steps_r ok_M_isWord 1 (q' := (bif decide ((bz (isReg (b (k + 6)))) = 0) then 25 else 29, [some (.ref 19), some (.int (nI k)), some (.int 7)], [], wd C Y og)) rfl ?_
    refine am_bz_r (fun h_6 => ?_) (fun h_6 => ?_)
    · skip
      refine am_steps_r ok_M_isWord 1 (q' := (30, [some (.ref 19), some (.int (nI k)), some (.int 7)], [.int 0], wd C Y og)) rfl ?_
      refine am_zret_r ok_M_isWord rfl rfl rfl rfl ?_
      refine ⟨?_, rfl⟩
      simp_all [wdA, bz, st_8]
    · skip
      refine am_steps_r ok_M_isWord 2 (q' := (30, [some (.ref 19), some (.int (nI k)), some (.int 7)], [.int 1], wd C Y og)) rfl ?_
      refine am_zret_r ok_M_isWord rfl rfl rfl rfl ?_
      refine ⟨?_, rfl⟩
      simp_all [wdA, bz, st_8]
  · skip
    refine am_steps_r ok_M_isWord 1 (q' := (30, [some (.ref 19), some (.int (nI k)), some (.int 7)], [.int 0], wd C Y og)) rfl ?_
    refine am_zret_r ok_M_isWord rfl rfl rfl rfl ?_
    refine ⟨?_, rfl⟩
    simp_all [wdA, bz, st_8]
set_option maxHeartbeats 4000000 in
set_option maxRecDepth 100000 in
theorem c_M_isWord_8 (d : Nat) (C : wd_C) (Y : wd_Y) (og : Nat → Int64) (n : Nat) (b : Nat → Int32) (hT : tpY Y n b) (k : Nat) (hk : k < 1073740000) : am_Mt l D cA ad fm (d + 2) m_M_isWord [.ref 19, .int (nI k), .int 8] (wd C Y og) (fun v w' => v = some (.int (bz (wdA b st_3 k))) ∧ w' = wd C Y og) := by
  refine am_mt ok_M_isWord (by simp [am_arg, Value.category, m_M_isWord, am_ml]) ?_
  refine am_eq_r (q' := (0, [some (.ref 19), some (.int (nI k)), some (.int 8)], [], wd C Y og)) rfl ?_
  refine am_steps_r ok_M_isWord 3 (q' := (3, [some (.ref 19), some (.int (nI k)), some (.int 8)], [.int 8, .int (nI k), .ref 19], wd C Y og)) rfl ?_
  refine am_callV_r (As := [.int (nI k), .int 8]) (rest := []) ok_M_isWord rfl rfl ok_M_spells oi_M_spells lk_6_110 (Or.inl ⟨_, _, _, rfl, rfl, rfl⟩) rfl rfl (Nat.le_of_ble_eq_true rfl) (c_M_spells_8 _ C Y og n b hT k (by omega)) ?_
  rintro v_ w_ ⟨rfl, rfl⟩ -
  refine am_eq_r (q' := (6, [some (.ref 19), some (.int (nI k)), some (.int 8)], [.int (bz (txA b st_3 k))], wd C Y og)) rfl ?_
  refine am_steps_r ok_M_isWord 1 (q' := (bif decide ((bz (txA b st_3 k)) = 0) then 29 else 9, [some (.ref 19), some (.int (nI k)), some (.int 8)], [], wd C Y og)) rfl ?_
  refine am_bz_r (fun h_2 => ?_) (fun h_2 => ?_)
  · skip
    refine am_steps_r ok_M_isWord 3 (q' := (12, [some (.ref 19), some (.int (nI k)), some (.int 8)], [.int 8, .int (nI k), .ref 19], wd C Y og)) rfl ?_
    refine am_callS_r (As := [.int 8]) (rest := [.int (nI k), .ref 19]) ok_M_isWord rfl rfl ok_M_letters os_M_letters lk_6_114 rfl rfl (Nat.le_of_ble_eq_true rfl) (c_M_letters_8 _ C Y og) ?_
    rintro v_ w_ ⟨rfl, rfl⟩ -
    refine am_eq_r (q' := (15, [some (.ref 19), some (.int (nI k)), some (.int 8)], [.int 1, .int (nI k), .ref 19], wd C Y og)) rfl ?_
    refine am_steps_r ok_M_isWord 1 (q' := (16, [some (.ref 19), some (.int (nI k)), some (.int 8)], [.int ((nI k) + 1), .ref 19], wd C Y og)) rfl ?_
    rw [show ((nI k) + 1 : Int32) = nI (k + 1) from nI_add k 1]
    refine am_callV_r (As := [.int (nI (k + 1))]) (rest := []) ok_M_isWord rfl rfl ok_M_byteAt oi_M_byteAt lk_6_78 (Or.inl ⟨_, _, _, rfl, rfl, rfl⟩) rfl rfl (Nat.le_of_ble_eq_true rfl) (c_M_byteAt _ C Y og n b hT (k + 1) (by omega)) ?_
    rintro v_ w_ ⟨rfl, rfl⟩ -
    refine am_eq_r (q' := (19, [some (.ref 19), some (.int (nI k)), some (.int 8)], [.int (b (k + 1))], wd C Y og)) rfl ?_
    refine am_callS_r (As := [.int (b (k + 1))]) (rest := []) ok_M_isWord rfl rfl ok_M_isRegular os_M_isRegular lk_6_85 rfl rfl (Nat.le_of_ble_eq_true rfl) (c_M_isRegular _ C Y og (b (k + 1))) ?_
    rintro v_ w_ ⟨rfl, rfl⟩ -
    refine am_eq_r (q' := (22, [some (.ref 19), some (.int (nI k)), some (.int 8)], [.int (bz (isReg (b (k + 1))))], wd C Y og)) rfl ?_
    refine am_steps_r ok_M_isWord 1 (q' := (bif decide ((bz (isReg (b (k + 1)))) = 0) then 25 else 29, [some (.ref 19), some (.int (nI k)), some (.int 8)], [], wd C Y og)) rfl ?_
    refine am_bz_r (fun h_6 => ?_) (fun h_6 => ?_)
    · skip
      refine am_steps_r ok_M_isWord 1 (q' := (30, [some (.ref 19), some (.int (nI k)), some (.int 8)], [.int 0], wd C Y og)) rfl ?_
      refine am_zret_r ok_M_isWord rfl rfl rfl rfl ?_
      refine ⟨?_, rfl⟩
      simp_all [wdA, bz, st_3]
    · skip
      refine am_steps_r ok_M_isWord 2 (q' := (30, [some (.ref 19), some (.int (nI k)), some (.int 8)], [.int 1], wd C Y og)) rfl ?_
      refine am_zret_r ok_M_isWord rfl rfl rfl rfl ?_
      refine ⟨?_, rfl⟩
      simp_all [wdA, bz, st_3]
  · skip
    refine am_steps_r ok_M_isWord 1 (q' := (30, [some (.ref 19), some (.int (nI k)), some (.int 8)], [.int 0], wd C Y og)) rfl ?_
    refine am_zret_r ok_M_isWord rfl rfl rfl rfl ?_
    refine ⟨?_, rfl⟩
    simp_all [wdA, bz, st_3]
end C21
