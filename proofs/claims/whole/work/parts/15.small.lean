/-! CONTRACTS of the component's small methods, printed by wip/gen/g15.py -/
section C15
variable {l : Launch} {D : va_G} {cA : Nat → ClassId} {ad : Nat → Nat} {fm : Value}
set_option maxHeartbeats 4000000 in
set_option maxRecDepth 100000 in
theorem c_S_isFigure (d : Nat) (C : wd_C) (Y : wd_Y) (og : Nat → Int64) (c : Int32) : am_Mt l D cA ad fm (d + 0) m_S_isFigure [.int c] (wd C Y og) (fun v w' => v = some (.int (bz (isFig c))) ∧ w' = wd C Y og) := by
  refine am_mt ok_S_isFigure (by simp [am_arg, Value.category, m_S_isFigure, am_ml]) ?_
  refine am_eq_r (q' := (0, [some (.int c)], [], wd C Y og)) rfl ?_
  refine am_steps_r ok_S_isFigure 3 (q' := (bif decide (c < 48) then 16 else 6, [some (.int c)], [], wd C Y og)) rfl ?_
  refine am_br_r (fun h_1 => ?_) (fun h_1 => ?_)
  · skip
    refine am_steps_r ok_S_isFigure 1 (q' := (17, [some (.int c)], [.int 0], wd C Y og)) rfl ?_
    refine am_zret_r ok_S_isFigure rfl rfl rfl rfl ?_
    refine ⟨?_, rfl⟩
    simp_all [isFig, bz, ← Int32.not_lt]
  · skip
    refine am_steps_r ok_S_isFigure 3 (q' := (bif decide (57 < c) then 16 else 12, [some (.int c)], [], wd C Y og)) rfl ?_
    refine am_br_r (fun h_2 => ?_) (fun h_2 => ?_)
    · skip
      refine am_steps_r ok_S_isFigure 1 (q' := (17, [some (.int c)], [.int 0], wd C Y og)) rfl ?_
      refine am_zret_r ok_S_isFigure rfl rfl rfl rfl ?_
      refine ⟨?_, rfl⟩
      simp_all [isFig, bz, ← Int32.not_lt]
    · skip
      refine am_steps_r ok_S_isFigure 2 (q' := (17, [some (.int c)], [.int 1], wd C Y og)) rfl ?_
      refine am_zret_r ok_S_isFigure rfl rfl rfl rfl ?_
      refine ⟨?_, rfl⟩
      simp_all [isFig, bz, ← Int32.not_lt]
set_option maxHeartbeats 4000000 in
set_option maxRecDepth 100000 in
theorem c_S_isLineEnd (d : Nat) (C : wd_C) (Y : wd_Y) (og : Nat → Int64) (c : Int32) : am_Mt l D cA ad fm (d + 0) m_S_isLineEnd [.int c] (wd C Y og) (fun v w' => v = some (.int (bz (isLE c))) ∧ w' = wd C Y og) := by
  refine am_mt ok_S_isLineEnd (by simp [am_arg, Value.category, m_S_isLineEnd, am_ml]) ?_
  refine am_eq_r (q' := (0, [some (.int c)], [], wd C Y og)) rfl ?_
  refine am_steps_r ok_S_isLineEnd 3 (q' := (bif decide (c = 10) then 12 else 6, [some (.int c)], [], wd C Y og)) rfl ?_
  refine am_br_r (fun h_1 => ?_) (fun h_1 => ?_)
  · skip
    refine am_steps_r ok_S_isLineEnd 2 (q' := (17, [some (.int c)], [.int 1], wd C Y og)) rfl ?_
    refine am_zret_r ok_S_isLineEnd rfl rfl rfl rfl ?_
    refine ⟨?_, rfl⟩
    simp_all [isLE, bz]
  · skip
    refine am_steps_r ok_S_isLineEnd 3 (q' := (bif decide (c = 13) then 12 else 16, [some (.int c)], [], wd C Y og)) rfl ?_
    refine am_br_r (fun h_2 => ?_) (fun h_2 => ?_)
    · skip
      refine am_steps_r ok_S_isLineEnd 2 (q' := (17, [some (.int c)], [.int 1], wd C Y og)) rfl ?_
      refine am_zret_r ok_S_isLineEnd rfl rfl rfl rfl ?_
      refine ⟨?_, rfl⟩
      simp_all [isLE, bz]
    · skip
      refine am_steps_r ok_S_isLineEnd 1 (q' := (17, [some (.int c)], [.int 0], wd C Y og)) rfl ?_
      refine am_zret_r ok_S_isLineEnd rfl rfl rfl rfl ?_
      refine ⟨?_, rfl⟩
      simp_all [isLE, bz]
set_option maxHeartbeats 4000000 in
set_option maxRecDepth 100000 in
theorem c_S_isPlainWhite (d : Nat) (C : wd_C) (Y : wd_Y) (og : Nat → Int64) (c : Int32) : am_Mt l D cA ad fm (d + 0) m_S_isPlainWhite [.int c] (wd C Y og) (fun v w' => v = some (.int (bz (isWh c))) ∧ w' = wd C Y og) := by
  refine am_mt ok_S_isPlainWhite (by simp [am_arg, Value.category, m_S_isPlainWhite, am_ml]) ?_
  refine am_eq_r (q' := (0, [some (.int c)], [], wd C Y og)) rfl ?_
  refine am_steps_r ok_S_isPlainWhite 2 (q' := (bif decide (c = 0) then 34 else 4, [some (.int c)], [], wd C Y og)) rfl ?_
  refine am_br_r (fun h_1 => ?_) (fun h_1 => ?_)
  · skip
    refine am_steps_r ok_S_isPlainWhite 2 (q' := (39, [some (.int c)], [.int 1], wd C Y og)) rfl ?_
    refine am_zret_r ok_S_isPlainWhite rfl rfl rfl rfl ?_
    refine ⟨?_, rfl⟩
    simp_all [isWh, bz]
  · skip
    refine am_steps_r ok_S_isPlainWhite 3 (q' := (bif decide (c = 9) then 34 else 10, [some (.int c)], [], wd C Y og)) rfl ?_
    refine am_br_r (fun h_2 => ?_) (fun h_2 => ?_)
    · skip
      refine am_steps_r ok_S_isPlainWhite 2 (q' := (39, [some (.int c)], [.int 1], wd C Y og)) rfl ?_
      refine am_zret_r ok_S_isPlainWhite rfl rfl rfl rfl ?_
      refine ⟨?_, rfl⟩
      simp_all [isWh, bz]
    · skip
      refine am_steps_r ok_S_isPlainWhite 3 (q' := (bif decide (c = 10) then 34 else 16, [some (.int c)], [], wd C Y og)) rfl ?_
      refine am_br_r (fun h_3 => ?_) (fun h_3 => ?_)
      · skip
        refine am_steps_r ok_S_isPlainWhite 2 (q' := (39, [some (.int c)], [.int 1], wd C Y og)) rfl ?_
        refine am_zret_r ok_S_isPlainWhite rfl rfl rfl rfl ?_
        refine ⟨?_, rfl⟩
        simp_all [isWh, bz]
      · skip
        refine am_steps_r ok_S_isPlainWhite 3 (q' := (bif decide (c = 12) then 34 else 22, [some (.int c)], [], wd C Y og)) rfl ?_
        refine am_br_r (fun h_4 => ?_) (fun h_4 => ?_)
        · skip
          refine am_steps_r ok_S_isPlainWhite 2 (q' := (39, [some (.int c)], [.int 1], wd C Y og)) rfl ?_
          refine am_zret_r ok_S_isPlainWhite rfl rfl rfl rfl ?_
          refine ⟨?_, rfl⟩
          simp_all [isWh, bz]
        · skip
          refine am_steps_r ok_S_isPlainWhite 3 (q' := (bif decide (c = 13) then 34 else 28, [some (.int c)], [], wd C Y og)) rfl ?_
          refine am_br_r (fun h_5 => ?_) (fun h_5 => ?_)
          · skip
            refine am_steps_r ok_S_isPlainWhite 2 (q' := (39, [some (.int c)], [.int 1], wd C Y og)) rfl ?_
            refine am_zret_r ok_S_isPlainWhite rfl rfl rfl rfl ?_
            refine ⟨?_, rfl⟩
            simp_all [isWh, bz]
          · skip
            refine am_steps_r ok_S_isPlainWhite 3 (q' := (bif decide (c = 32) then 34 else 38, [some (.int c)], [], wd C Y og)) rfl ?_
            refine am_br_r (fun h_6 => ?_) (fun h_6 => ?_)
            · skip
              refine am_steps_r ok_S_isPlainWhite 2 (q' := (39, [some (.int c)], [.int 1], wd C Y og)) rfl ?_
              refine am_zret_r ok_S_isPlainWhite rfl rfl rfl rfl ?_
              refine ⟨?_, rfl⟩
              simp_all [isWh, bz]
            · skip
              refine am_steps_r ok_S_isPlainWhite 1 (q' := (39, [some (.int c)], [.int 0], wd C Y og)) rfl ?_
              refine am_zret_r ok_S_isPlainWhite rfl rfl rfl rfl ?_
              refine ⟨?_, rfl⟩
              simp_all [isWh, bz]
set_option maxHeartbeats 4000000 in
set_option maxRecDepth 100000 in
theorem c_S_figure16 (d : Nat) (C : wd_C) (Y : wd_Y) (og : Nat → Int64) (c : Int32) : am_Mt l D cA ad fm (d + 1) m_S_figure16 [.int c] (wd C Y og) (fun v w' => v = some (.int (hexV c)) ∧ w' = wd C Y og) := by
  refine am_mt ok_S_figure16 (by simp [am_arg, Value.category, m_S_figure16, am_ml]) ?_
  refine am_eq_r (q' := (0, [some (.int c)], [], wd C Y og)) rfl ?_
  refine am_steps_r ok_S_figure16 1 (q' := (1, [some (.int c)], [.int c], wd C Y og)) rfl ?_
  refine am_callS_r (As := [.int c]) (rest := []) ok_S_figure16 rfl rfl ok_S_isFigure os_S_isFigure lk_5_143 rfl rfl (Nat.le_of_ble_eq_true rfl) (c_S_isFigure _ C Y og c) ?_
  rintro v_ w_ ⟨rfl, rfl⟩ -
  refine am_eq_r (q' := (4, [some (.int c)], [.int (bz (isFig c))], wd C Y og)) rfl ?_
  refine am_steps_r ok_S_figure16 1 (q' := (bif decide ((bz (isFig c)) = 0) then 12 else 7, [some (.int c)], [], wd C Y og)) rfl ?_
  refine am_bz_r (fun h_2 => ?_) (fun h_2 => ?_)
  · skip
    refine am_steps_r ok_S_figure16 3 (q' := (11, [some (.int c)], [.int (c - 48)], wd C Y og)) rfl ?_
    refine am_iret_r ok_S_figure16 rfl rfl rfl ?_
    refine ⟨?_, rfl⟩
    simp_all [hexV, ← Int32.not_lt]
    try grind
  · skip
    refine am_steps_r ok_S_figure16 3 (q' := (bif decide (c < 97) then 32 else 18, [some (.int c)], [], wd C Y og)) rfl ?_
    refine am_br_r (fun h_3 => ?_) (fun h_3 => ?_)
    · skip
      refine am_steps_r ok_S_figure16 3 (q' := (bif decide (c < 65) then 54 else 38, [some (.int c)], [], wd C Y og)) rfl ?_
      refine am_br_r (fun h_4 => ?_) (fun h_4 => ?_)
      · skip
        refine am_steps_r ok_S_figure16 1 (q' := (55, [some (.int c)], [.int (-1)], wd C Y og)) rfl ?_
        refine am_iret_r ok_S_figure16 rfl rfl rfl ?_
        refine ⟨?_, rfl⟩
        simp_all [hexV, ← Int32.not_lt]
        try grind
      · skip
        refine am_steps_r ok_S_figure16 3 (q' := (bif decide (70 < c) then 54 else 44, [some (.int c)], [], wd C Y og)) rfl ?_
        refine am_br_r (fun h_5 => ?_) (fun h_5 => ?_)
        · skip
          refine am_steps_r ok_S_figure16 1 (q' := (55, [some (.int c)], [.int (-1)], wd C Y og)) rfl ?_
          refine am_iret_r ok_S_figure16 rfl rfl rfl ?_
          refine ⟨?_, rfl⟩
          simp_all [hexV, ← Int32.not_lt]
          try grind
        · skip
          refine am_steps_r ok_S_figure16 6 (q' := (55, [some (.int c)], [.int ((c - 65) + 10)], wd C Y og)) rfl ?_
          refine am_iret_r ok_S_figure16 rfl rfl rfl ?_
          refine ⟨?_, rfl⟩
          simp_all [hexV, ← Int32.not_lt]
          try grind
    · skip
      refine am_steps_r ok_S_figure16 3 (q' := (bif decide (102 < c) then 32 else 24, [some (.int c)], [], wd C Y og)) rfl ?_
      refine am_br_r (fun h_6 => ?_) (fun h_6 => ?_)
      · skip
        refine am_steps_r ok_S_figure16 3 (q' := (bif decide (c < 65) then 54 else 38, [some (.int c)], [], wd C Y og)) rfl ?_
        refine am_br_r (fun h_7 => ?_) (fun h_7 => ?_)
        · skip
          refine am_steps_r ok_S_figure16 1 (q' := (55, [some (.int c)], [.int (-1)], wd C Y og)) rfl ?_
          refine am_iret_r ok_S_figure16 rfl rfl rfl ?_
          refine ⟨?_, rfl⟩
          simp_all [hexV, ← Int32.not_lt]
          try grind
        · skip
          refine am_steps_r ok_S_figure16 3 (q' := (bif decide (70 < c) then 54 else 44, [some (.int c)], [], wd C Y og)) rfl ?_
          refine am_br_r (fun h_8 => ?_) (fun h_8 => ?_)
          · skip
            refine am_steps_r ok_S_figure16 1 (q' := (55, [some (.int c)], [.int (-1)], wd C Y og)) rfl ?_
            refine am_iret_r ok_S_figure16 rfl rfl rfl ?_
            refine ⟨?_, rfl⟩
            simp_all [hexV, ← Int32.not_lt]
            try grind
          · skip
            refine am_steps_r ok_S_figure16 6 (q' := (55, [some (.int c)], [.int ((c - 65) + 10)], wd C Y og)) rfl ?_
            refine am_iret_r ok_S_figure16 rfl rfl rfl ?_
            refine ⟨?_, rfl⟩
            simp_all [hexV, ← Int32.not_lt]
            try grind
      · skip
        refine am_steps_r ok_S_figure16 5 (q' := (31, [some (.int c)], [.int ((c - 97) + 10)], wd C Y og)) rfl ?_
        refine am_iret_r ok_S_figure16 rfl rfl rfl ?_
        refine ⟨?_, rfl⟩
        simp_all [hexV, ← Int32.not_lt]
        try grind
set_option maxHeartbeats 4000000 in
set_option maxRecDepth 100000 in
theorem c_T_size (d : Nat) (C : wd_C) (Y : wd_Y) (og : Nat → Int64) (n : Nat) (b : Nat → Int32) (hT : tpC C n b)  : am_Mt l D cA ad fm (d + 0) m_T_size [.ref 1] (wd C Y og) (fun v w' => v = some (.int (nI n)) ∧ w' = wd C Y og) := by
  refine am_mt ok_T_size (by simp [am_arg, Value.category, m_T_size, am_ml]) ?_
  refine am_eq_r (q' := (0, [some (.ref 1)], [], wd C Y og)) rfl ?_
  refine am_steps_r ok_T_size 2 (q' := (4, [some (.ref 1)], [.int (C.1 0)], wd C Y og)) rfl ?_
  rw [show (C.1 0 : Int32) = nI n from hT.1]
  refine am_iret_r ok_T_size rfl rfl rfl ?_
  exact ⟨rfl, rfl⟩
set_option maxHeartbeats 4000000 in
set_option maxRecDepth 100000 in
theorem c_T_at (d : Nat) (C : wd_C) (Y : wd_Y) (og : Nat → Int64) (n : Nat) (b : Nat → Int32) (hT : tpC C n b) (k : Nat) (hk : k < 1073741824) : am_Mt l D cA ad fm (d + 0) m_T_at [.ref 1, .int (nI k)] (wd C Y og) (fun v w' => v = some (.int (b k)) ∧ w' = wd C Y og) := by
  have hn := hT.2.1
  refine am_mt ok_T_at (by simp [am_arg, Value.category, m_T_at, am_ml]) ?_
  refine am_eq_r (q' := (0, [some (.ref 1), some (.int (nI k))], [], wd C Y og)) rfl ?_
  refine am_steps_r ok_T_at 2 (q' := (bif decide ((nI k) < 0) then 12 else 4, [some (.ref 1), some (.int (nI k))], [], wd C Y og)) rfl ?_
  refine am_br_r (fun h_1 => ?_) (fun h_1 => ?_)
  · skip
    have h_1 : k < 0 := (nI_ltI (show k < 2 ^ 31 by omega) (show 0 < 2 ^ 31 by omega)).mp h_1
    refine am_steps_r ok_T_at 2 (q' := (26, [some (.ref 1), some (.int (nI k))], [.int (-1)], wd C Y og)) rfl ?_
    refine am_iret_r ok_T_at rfl rfl rfl ?_
    first | (exfalso; omega) | exact ⟨by rw [hT.2.2.2 k (by omega)], rfl⟩ | exact ⟨by rw [tpC_at hT (by omega)], rfl⟩
  · skip
    have h_1 : ¬ k < 0 := fun z => h_1 ((nI_ltI (show k < 2 ^ 31 by omega) (show 0 < 2 ^ 31 by omega)).mpr z)
    refine am_steps_r ok_T_at 4 (q' := (bif decide ((nI k) < (C.1 0)) then 16 else 12, [some (.ref 1), some (.int (nI k))], [], wd C Y og)) rfl ?_
    rw [show (C.1 0 : Int32) = nI n from hT.1]
    refine am_br_r (fun h_2 => ?_) (fun h_2 => ?_)
    · skip
      have h_2 : k < n := (nI_ltI (show k < 2 ^ 31 by omega) (show n < 2 ^ 31 by omega)).mp h_2
      refine am_steps_r ok_T_at 3 (q' := (21, [some (.ref 1), some (.int (nI k))], [.int (nI k), .ref 2], wd C Y og)) rfl ?_
      refine am_bald_r ok_T_at rfl (w := wd C Y og) (f := C.2.1 0) rfl rfl (pk_in k 1600 (by omega)) ?_
      rw [nI_clamp (show k < 2 ^ 31 by omega)]
      refine am_steps_r ok_T_at 2 (q' := (26, [some (.ref 1), some (.int (nI k))], [.int ((C.2.1 0 k) &&& 255)], wd C Y og)) rfl ?_
      refine am_iret_r ok_T_at rfl rfl rfl ?_
      first | (exfalso; omega) | exact ⟨by rw [hT.2.2.2 k (by omega)], rfl⟩ | exact ⟨by rw [tpC_at hT (by omega)], rfl⟩
    · skip
      have h_2 : ¬ k < n := fun z => h_2 ((nI_ltI (show k < 2 ^ 31 by omega) (show n < 2 ^ 31 by omega)).mpr z)
      refine am_steps_r ok_T_at 2 (q' := (26, [some (.ref 1), some (.int (nI k))], [.int (-1)], wd C Y og)) rfl ?_
      refine am_iret_r ok_T_at rfl rfl rfl ?_
      first | (exfalso; omega) | exact ⟨by rw [hT.2.2.2 k (by omega)], rfl⟩ | exact ⟨by rw [tpC_at hT (by omega)], rfl⟩
end C15
