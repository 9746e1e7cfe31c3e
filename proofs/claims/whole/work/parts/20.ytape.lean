/-! CONTRACTS of the reference's tape, printed by wip/gen/g20.py -/
section C20
variable {l : Launch} {D : va_G} {cA : Nat → ClassId} {ad : Nat → Nat} {fm : Value}
set_option maxHeartbeats 4000000 in
set_option maxRecDepth 100000 in
theorem c_M_byteAt (d : Nat) (C : wd_C) (Y : wd_Y) (og : Nat → Int64) (n : Nat) (b : Nat → Int32) (hT : tpY Y n b) (k : Nat) (hk : k < 1073741824) : am_Mt l D cA ad fm (d + 0) m_M_byteAt [.ref 19, .int (nI k)] (wd C Y og) (fun v w' => v = some (.int (b k)) ∧ w' = wd C Y og) := by
  have hn := hT.2.1
  refine am_mt ok_M_byteAt (by simp [am_arg, Value.category, m_M_byteAt, am_ml]) ?_
  refine am_eq_r (q' := (0, [some (.ref 19), some (.int (nI k))], [], wd C Y og)) rfl ?_
  refine am_steps_r ok_M_byteAt 2 (q' := (bif decide ((nI k) < 0) then 21 else 4, [some (.ref 19), some (.int (nI k))], [], wd C Y og)) rfl ?_
  refine am_br_r (fun h_1 => ?_) (fun h_1 => ?_)
  · skip
    have h_1 : k < 0 := (nI_ltI (show k < 2 ^ 31 by omega) (show 0 < 2 ^ 31 by omega)).mp h_1
    refine am_steps_r ok_M_byteAt 1 (q' := (22, [some (.ref 19), some (.int (nI k))], [.int (-1)], wd C Y og)) rfl ?_
    refine am_iret_r ok_M_byteAt rfl rfl rfl ?_
    first | (exfalso; omega) | exact ⟨by rw [hT.2.2.2.1 k (by omega)], rfl⟩ | exact ⟨by rw [hT.2.2.1 k (by omega)], rfl⟩
  · skip
    have h_1 : ¬ k < 0 := fun z => h_1 ((nI_ltI (show k < 2 ^ 31 by omega) (show 0 < 2 ^ 31 by omega)).mpr z)
    refine am_steps_r ok_M_byteAt 4 (q' := (bif decide ((Y.1 1) ≤ (nI k)) then 21 else 12, [some (.ref 19), some (.int (nI k))], [], wd C Y og)) rfl ?_
    rw [show (Y.1 1 : Int32) = nI n from hT.1]
    refine am_br_r (fun h_2 => ?_) (fun h_2 => ?_)
    · skip
      have h_2 : n ≤ k := (nI_leI (show n < 2 ^ 31 by omega) (show k < 2 ^ 31 by omega)).mp h_2
      refine am_steps_r ok_M_byteAt 1 (q' := (22, [some (.ref 19), some (.int (nI k))], [.int (-1)], wd C Y og)) rfl ?_
      refine am_iret_r ok_M_byteAt rfl rfl rfl ?_
      first | (exfalso; omega) | exact ⟨by rw [hT.2.2.2.1 k (by omega)], rfl⟩ | exact ⟨by rw [hT.2.2.1 k (by omega)], rfl⟩
    · skip
      have h_2 : ¬ n ≤ k := fun z => h_2 ((nI_leI (show n < 2 ^ 31 by omega) (show k < 2 ^ 31 by omega)).mpr z)
      refine am_steps_r ok_M_byteAt 3 (q' := (17, [some (.ref 19), some (.int (nI k))], [.int (nI k), .ref 20], wd C Y og)) rfl ?_
      refine am_iald_r ok_M_byteAt rfl (w := wd C Y og) (f := Y.2.1 0) rfl rfl (pk_in k 1600 (by omega)) ?_
      rw [nI_clamp (show k < 2 ^ 31 by omega)]
      refine am_steps_r ok_M_byteAt 1 (q' := (22, [some (.ref 19), some (.int (nI k))], [.int (Y.2.1 0 k)], wd C Y og)) rfl ?_
      refine am_iret_r ok_M_byteAt rfl rfl rfl ?_
      first | (exfalso; omega) | exact ⟨by rw [hT.2.2.2.1 k (by omega)], rfl⟩ | exact ⟨by rw [hT.2.2.1 k (by omega)], rfl⟩
set_option maxHeartbeats 4000000 in
set_option maxRecDepth 100000 in
theorem c_M_isBlank (d : Nat) (C : wd_C) (Y : wd_Y) (og : Nat → Int64) (c : Int32) : am_Mt l D cA ad fm (d + 0) m_M_isBlank [.int c] (wd C Y og) (fun v w' => v = some (.int (bz (isWh c))) ∧ w' = wd C Y og) := by
  refine am_mt ok_M_isBlank (by simp [am_arg, Value.category, m_M_isBlank, am_ml]) ?_
  refine am_eq_r (q' := (0, [some (.int c)], [], wd C Y og)) rfl ?_
  refine am_steps_r ok_M_isBlank 2 (q' := (bif decide (c = 0) then 34 else 4, [some (.int c)], [], wd C Y og)) rfl ?_
  refine am_br_r (fun h_1 => ?_) (fun h_1 => ?_)
  · skip
    refine am_steps_r ok_M_isBlank 2 (q' := (39, [some (.int c)], [.int 1], wd C Y og)) rfl ?_
    refine am_zret_r ok_M_isBlank rfl rfl rfl rfl ?_
    refine ⟨?_, rfl⟩
    simp_all [isWh, bz, ← Int32.not_lt]
  · skip
    refine am_steps_r ok_M_isBlank 3 (q' := (bif decide (c = 9) then 34 else 10, [some (.int c)], [], wd C Y og)) rfl ?_
    refine am_br_r (fun h_2 => ?_) (fun h_2 => ?_)
    · skip
      refine am_steps_r ok_M_isBlank 2 (q' := (39, [some (.int c)], [.int 1], wd C Y og)) rfl ?_
      refine am_zret_r ok_M_isBlank rfl rfl rfl rfl ?_
      refine ⟨?_, rfl⟩
      simp_all [isWh, bz, ← Int32.not_lt]
    · skip
      refine am_steps_r ok_M_isBlank 3 (q' := (bif decide (c = 10) then 34 else 16, [some (.int c)], [], wd C Y og)) rfl ?_
      refine am_br_r (fun h_3 => ?_) (fun h_3 => ?_)
      · skip
        refine am_steps_r ok_M_isBlank 2 (q' := (39, [some (.int c)], [.int 1], wd C Y og)) rfl ?_
        refine am_zret_r ok_M_isBlank rfl rfl rfl rfl ?_
        refine ⟨?_, rfl⟩
        simp_all [isWh, bz, ← Int32.not_lt]
      · skip
        refine am_steps_r ok_M_isBlank 3 (q' := (bif decide (c = 12) then 34 else 22, [some (.int c)], [], wd C Y og)) rfl ?_
        refine am_br_r (fun h_4 => ?_) (fun h_4 => ?_)
        · skip
          refine am_steps_r ok_M_isBlank 2 (q' := (39, [some (.int c)], [.int 1], wd C Y og)) rfl ?_
          refine am_zret_r ok_M_isBlank rfl rfl rfl rfl ?_
          refine ⟨?_, rfl⟩
          simp_all [isWh, bz, ← Int32.not_lt]
        · skip
          refine am_steps_r ok_M_isBlank 3 (q' := (bif decide (c = 13) then 34 else 28, [some (.int c)], [], wd C Y og)) rfl ?_
          refine am_br_r (fun h_5 => ?_) (fun h_5 => ?_)
          · skip
            refine am_steps_r ok_M_isBlank 2 (q' := (39, [some (.int c)], [.int 1], wd C Y og)) rfl ?_
            refine am_zret_r ok_M_isBlank rfl rfl rfl rfl ?_
            refine ⟨?_, rfl⟩
            simp_all [isWh, bz, ← Int32.not_lt]
          · skip
            refine am_steps_r ok_M_isBlank 3 (q' := (bif decide (c = 32) then 34 else 38, [some (.int c)], [], wd C Y og)) rfl ?_
            refine am_br_r (fun h_6 => ?_) (fun h_6 => ?_)
            · skip
              refine am_steps_r ok_M_isBlank 2 (q' := (39, [some (.int c)], [.int 1], wd C Y og)) rfl ?_
              refine am_zret_r ok_M_isBlank rfl rfl rfl rfl ?_
              refine ⟨?_, rfl⟩
              simp_all [isWh, bz, ← Int32.not_lt]
            · skip
              refine am_steps_r ok_M_isBlank 1 (q' := (39, [some (.int c)], [.int 0], wd C Y og)) rfl ?_
              refine am_zret_r ok_M_isBlank rfl rfl rfl rfl ?_
              refine ⟨?_, rfl⟩
              simp_all [isWh, bz, ← Int32.not_lt]
set_option maxHeartbeats 4000000 in
set_option maxRecDepth 100000 in
theorem c_M_isSign (d : Nat) (C : wd_C) (Y : wd_Y) (og : Nat → Int64) (c : Int32) : am_Mt l D cA ad fm (d + 0) m_M_isSign [.int c] (wd C Y og) (fun v w' => v = some (.int (bz (isSg c))) ∧ w' = wd C Y og) := by
  refine am_mt ok_M_isSign (by simp [am_arg, Value.category, m_M_isSign, am_ml]) ?_
  refine am_eq_r (q' := (0, [some (.int c)], [], wd C Y og)) rfl ?_
  refine am_steps_r ok_M_isSign 3 (q' := (bif decide (c = 40) then 60 else 6, [some (.int c)], [], wd C Y og)) rfl ?_
  refine am_br_r (fun h_1 => ?_) (fun h_1 => ?_)
  · skip
    refine am_steps_r ok_M_isSign 2 (q' := (65, [some (.int c)], [.int 1], wd C Y og)) rfl ?_
    refine am_zret_r ok_M_isSign rfl rfl rfl rfl ?_
    refine ⟨?_, rfl⟩
    simp_all [isSg, bz, ← Int32.not_lt]
  · skip
    refine am_steps_r ok_M_isSign 3 (q' := (bif decide (c = 41) then 60 else 12, [some (.int c)], [], wd C Y og)) rfl ?_
    refine am_br_r (fun h_2 => ?_) (fun h_2 => ?_)
    · skip
      refine am_steps_r ok_M_isSign 2 (q' := (65, [some (.int c)], [.int 1], wd C Y og)) rfl ?_
      refine am_zret_r ok_M_isSign rfl rfl rfl rfl ?_
      refine ⟨?_, rfl⟩
      simp_all [isSg, bz, ← Int32.not_lt]
    · skip
      refine am_steps_r ok_M_isSign 3 (q' := (bif decide (c = 60) then 60 else 18, [some (.int c)], [], wd C Y og)) rfl ?_
      refine am_br_r (fun h_3 => ?_) (fun h_3 => ?_)
      · skip
        refine am_steps_r ok_M_isSign 2 (q' := (65, [some (.int c)], [.int 1], wd C Y og)) rfl ?_
        refine am_zret_r ok_M_isSign rfl rfl rfl rfl ?_
        refine ⟨?_, rfl⟩
        simp_all [isSg, bz, ← Int32.not_lt]
      · skip
        refine am_steps_r ok_M_isSign 3 (q' := (bif decide (c = 62) then 60 else 24, [some (.int c)], [], wd C Y og)) rfl ?_
        refine am_br_r (fun h_4 => ?_) (fun h_4 => ?_)
        · skip
          refine am_steps_r ok_M_isSign 2 (q' := (65, [some (.int c)], [.int 1], wd C Y og)) rfl ?_
          refine am_zret_r ok_M_isSign rfl rfl rfl rfl ?_
          refine ⟨?_, rfl⟩
          simp_all [isSg, bz, ← Int32.not_lt]
        · skip
          refine am_steps_r ok_M_isSign 3 (q' := (bif decide (c = 91) then 60 else 30, [some (.int c)], [], wd C Y og)) rfl ?_
          refine am_br_r (fun h_5 => ?_) (fun h_5 => ?_)
          · skip
            refine am_steps_r ok_M_isSign 2 (q' := (65, [some (.int c)], [.int 1], wd C Y og)) rfl ?_
            refine am_zret_r ok_M_isSign rfl rfl rfl rfl ?_
            refine ⟨?_, rfl⟩
            simp_all [isSg, bz, ← Int32.not_lt]
          · skip
            refine am_steps_r ok_M_isSign 3 (q' := (bif decide (c = 93) then 60 else 36, [some (.int c)], [], wd C Y og)) rfl ?_
            refine am_br_r (fun h_6 => ?_) (fun h_6 => ?_)
            · skip
              refine am_steps_r ok_M_isSign 2 (q' := (65, [some (.int c)], [.int 1], wd C Y og)) rfl ?_
              refine am_zret_r ok_M_isSign rfl rfl rfl rfl ?_
              refine ⟨?_, rfl⟩
              simp_all [isSg, bz, ← Int32.not_lt]
            · skip
              refine am_steps_r ok_M_isSign 3 (q' := (bif decide (c = 123) then 60 else 42, [some (.int c)], [], wd C Y og)) rfl ?_
              refine am_br_r (fun h_7 => ?_) (fun h_7 => ?_)
              · skip
                refine am_steps_r ok_M_isSign 2 (q' := (65, [some (.int c)], [.int 1], wd C Y og)) rfl ?_
                refine am_zret_r ok_M_isSign rfl rfl rfl rfl ?_
                refine ⟨?_, rfl⟩
                simp_all [isSg, bz, ← Int32.not_lt]
              · skip
                refine am_steps_r ok_M_isSign 3 (q' := (bif decide (c = 125) then 60 else 48, [some (.int c)], [], wd C Y og)) rfl ?_
                refine am_br_r (fun h_8 => ?_) (fun h_8 => ?_)
                · skip
                  refine am_steps_r ok_M_isSign 2 (q' := (65, [some (.int c)], [.int 1], wd C Y og)) rfl ?_
                  refine am_zret_r ok_M_isSign rfl rfl rfl rfl ?_
                  refine ⟨?_, rfl⟩
                  simp_all [isSg, bz, ← Int32.not_lt]
                · skip
                  refine am_steps_r ok_M_isSign 3 (q' := (bif decide (c = 47) then 60 else 54, [some (.int c)], [], wd C Y og)) rfl ?_
                  refine am_br_r (fun h_9 => ?_) (fun h_9 => ?_)
                  · skip
                    refine am_steps_r ok_M_isSign 2 (q' := (65, [some (.int c)], [.int 1], wd C Y og)) rfl ?_
                    refine am_zret_r ok_M_isSign rfl rfl rfl rfl ?_
                    refine ⟨?_, rfl⟩
                    simp_all [isSg, bz, ← Int32.not_lt]
                  · skip
                    refine am_steps_r ok_M_isSign 3 (q' := (bif decide (c = 37) then 60 else 64, [some (.int c)], [], wd C Y og)) rfl ?_
                    refine am_br_r (fun h_10 => ?_) (fun h_10 => ?_)
                    · skip
                      refine am_steps_r ok_M_isSign 2 (q' := (65, [some (.int c)], [.int 1], wd C Y og)) rfl ?_
                      refine am_zret_r ok_M_isSign rfl rfl rfl rfl ?_
                      refine ⟨?_, rfl⟩
                      simp_all [isSg, bz, ← Int32.not_lt]
                    · skip
                      refine am_steps_r ok_M_isSign 1 (q' := (65, [some (.int c)], [.int 0], wd C Y og)) rfl ?_
                      refine am_zret_r ok_M_isSign rfl rfl rfl rfl ?_
                      refine ⟨?_, rfl⟩
                      simp_all [isSg, bz, ← Int32.not_lt]
set_option maxHeartbeats 4000000 in
set_option maxRecDepth 100000 in
theorem c_M_isFigure (d : Nat) (C : wd_C) (Y : wd_Y) (og : Nat → Int64) (c : Int32) : am_Mt l D cA ad fm (d + 0) m_M_isFigure [.int c] (wd C Y og) (fun v w' => v = some (.int (bz (isFig c))) ∧ w' = wd C Y og) := by
  refine am_mt ok_M_isFigure (by simp [am_arg, Value.category, m_M_isFigure, am_ml]) ?_
  refine am_eq_r (q' := (0, [some (.int c)], [], wd C Y og)) rfl ?_
  refine am_steps_r ok_M_isFigure 3 (q' := (bif decide (c < 48) then 16 else 6, [some (.int c)], [], wd C Y og)) rfl ?_
  refine am_br_r (fun h_1 => ?_) (fun h_1 => ?_)
  · skip
    refine am_steps_r ok_M_isFigure 1 (q' := (17, [some (.int c)], [.int 0], wd C Y og)) rfl ?_
    refine am_zret_r ok_M_isFigure rfl rfl rfl rfl ?_
    refine ⟨?_, rfl⟩
    simp_all [isFig, bz, ← Int32.not_lt]
  · skip
    refine am_steps_r ok_M_isFigure 3 (q' := (bif decide (57 < c) then 16 else 12, [some (.int c)], [], wd C Y og)) rfl ?_
    refine am_br_r (fun h_2 => ?_) (fun h_2 => ?_)
    · skip
      refine am_steps_r ok_M_isFigure 1 (q' := (17, [some (.int c)], [.int 0], wd C Y og)) rfl ?_
      refine am_zret_r ok_M_isFigure rfl rfl rfl rfl ?_
      refine ⟨?_, rfl⟩
      simp_all [isFig, bz, ← Int32.not_lt]
    · skip
      refine am_steps_r ok_M_isFigure 2 (q' := (17, [some (.int c)], [.int 1], wd C Y og)) rfl ?_
      refine am_zret_r ok_M_isFigure rfl rfl rfl rfl ?_
      refine ⟨?_, rfl⟩
      simp_all [isFig, bz, ← Int32.not_lt]
set_option maxHeartbeats 4000000 in
set_option maxRecDepth 100000 in
theorem c_M_isRegular (d : Nat) (C : wd_C) (Y : wd_Y) (og : Nat → Int64) (c : Int32) : am_Mt l D cA ad fm (d + 1) m_M_isRegular [.int c] (wd C Y og) (fun v w' => v = some (.int (bz (isReg c))) ∧ w' = wd C Y og) := by
  refine am_mt ok_M_isRegular (by simp [am_arg, Value.category, m_M_isRegular, am_ml]) ?_
  refine am_eq_r (q' := (0, [some (.int c)], [], wd C Y og)) rfl ?_
  refine am_steps_r ok_M_isRegular 3 (q' := (bif decide (c < 33) then 23 else 6, [some (.int c)], [], wd C Y og)) rfl ?_
  refine am_br_r (fun h_1 => ?_) (fun h_1 => ?_)
  · skip
    refine am_steps_r ok_M_isRegular 1 (q' := (24, [some (.int c)], [.int 0], wd C Y og)) rfl ?_
    refine am_zret_r ok_M_isRegular rfl rfl rfl rfl ?_
    refine ⟨?_, rfl⟩
    simp_all [isReg, bz, ← Int32.not_lt]
  · skip
    refine am_steps_r ok_M_isRegular 3 (q' := (bif decide (126 < c) then 23 else 12, [some (.int c)], [], wd C Y og)) rfl ?_
    refine am_br_r (fun h_2 => ?_) (fun h_2 => ?_)
    · skip
      refine am_steps_r ok_M_isRegular 1 (q' := (24, [some (.int c)], [.int 0], wd C Y og)) rfl ?_
      refine am_zret_r ok_M_isRegular rfl rfl rfl rfl ?_
      refine ⟨?_, rfl⟩
      simp_all [isReg, bz, ← Int32.not_lt]
    · skip
      refine am_steps_r ok_M_isRegular 1 (q' := (13, [some (.int c)], [.int c], wd C Y og)) rfl ?_
      refine am_callS_r (As := [.int c]) (rest := []) ok_M_isRegular rfl rfl ok_M_isSign os_M_isSign lk_6_69 rfl rfl (Nat.le_of_ble_eq_true rfl) (c_M_isSign _ C Y og c) ?_
      rintro v_ w_ ⟨rfl, rfl⟩ -
      refine am_eq_r (q' := (16, [some (.int c)], [.int (bz (isSg c))], wd C Y og)) rfl ?_
      refine am_steps_r ok_M_isRegular 1 (q' := (bif decide ((bz (isSg c)) = 0) then 19 else 23, [some (.int c)], [], wd C Y og)) rfl ?_
      refine am_bz_r (fun h_4 => ?_) (fun h_4 => ?_)
      · skip
        refine am_steps_r ok_M_isRegular 1 (q' := (24, [some (.int c)], [.int 0], wd C Y og)) rfl ?_
        refine am_zret_r ok_M_isRegular rfl rfl rfl rfl ?_
        refine ⟨?_, rfl⟩
        simp_all [isReg, bz, ← Int32.not_lt]
      · skip
        refine am_steps_r ok_M_isRegular 2 (q' := (24, [some (.int c)], [.int 1], wd C Y og)) rfl ?_
        refine am_zret_r ok_M_isRegular rfl rfl rfl rfl ?_
        refine ⟨?_, rfl⟩
        simp_all [isReg, bz, ← Int32.not_lt]
set_option maxHeartbeats 4000000 in
set_option maxRecDepth 100000 in
theorem c_M_hex (d : Nat) (C : wd_C) (Y : wd_Y) (og : Nat → Int64) (c : Int32) : am_Mt l D cA ad fm (d + 1) m_M_hex [.int c] (wd C Y og) (fun v w' => v = some (.int (hexV c)) ∧ w' = wd C Y og) := by
  refine am_mt ok_M_hex (by simp [am_arg, Value.category, m_M_hex, am_ml]) ?_
  refine am_eq_r (q' := (0, [some (.int c)], [], wd C Y og)) rfl ?_
  refine am_steps_r ok_M_hex 1 (q' := (1, [some (.int c)], [.int c], wd C Y og)) rfl ?_
  refine am_callS_r (As := [.int c]) (rest := []) ok_M_hex rfl rfl ok_M_isFigure os_M_isFigure lk_6_73 rfl rfl (Nat.le_of_ble_eq_true rfl) (c_M_isFigure _ C Y og c) ?_
  rintro v_ w_ ⟨rfl, rfl⟩ -
  refine am_eq_r (q' := (4, [some (.int c)], [.int (bz (isFig c))], wd C Y og)) rfl ?_
  refine am_steps_r ok_M_hex 1 (q' := (bif decide ((bz (isFig c)) = 0) then 12 else 7, [some (.int c)], [], wd C Y og)) rfl ?_
  refine am_bz_r (fun h_2 => ?_) (fun h_2 => ?_)
  · skip
    refine am_steps_r ok_M_hex 3 (q' := (11, [some (.int c)], [.int (c - 48)], wd C Y og)) rfl ?_
    refine am_iret_r ok_M_hex rfl rfl rfl ?_
    refine ⟨?_, rfl⟩
    simp_all [hexV, ← Int32.not_lt]
    try grind
  · skip
    refine am_steps_r ok_M_hex 3 (q' := (bif decide (c < 97) then 32 else 18, [some (.int c)], [], wd C Y og)) rfl ?_
    refine am_br_r (fun h_3 => ?_) (fun h_3 => ?_)
    · skip
      refine am_steps_r ok_M_hex 3 (q' := (bif decide (c < 65) then 54 else 38, [some (.int c)], [], wd C Y og)) rfl ?_
      refine am_br_r (fun h_4 => ?_) (fun h_4 => ?_)
      · skip
        refine am_steps_r ok_M_hex 1 (q' := (55, [some (.int c)], [.int (-1)], wd C Y og)) rfl ?_
        refine am_iret_r ok_M_hex rfl rfl rfl ?_
        refine ⟨?_, rfl⟩
        simp_all [hexV, ← Int32.not_lt]
        try grind
      · skip
        refine am_steps_r ok_M_hex 3 (q' := (bif decide (70 < c) then 54 else 44, [some (.int c)], [], wd C Y og)) rfl ?_
        refine am_br_r (fun h_5 => ?_) (fun h_5 => ?_)
        · skip
          refine am_steps_r ok_M_hex 1 (q' := (55, [some (.int c)], [.int (-1)], wd C Y og)) rfl ?_
          refine am_iret_r ok_M_hex rfl rfl rfl ?_
          refine ⟨?_, rfl⟩
          simp_all [hexV, ← Int32.not_lt]
          try grind
        · skip
          refine am_steps_r ok_M_hex 6 (q' := (55, [some (.int c)], [.int ((c - 65) + 10)], wd C Y og)) rfl ?_
          refine am_iret_r ok_M_hex rfl rfl rfl ?_
          refine ⟨?_, rfl⟩
          simp_all [hexV, ← Int32.not_lt]
          try grind
    · skip
      refine am_steps_r ok_M_hex 3 (q' := (bif decide (102 < c) then 32 else 24, [some (.int c)], [], wd C Y og)) rfl ?_
      refine am_br_r (fun h_6 => ?_) (fun h_6 => ?_)
      · skip
        refine am_steps_r ok_M_hex 3 (q' := (bif decide (c < 65) then 54 else 38, [some (.int c)], [], wd C Y og)) rfl ?_
        refine am_br_r (fun h_7 => ?_) (fun h_7 => ?_)
        · skip
          refine am_steps_r ok_M_hex 1 (q' := (55, [some (.int c)], [.int (-1)], wd C Y og)) rfl ?_
          refine am_iret_r ok_M_hex rfl rfl rfl ?_
          refine ⟨?_, rfl⟩
          simp_all [hexV, ← Int32.not_lt]
          try grind
        · skip
          refine am_steps_r ok_M_hex 3 (q' := (bif decide (70 < c) then 54 else 44, [some (.int c)], [], wd C Y og)) rfl ?_
          refine am_br_r (fun h_8 => ?_) (fun h_8 => ?_)
          · skip
            refine am_steps_r ok_M_hex 1 (q' := (55, [some (.int c)], [.int (-1)], wd C Y og)) rfl ?_
            refine am_iret_r ok_M_hex rfl rfl rfl ?_
            refine ⟨?_, rfl⟩
            simp_all [hexV, ← Int32.not_lt]
            try grind
          · skip
            refine am_steps_r ok_M_hex 6 (q' := (55, [some (.int c)], [.int ((c - 65) + 10)], wd C Y og)) rfl ?_
            refine am_iret_r ok_M_hex rfl rfl rfl ?_
            refine ⟨?_, rfl⟩
            simp_all [hexV, ← Int32.not_lt]
            try grind
      · skip
        refine am_steps_r ok_M_hex 5 (q' := (31, [some (.int c)], [.int ((c - 97) + 10)], wd C Y og)) rfl ?_
        refine am_iret_r ok_M_hex rfl rfl rfl ?_
        refine ⟨?_, rfl⟩
        simp_all [hexV, ← Int32.not_lt]
        try grind
set_option maxHeartbeats 4000000 in
set_option maxRecDepth 100000 in
theorem lp_M_behindWord_2 (d : Nat) (C : wd_C) (Y : wd_Y) (og : Nat → Int64) (n : Nat) (b : Nat → Int32) (hT : tpY Y n b) (k : Nat) : ∀ (fu : Nat) (post : Option Value → am_W → Prop) (j : Nat), (j ≤ n) →  post (some (.int (nI (wEnd n b j)))) (wd C Y og) → n - j < fu → am_Rn l D cA ad fm (d + 2) m_M_behindWord (wd C Y og).length post (2, [some (.ref 19), some (.int (nI k)), some (.int (nI j))], [], wd C Y og) := by
  intro fu
  induction fu with
  | zero => intro post j hj hp hfu; exact absurd hfu (Nat.not_lt_zero _)
  | succ fu ih =>
    intro post j hj hp hfu
    have hn := hT.2.1
    refine am_steps_r ok_M_behindWord 2 (q' := (4, [some (.ref 19), some (.int (nI k)), some (.int (nI j))], [.int (nI j), .ref 19], wd C Y og)) rfl ?_
    refine am_callV_r (As := [.int (nI j)]) (rest := []) ok_M_behindWord rfl rfl ok_M_byteAt oi_M_byteAt lk_6_78 (Or.inl ⟨_, _, _, rfl, rfl, rfl⟩) rfl rfl (Nat.le_of_ble_eq_true rfl) (c_M_byteAt _ C Y og n b hT j (by omega)) ?_
    rintro v_ w_ ⟨rfl, rfl⟩ -
    refine am_eq_r (q' := (7, [some (.ref 19), some (.int (nI k)), some (.int (nI j))], [.int (b j)], wd C Y og)) rfl ?_
    refine am_callS_r (As := [.int (b j)]) (rest := []) ok_M_behindWord rfl rfl ok_M_isRegular os_M_isRegular lk_6_85 rfl rfl (Nat.le_of_ble_eq_true rfl) (c_M_isRegular _ C Y og (b j)) ?_
    rintro v_ w_ ⟨rfl, rfl⟩ -
    refine am_eq_r (q' := (10, [some (.ref 19), some (.int (nI k)), some (.int (nI j))], [.int (bz (isReg (b j)))], wd C Y og)) rfl ?_
    refine am_steps_r ok_M_behindWord 1 (q' := (bif decide ((bz (isReg (b j))) = 0) then 19 else 13, [some (.ref 19), some (.int (nI k)), some (.int (nI j))], [], wd C Y og)) rfl ?_
    refine am_bz_r (fun h_3 => ?_) (fun h_3 => ?_)
    · skip
      refine am_steps_r ok_M_behindWord 2 (q' := (2, [some (.ref 19), some (.int (nI k)), some (.int ((nI j) + 1))], [], wd C Y og)) rfl ?_
      rw [show ((nI j) + 1 : Int32) = nI (j + 1) from nI_add j 1]
      refine ih post (j + 1) (by have := hT.2.2.2.1 j; rcases Nat.lt_or_ge j n with h | h; exact h; rw [this h, isReg_m1] at h_3; cases h_3) ?_ (by have := hT.2.2.2.1 j; rcases Nat.lt_or_ge j n with h | h; omega; rw [this h, isReg_m1] at h_3; cases h_3)
      rw [wEnd_reg (by have := hT.2.2.2.1 j; rcases Nat.lt_or_ge j n with h | h; exact h; rw [this h, isReg_m1] at h_3; cases h_3) (by assumption)] at hp
      exact hp
    · skip
      refine am_steps_r ok_M_behindWord 1 (q' := (20, [some (.ref 19), some (.int (nI k)), some (.int (nI j))], [.int (nI j)], wd C Y og)) rfl ?_
      refine am_iret_r ok_M_behindWord rfl rfl rfl ?_
      rw [wEnd_not (by assumption)] at hp
      exact hp
set_option maxHeartbeats 4000000 in
set_option maxRecDepth 100000 in
theorem c_M_behindWord (d : Nat) (C : wd_C) (Y : wd_Y) (og : Nat → Int64) (n : Nat) (b : Nat → Int32) (hT : tpY Y n b) (k : Nat) (hk : k ≤ n) : am_Mt l D cA ad fm (d + 2) m_M_behindWord [.ref 19, .int (nI k)] (wd C Y og) (fun v w' => v = some (.int (nI (wEnd n b k))) ∧ w' = wd C Y og) := by
  refine am_mt ok_M_behindWord (by simp [am_arg, Value.category, m_M_behindWord, am_ml]) ?_
  refine am_eq_r (q' := (0, [some (.ref 19), some (.int (nI k)), none], [], wd C Y og)) rfl ?_
  refine am_steps_r ok_M_behindWord 2 (q' := (2, [some (.ref 19), some (.int (nI k)), some (.int (nI k))], [], wd C Y og)) rfl ?_
  exact lp_M_behindWord_2 d C Y og n b hT k (n + 1) _ k hk ⟨rfl, rfl⟩ (by omega)
set_option maxHeartbeats 4000000 in
set_option maxRecDepth 100000 in
theorem lp_M_behindWhite_33 (d : Nat) (C : wd_C) (Y : wd_Y) (og : Nat → Int64) (n : Nat) (b : Nat → Int32) (hT : tpY Y n b) (k : Nat) : ∀ (fu : Nat) (post : Option Value → am_W → Prop) (j : Nat), j ≤ n → (∀ j2, j ≤ j2 → j2 ≤ n → (j2 = n ∨ isLE (b j2) = true) → bwh b (n - j) j true = bwh b (n - j2) j2 false → am_Rn l D cA ad fm (d + 1) m_M_behindWhite (wd C Y og).length post (2, [some (.ref 19), some (.int (nI k)), some (.int (nI j2))], [], wd C Y og)) → n - j < fu → am_Rn l D cA ad fm (d + 1) m_M_behindWhite (wd C Y og).length post (33, [some (.ref 19), some (.int (nI k)), some (.int (nI j))], [], wd C Y og) := by
  have hn := hT.2.1
  intro fu
  induction fu with
  | zero => intro post j hj hK hfu; exact absurd hfu (Nat.not_lt_zero _)
  | succ fu ih =>
    intro post j hj hK hfu
    refine am_steps_r ok_M_behindWhite 4 (q' := (bif decide ((Y.1 1) ≤ (nI j)) then 2 else 41, [some (.ref 19), some (.int (nI k)), some (.int (nI j))], [], wd C Y og)) rfl ?_
    rw [show (Y.1 1 : Int32) = nI n from hT.1]
    refine am_br_r (fun h_1 => ?_) (fun h_1 => ?_)
    · skip
      have h_1 : n ≤ j := (nI_leI (show n < 2 ^ 31 by omega) (show j < 2 ^ 31 by omega)).mp h_1
      rcases Nat.lt_or_ge j n with hjn | hjn
      · have hle : isLE (b j) = true := by first | (exfalso; omega) | (rw [← hT.2.2.1 j hjn]; simp [isLE, *])
        exact hK j (Nat.le_refl _) hj (Or.inr hle) (bwh_end hle)
      · exact hK j (Nat.le_refl _) hj (Or.inl (by omega)) (by rw [show n - j = 0 by omega]; rfl)
    · skip
      have h_1 : ¬ n ≤ j := fun z => h_1 ((nI_leI (show n < 2 ^ 31 by omega) (show j < 2 ^ 31 by omega)).mpr z)
      refine am_steps_r ok_M_behindWhite 3 (q' := (46, [some (.ref 19), some (.int (nI k)), some (.int (nI j))], [.int (nI j), .ref 20], wd C Y og)) rfl ?_
      refine am_iald_r ok_M_behindWhite rfl (w := wd C Y og) (f := Y.2.1 0) rfl rfl (pk_in j 1600 (by omega)) ?_
      rw [nI_clamp (show j < 2 ^ 31 by omega)]
      refine am_steps_r ok_M_behindWhite 2 (q' := (bif decide ((Y.2.1 0 j) = 10) then 2 else 52, [some (.ref 19), some (.int (nI k)), some (.int (nI j))], [], wd C Y og)) rfl ?_
      refine am_br_r (fun h_2 => ?_) (fun h_2 => ?_)
      · skip
        rcases Nat.lt_or_ge j n with hjn | hjn
        · have hle : isLE (b j) = true := by first | (exfalso; omega) | (rw [← hT.2.2.1 j hjn]; simp [isLE, *])
          exact hK j (Nat.le_refl _) hj (Or.inr hle) (bwh_end hle)
        · exact hK j (Nat.le_refl _) hj (Or.inl (by omega)) (by rw [show n - j = 0 by omega]; rfl)
      · skip
        refine am_steps_r ok_M_behindWhite 3 (q' := (57, [some (.ref 19), some (.int (nI k)), some (.int (nI j))], [.int (nI j), .ref 20], wd C Y og)) rfl ?_
        refine am_iald_r ok_M_behindWhite rfl (w := wd C Y og) (f := Y.2.1 0) rfl rfl (pk_in j 1600 (by omega)) ?_
        rw [nI_clamp (show j < 2 ^ 31 by omega)]
        refine am_steps_r ok_M_behindWhite 2 (q' := (bif decide ((Y.2.1 0 j) = 13) then 2 else 63, [some (.ref 19), some (.int (nI k)), some (.int (nI j))], [], wd C Y og)) rfl ?_
        refine am_br_r (fun h_3 => ?_) (fun h_3 => ?_)
        · skip
          rcases Nat.lt_or_ge j n with hjn | hjn
          · have hle : isLE (b j) = true := by first | (exfalso; omega) | (rw [← hT.2.2.1 j hjn]; simp [isLE, *])
            exact hK j (Nat.le_refl _) hj (Or.inr hle) (bwh_end hle)
          · exact hK j (Nat.le_refl _) hj (Or.inl (by omega)) (by rw [show n - j = 0 by omega]; rfl)
        · skip
          refine am_steps_r ok_M_behindWhite 2 (q' := (33, [some (.ref 19), some (.int (nI k)), some (.int ((nI j) + 1))], [], wd C Y og)) rfl ?_
          rw [show ((nI j) + 1 : Int32) = nI (j + 1) from nI_add j 1]
          refine ih post (j + 1) (by omega) (fun j2 h1 h2 h3 h4 => hK j2 (by omega) h2 h3 ?_) (by omega)
          rw [show n - j = (n - (j + 1)) + 1 by omega, bwh_in (by rw [← hT.2.2.1 j (by omega)]; simp [isLE, *])]
          exact h4
set_option maxHeartbeats 4000000 in
set_option maxRecDepth 100000 in
theorem lp_M_behindWhite_2 (d : Nat) (C : wd_C) (Y : wd_Y) (og : Nat → Int64) (n : Nat) (b : Nat → Int32) (hT : tpY Y n b) (k : Nat) : ∀ (fu : Nat) (post : Option Value → am_W → Prop) (j : Nat), (j ≤ n) →  post (some (.int (nI (bwh b (n - j) j false)))) (wd C Y og) → n - j < fu → am_Rn l D cA ad fm (d + 1) m_M_behindWhite (wd C Y og).length post (2, [some (.ref 19), some (.int (nI k)), some (.int (nI j))], [], wd C Y og) := by
  intro fu
  induction fu with
  | zero => intro post j hj hp hfu; exact absurd hfu (Nat.not_lt_zero _)
  | succ fu ih =>
    intro post j hj hp hfu
    have hn := hT.2.1
    refine am_steps_r ok_M_behindWhite 2 (q' := (4, [some (.ref 19), some (.int (nI k)), some (.int (nI j))], [.int (nI j), .ref 19], wd C Y og)) rfl ?_
    refine am_callV_r (As := [.int (nI j)]) (rest := []) ok_M_behindWhite rfl rfl ok_M_byteAt oi_M_byteAt lk_6_78 (Or.inl ⟨_, _, _, rfl, rfl, rfl⟩) rfl rfl (Nat.le_of_ble_eq_true rfl) (c_M_byteAt _ C Y og n b hT j (by omega)) ?_
    rintro v_ w_ ⟨rfl, rfl⟩ -
    refine am_eq_r (q' := (7, [some (.ref 19), some (.int (nI k)), some (.int (nI j))], [.int (b j)], wd C Y og)) rfl ?_
    refine am_callS_r (As := [.int (b j)]) (rest := []) ok_M_behindWhite rfl rfl ok_M_isBlank os_M_isBlank lk_6_82 rfl rfl (Nat.le_of_ble_eq_true rfl) (c_M_isBlank _ C Y og (b j)) ?_
    rintro v_ w_ ⟨rfl, rfl⟩ -
    refine am_eq_r (q' := (10, [some (.ref 19), some (.int (nI k)), some (.int (nI j))], [.int (bz (isWh (b j)))], wd C Y og)) rfl ?_
    refine am_steps_r ok_M_behindWhite 1 (q' := (bif decide ((bz (isWh (b j))) = 0) then 13 else 23, [some (.ref 19), some (.int (nI k)), some (.int (nI j))], [], wd C Y og)) rfl ?_
    refine am_bz_r (fun h_3 => ?_) (fun h_3 => ?_)
    · skip
      refine am_steps_r ok_M_behindWhite 2 (q' := (25, [some (.ref 19), some (.int (nI k)), some (.int (nI j))], [.int (nI j), .ref 19], wd C Y og)) rfl ?_
      refine am_callV_r (As := [.int (nI j)]) (rest := []) ok_M_behindWhite rfl rfl ok_M_byteAt oi_M_byteAt lk_6_78 (Or.inl ⟨_, _, _, rfl, rfl, rfl⟩) rfl rfl (Nat.le_of_ble_eq_true rfl) (c_M_byteAt _ C Y og n b hT j (by omega)) ?_
      rintro v_ w_ ⟨rfl, rfl⟩ -
      refine am_eq_r (q' := (28, [some (.ref 19), some (.int (nI k)), some (.int (nI j))], [.int (b j)], wd C Y og)) rfl ?_
      refine am_steps_r ok_M_behindWhite 2 (q' := (bif decide ((b j) = 37) then 33 else 69, [some (.ref 19), some (.int (nI k)), some (.int (nI j))], [], wd C Y og)) rfl ?_
      refine am_br_r (fun h_5 => ?_) (fun h_5 => ?_)
      · skip
        have h37 : b j = 37 := by assumption
        have hlt : j < n := by rcases Nat.lt_or_ge j n with h | h; exact h; exfalso; rw [hT.2.2.2.1 j h] at h37; exact absurd h37 (by decide)
        refine lp_M_behindWhite_33 d C Y og n b hT k (n - j + 1) post j hj (fun j2 h1 h2 h3 h4 => ?_) (by omega)
        have hne : j2 ≠ j := fun e => by subst e; rcases h3 with h3 | h3; omega; rw [h37, isLE_37] at h3; cases h3
        refine ih post j2 h2 ?_ (by omega)
        rw [← h4, show n - j = (n - (j + 1)) + 1 by omega, bwh_37 h37]
        rw [show n - j = (n - (j + 1)) + 1 by omega, bwh_37 h37] at hp
        exact hp
      · skip
        refine am_steps_r ok_M_behindWhite 2 (q' := (2, [some (.ref 19), some (.int (nI k)), some (.int ((nI j) + 1))], [], wd C Y og)) rfl ?_
        rw [show ((nI j) + 1 : Int32) = nI (j + 1) from nI_add j 1]
        by_cases hw : isWh (b j) = true
        · have hlt : j < n := by rcases Nat.lt_or_ge j n with h | h; exact h; exfalso; rw [hT.2.2.2.1 j h, isWh_m1] at hw; cases hw
          refine ih post (j + 1) (by omega) ?_ (by omega)
          rw [show n - j = (n - (j + 1)) + 1 by omega, bwh_wh hw] at hp
          exact hp
        · exfalso; simp_all
    · skip
      refine am_steps_r ok_M_behindWhite 2 (q' := (15, [some (.ref 19), some (.int (nI k)), some (.int (nI j))], [.int (nI j), .ref 19], wd C Y og)) rfl ?_
      refine am_callV_r (As := [.int (nI j)]) (rest := []) ok_M_behindWhite rfl rfl ok_M_byteAt oi_M_byteAt lk_6_78 (Or.inl ⟨_, _, _, rfl, rfl, rfl⟩) rfl rfl (Nat.le_of_ble_eq_true rfl) (c_M_byteAt _ C Y og n b hT j (by omega)) ?_
      rintro v_ w_ ⟨rfl, rfl⟩ -
      refine am_eq_r (q' := (18, [some (.ref 19), some (.int (nI k)), some (.int (nI j))], [.int (b j)], wd C Y og)) rfl ?_
      refine am_steps_r ok_M_behindWhite 2 (q' := (bif decide ((b j) = 37) then 23 else 75, [some (.ref 19), some (.int (nI k)), some (.int (nI j))], [], wd C Y og)) rfl ?_
      refine am_br_r (fun h_7 => ?_) (fun h_7 => ?_)
      · skip
        refine am_steps_r ok_M_behindWhite 2 (q' := (25, [some (.ref 19), some (.int (nI k)), some (.int (nI j))], [.int (nI j), .ref 19], wd C Y og)) rfl ?_
        refine am_callV_r (As := [.int (nI j)]) (rest := []) ok_M_behindWhite rfl rfl ok_M_byteAt oi_M_byteAt lk_6_78 (Or.inl ⟨_, _, _, rfl, rfl, rfl⟩) rfl rfl (Nat.le_of_ble_eq_true rfl) (c_M_byteAt _ C Y og n b hT j (by omega)) ?_
        rintro v_ w_ ⟨rfl, rfl⟩ -
        refine am_eq_r (q' := (28, [some (.ref 19), some (.int (nI k)), some (.int (nI j))], [.int (b j)], wd C Y og)) rfl ?_
        refine am_steps_r ok_M_behindWhite 2 (q' := (bif decide ((b j) = 37) then 33 else 69, [some (.ref 19), some (.int (nI k)), some (.int (nI j))], [], wd C Y og)) rfl ?_
        refine am_br_r (fun h_9 => ?_) (fun h_9 => ?_)
        · skip
          have h37 : b j = 37 := by assumption
          have hlt : j < n := by rcases Nat.lt_or_ge j n with h | h; exact h; exfalso; rw [hT.2.2.2.1 j h] at h37; exact absurd h37 (by decide)
          refine lp_M_behindWhite_33 d C Y og n b hT k (n - j + 1) post j hj (fun j2 h1 h2 h3 h4 => ?_) (by omega)
          have hne : j2 ≠ j := fun e => by subst e; rcases h3 with h3 | h3; omega; rw [h37, isLE_37] at h3; cases h3
          refine ih post j2 h2 ?_ (by omega)
          rw [← h4, show n - j = (n - (j + 1)) + 1 by omega, bwh_37 h37]
          rw [show n - j = (n - (j + 1)) + 1 by omega, bwh_37 h37] at hp
          exact hp
        · skip
          refine am_steps_r ok_M_behindWhite 2 (q' := (2, [some (.ref 19), some (.int (nI k)), some (.int ((nI j) + 1))], [], wd C Y og)) rfl ?_
          rw [show ((nI j) + 1 : Int32) = nI (j + 1) from nI_add j 1]
          by_cases hw : isWh (b j) = true
          · have hlt : j < n := by rcases Nat.lt_or_ge j n with h | h; exact h; exfalso; rw [hT.2.2.2.1 j h, isWh_m1] at hw; cases hw
            refine ih post (j + 1) (by omega) ?_ (by omega)
            rw [show n - j = (n - (j + 1)) + 1 by omega, bwh_wh hw] at hp
            exact hp
          · exfalso; simp_all
      · skip
        refine am_steps_r ok_M_behindWhite 1 (q' := (76, [some (.ref 19), some (.int (nI k)), some (.int (nI j))], [.int (nI j)], wd C Y og)) rfl ?_
        refine am_iret_r ok_M_behindWhite rfl rfl rfl ?_
        rw [bwh_no (by assumption) (by assumption)] at hp
        exact hp
set_option maxHeartbeats 4000000 in
set_option maxRecDepth 100000 in
theorem c_M_behindWhite (d : Nat) (C : wd_C) (Y : wd_Y) (og : Nat → Int64) (n : Nat) (b : Nat → Int32) (hT : tpY Y n b) (k : Nat) (hk : k ≤ n) : am_Mt l D cA ad fm (d + 1) m_M_behindWhite [.ref 19, .int (nI k)] (wd C Y og) (fun v w' => v = some (.int (nI (skW n b k))) ∧ w' = wd C Y og) := by
  refine am_mt ok_M_behindWhite (by simp [am_arg, Value.category, m_M_behindWhite, am_ml]) ?_
  refine am_eq_r (q' := (0, [some (.ref 19), some (.int (nI k)), none], [], wd C Y og)) rfl ?_
  refine am_steps_r ok_M_behindWhite 2 (q' := (2, [some (.ref 19), some (.int (nI k)), some (.int (nI k))], [], wd C Y og)) rfl ?_
  exact lp_M_behindWhite_2 d C Y og n b hT k (n + 1) _ k hk ⟨rfl, rfl⟩ (by omega)
set_option maxHeartbeats 4000000 in
set_option maxRecDepth 100000 in
theorem c_M_behindLineEnd (d : Nat) (C : wd_C) (Y : wd_Y) (og : Nat → Int64) (n : Nat) (b : Nat → Int32) (hT : tpY Y n b) (k : Nat) (hk : k < 1073741820) : am_Mt l D cA ad fm (d + 1) m_M_behindLineEnd [.ref 19, .int (nI k)] (wd C Y og) (fun v w' => v = some (.int (nI (leE b k))) ∧ w' = wd C Y og) := by
  refine am_mt ok_M_behindLineEnd (by simp [am_arg, Value.category, m_M_behindLineEnd, am_ml]) ?_
  refine am_eq_r (q' := (0, [some (.ref 19), some (.int (nI k))], [], wd C Y og)) rfl ?_
  refine am_steps_r ok_M_behindLineEnd 2 (q' := (2, [some (.ref 19), some (.int (nI k))], [.int (nI k), .ref 19], wd C Y og)) rfl ?_
  refine am_callV_r (As := [.int (nI k)]) (rest := []) ok_M_behindLineEnd rfl rfl ok_M_byteAt oi_M_byteAt lk_6_78 (Or.inl ⟨_, _, _, rfl, rfl, rfl⟩) rfl rfl (Nat.le_of_ble_eq_true rfl) (c_M_byteAt _ C Y og n b hT k (by omega)) ?_
  rintro v_ w_ ⟨rfl, rfl⟩ -
  refine am_eq_r (q' := (5, [some (.ref 19), some (.int (nI k))], [.int (b k)], wd C Y og)) rfl ?_
  refine am_steps_r ok_M_behindLineEnd 2 (q' := (bif decide ((b k) = 13) then 10 else 26, [some (.ref 19), some (.int (nI k))], [], wd C Y og)) rfl ?_
  refine am_br_r (fun h_2 => ?_) (fun h_2 => ?_)
  · skip
    refine am_steps_r ok_M_behindLineEnd 4 (q' := (14, [some (.ref 19), some (.int (nI k))], [.int ((nI k) + 1), .ref 19], wd C Y og)) rfl ?_
    rw [show ((nI k) + 1 : Int32) = nI (k + 1) from nI_add k 1]
    refine am_callV_r (As := [.int (nI (k + 1))]) (rest := []) ok_M_behindLineEnd rfl rfl ok_M_byteAt oi_M_byteAt lk_6_78 (Or.inl ⟨_, _, _, rfl, rfl, rfl⟩) rfl rfl (Nat.le_of_ble_eq_true rfl) (c_M_byteAt _ C Y og n b hT (k + 1) (by omega)) ?_
    rintro v_ w_ ⟨rfl, rfl⟩ -
    refine am_eq_r (q' := (17, [some (.ref 19), some (.int (nI k))], [.int (b (k + 1))], wd C Y og)) rfl ?_
    refine am_steps_r ok_M_behindLineEnd 2 (q' := (bif decide ((b (k + 1)) = 10) then 22 else 26, [some (.ref 19), some (.int (nI k))], [], wd C Y og)) rfl ?_
    refine am_br_r (fun h_4 => ?_) (fun h_4 => ?_)
    · skip
      refine am_steps_r ok_M_behindLineEnd 3 (q' := (25, [some (.ref 19), some (.int (nI k))], [.int ((nI k) + 2)], wd C Y og)) rfl ?_
      rw [show ((nI k) + 2 : Int32) = nI (k + 2) from nI_add k 2]
      refine am_iret_r ok_M_behindLineEnd rfl rfl rfl ?_
      refine ⟨?_, rfl⟩
      simp_all [leE, isLE]
    · skip
      refine am_steps_r ok_M_behindLineEnd 2 (q' := (28, [some (.ref 19), some (.int (nI k))], [.int (nI k), .ref 19], wd C Y og)) rfl ?_
      refine am_callV_r (As := [.int (nI k)]) (rest := []) ok_M_behindLineEnd rfl rfl ok_M_byteAt oi_M_byteAt lk_6_78 (Or.inl ⟨_, _, _, rfl, rfl, rfl⟩) rfl rfl (Nat.le_of_ble_eq_true rfl) (c_M_byteAt _ C Y og n b hT k (by omega)) ?_
      rintro v_ w_ ⟨rfl, rfl⟩ -
      refine am_eq_r (q' := (31, [some (.ref 19), some (.int (nI k))], [.int (b k)], wd C Y og)) rfl ?_
      refine am_steps_r ok_M_behindLineEnd 2 (q' := (bif decide ((b k) = 13) then 46 else 36, [some (.ref 19), some (.int (nI k))], [], wd C Y og)) rfl ?_
      refine am_br_r (fun h_6 => ?_) (fun h_6 => ?_)
      · skip
        refine am_steps_r ok_M_behindLineEnd 4 (q' := (53, [some (.ref 19), some (.int (nI k))], [.int ((nI k) + 1)], wd C Y og)) rfl ?_
        rw [show ((nI k) + 1 : Int32) = nI (k + 1) from nI_add k 1]
        refine am_iret_r ok_M_behindLineEnd rfl rfl rfl ?_
        refine ⟨?_, rfl⟩
        simp_all [leE, isLE]
      · skip
        refine am_steps_r ok_M_behindLineEnd 2 (q' := (38, [some (.ref 19), some (.int (nI k))], [.int (nI k), .ref 19], wd C Y og)) rfl ?_
        refine am_callV_r (As := [.int (nI k)]) (rest := []) ok_M_behindLineEnd rfl rfl ok_M_byteAt oi_M_byteAt lk_6_78 (Or.inl ⟨_, _, _, rfl, rfl, rfl⟩) rfl rfl (Nat.le_of_ble_eq_true rfl) (c_M_byteAt _ C Y og n b hT k (by omega)) ?_
        rintro v_ w_ ⟨rfl, rfl⟩ -
        refine am_eq_r (q' := (41, [some (.ref 19), some (.int (nI k))], [.int (b k)], wd C Y og)) rfl ?_
        refine am_steps_r ok_M_behindLineEnd 2 (q' := (bif decide ((b k) = 10) then 46 else 52, [some (.ref 19), some (.int (nI k))], [], wd C Y og)) rfl ?_
        refine am_br_r (fun h_8 => ?_) (fun h_8 => ?_)
        · skip
          refine am_steps_r ok_M_behindLineEnd 4 (q' := (53, [some (.ref 19), some (.int (nI k))], [.int ((nI k) + 1)], wd C Y og)) rfl ?_
          rw [show ((nI k) + 1 : Int32) = nI (k + 1) from nI_add k 1]
          refine am_iret_r ok_M_behindLineEnd rfl rfl rfl ?_
          refine ⟨?_, rfl⟩
          simp_all [leE, isLE]
        · skip
          refine am_steps_r ok_M_behindLineEnd 1 (q' := (53, [some (.ref 19), some (.int (nI k))], [.int (nI k)], wd C Y og)) rfl ?_
          refine am_iret_r ok_M_behindLineEnd rfl rfl rfl ?_
          refine ⟨?_, rfl⟩
          simp_all [leE, isLE]
  · skip
    refine am_steps_r ok_M_behindLineEnd 2 (q' := (28, [some (.ref 19), some (.int (nI k))], [.int (nI k), .ref 19], wd C Y og)) rfl ?_
    refine am_callV_r (As := [.int (nI k)]) (rest := []) ok_M_behindLineEnd rfl rfl ok_M_byteAt oi_M_byteAt lk_6_78 (Or.inl ⟨_, _, _, rfl, rfl, rfl⟩) rfl rfl (Nat.le_of_ble_eq_true rfl) (c_M_byteAt _ C Y og n b hT k (by omega)) ?_
    rintro v_ w_ ⟨rfl, rfl⟩ -
    refine am_eq_r (q' := (31, [some (.ref 19), some (.int (nI k))], [.int (b k)], wd C Y og)) rfl ?_
    refine am_steps_r ok_M_behindLineEnd 2 (q' := (bif decide ((b k) = 13) then 46 else 36, [some (.ref 19), some (.int (nI k))], [], wd C Y og)) rfl ?_
    refine am_br_r (fun h_10 => ?_) (fun h_10 => ?_)
    · skip
      refine am_steps_r ok_M_behindLineEnd 4 (q' := (53, [some (.ref 19), some (.int (nI k))], [.int ((nI k) + 1)], wd C Y og)) rfl ?_
      rw [show ((nI k) + 1 : Int32) = nI (k + 1) from nI_add k 1]
      refine am_iret_r ok_M_behindLineEnd rfl rfl rfl ?_
      refine ⟨?_, rfl⟩
      simp_all [leE, isLE]
    · skip
      refine am_steps_r ok_M_behindLineEnd 2 (q' := (38, [some (.ref 19), some (.int (nI k))], [.int (nI k), .ref 19], wd C Y og)) rfl ?_
      refine am_callV_r (As := [.int (nI k)]) (rest := []) ok_M_behindLineEnd rfl rfl ok_M_byteAt oi_M_byteAt lk_6_78 (Or.inl ⟨_, _, _, rfl, rfl, rfl⟩) rfl rfl (Nat.le_of_ble_eq_true rfl) (c_M_byteAt _ C Y og n b hT k (by omega)) ?_
      rintro v_ w_ ⟨rfl, rfl⟩ -
      refine am_eq_r (q' := (41, [some (.ref 19), some (.int (nI k))], [.int (b k)], wd C Y og)) rfl ?_
      refine am_steps_r ok_M_behindLineEnd 2 (q' := (bif decide ((b k) = 10) then 46 else 52, [some (.ref 19), some (.int (nI k))], [], wd C Y og)) rfl ?_
      refine am_br_r (fun h_12 => ?_) (fun h_12 => ?_)
      · skip
        refine am_steps_r ok_M_behindLineEnd 4 (q' := (53, [some (.ref 19), some (.int (nI k))], [.int ((nI k) + 1)], wd C Y og)) rfl ?_
        rw [show ((nI k) + 1 : Int32) = nI (k + 1) from nI_add k 1]
        refine am_iret_r ok_M_behindLineEnd rfl rfl rfl ?_
        refine ⟨?_, rfl⟩
        simp_all [leE, isLE]
      · skip
        refine am_steps_r ok_M_behindLineEnd 1 (q' := (53, [some (.ref 19), some (.int (nI k))], [.int (nI k)], wd C Y og)) rfl ?_
        refine am_iret_r ok_M_behindLineEnd rfl rfl rfl ?_
        refine ⟨?_, rfl⟩
        simp_all [leE, isLE]
end C20
