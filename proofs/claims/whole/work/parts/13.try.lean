section TR
variable {l : Launch} {D : va_G} {cA : Nat → ClassId} {ad : Nat → Nat} {fm : Value}
set_option maxHeartbeats 4000000 in
set_option maxRecDepth 100000 in
theorem c_S_isFigure (d : Nat) (C : wd_C) (Y : wd_Y) (og : Nat → Int64) (b : Int32) : am_Mt l D cA ad fm d m_S_isFigure [.int b] (wd C Y og) (fun v w' => v = some (.int (if 48 ≤ b ∧ b ≤ 57 then 1 else 0)) ∧ w' = wd C Y og) := by
  refine am_mt ok_S_isFigure (by decide) ?_
  refine am_steps_r ok_S_isFigure 3 (q' := (bif decide (b < 48) then 15 else 6, [some (.int b)], [], wd C Y og)) rfl ?_
  refine am_br_r (fun h1 => ?_) (fun h1 => ?_)
  · refine am_steps_r ok_S_isFigure 1 (q' := (16, [some (.int b)], [.int 0], wd C Y og)) rfl ?_
    refine am_zret_r ok_S_isFigure rfl rfl rfl rfl ⟨?_, rfl⟩
    rw [if_neg (fun z => absurd z.1 (Int32.not_le.mpr h1))]
  · refine am_steps_r ok_S_isFigure 3 (q' := (bif decide (57 < b) then 15 else 12, [some (.int b)], [], wd C Y og)) rfl ?_
    refine am_br_r (fun h2 => ?_) (fun h2 => ?_)
    · refine am_steps_r ok_S_isFigure 1 (q' := (16, [some (.int b)], [.int 0], wd C Y og)) rfl ?_
      refine am_zret_r ok_S_isFigure rfl rfl rfl rfl ⟨?_, rfl⟩
      rw [if_neg (fun z => absurd z.2 (Int32.not_le.mpr h2))]
    · refine am_steps_r ok_S_isFigure 2 (q' := (16, [some (.int b)], [.int 1], wd C Y og)) rfl ?_
      refine am_zret_r ok_S_isFigure rfl rfl rfl rfl ⟨?_, rfl⟩
      rw [if_pos ⟨Int32.not_lt.mp h1, Int32.not_lt.mp h2⟩]
set_option maxHeartbeats 4000000 in
set_option maxRecDepth 100000 in
theorem c_T_at (d : Nat) (C : wd_C) (Y : wd_Y) (og : Nat → Int64) (i : Int32) (hs : C.1 0 ≤ 1600) : am_Mt l D cA ad fm d m_T_at [.ref 1, .int i] (wd C Y og) (fun v w' => v = some (.int (if i < 0 ∨ C.1 0 ≤ i then -1 else C.2.1 0 i.toNatClampNeg &&& 255)) ∧ w' = wd C Y og) := by
  refine am_mt ok_T_at (by decide) ?_
  refine am_steps_r ok_T_at 2 (q' := (bif decide (i < 0) then 12 else 4, [some (.ref 1), some (.int i)], [], wd C Y og)) rfl ?_
  refine am_br_r (fun h1 => ?_) (fun h1 => ?_)
  · refine am_steps_r ok_T_at 2 (q' := (27, [some (.ref 1), some (.int i)], [.int (-1)], wd C Y og)) rfl ?_
    refine am_iret_r ok_T_at rfl rfl rfl ⟨?_, rfl⟩
    rw [if_pos (Or.inl h1)]
  · refine am_steps_r ok_T_at 4 (q' := (bif decide (i < C.1 0) then 16 else 12, [some (.ref 1), some (.int i)], [], wd C Y og)) rfl ?_
    refine am_br_r (fun h2 => ?_) (fun h2 => ?_)
    · refine am_steps_r ok_T_at 3 (q' := (21, [some (.ref 1), some (.int i)], [.int i, .ref 2], wd C Y og)) rfl ?_
      refine am_bald_r ok_T_at rfl (w := wd C Y og) rfl rfl ?_ ?_
      · sorry
      · refine am_steps_r ok_T_at 2 (q' := (26, [some (.ref 1), some (.int i)], [.int (C.2.1 0 i.toNatClampNeg &&& 255)], wd C Y og)) rfl ?_
        sorry
    · sorry
end TR
