/-! the reference reads a stream; printed by wip/gen/g86.py -/
theorem cmp_lt0 {x y : Int64} : lg_cmp x y < 0 ↔ x < y := by
  unfold lg_cmp
  by_cases h1 : y < x
  · rw [if_pos h1]
    exact ⟨fun z => absurd z (by decide), fun z => absurd (Int64.lt_trans h1 z) Int64.lt_irrefl⟩
  · rw [if_neg h1]
    by_cases h2 : x = y
    · rw [if_pos h2]
      exact ⟨fun z => absurd z (by decide), fun z => absurd (h2 ▸ z) Int64.lt_irrefl⟩
    · rw [if_neg h2]
      refine ⟨fun _ => ?_, fun _ => by decide⟩
      rcases Int64.lt_or_eq_of_le (Int64.not_lt.mp h1) with z | z
      · exact z
      · exact absurd z h2
theorem cmp_gt0 {x y : Int64} : 0 < lg_cmp x y ↔ y < x := by
  unfold lg_cmp
  by_cases h1 : y < x
  · rw [if_pos h1]
    exact ⟨fun _ => h1, fun _ => by decide⟩
  · rw [if_neg h1]
    refine ⟨fun z => ?_, fun z => absurd z h1⟩
    split at z
    · exact absurd z (by decide)
    · exact absurd z (by decide)
theorem stR_bad {n : Nat} {b : Nat → Int32} {w : Nat} {tm : Option Nat} (h : ¬ b (slP b w) = 10) : stR n b w tm = .inl (if slP b w < n then 2 else 1, slP b w, 0) := if_neg h
theorem stR_told {n : Nat} {b : Nat → Int32} {w m : Nat} {tm : Option Nat} (h : b (slP b w) = 10) (ht : tm = some m) (hw : wdA b st_9 (leE b (slP b w + 1 + m)) = true) : stR n b w tm = stE b w (slP b w + 1) m (leE b (slP b w + 1 + m) + 9) 0 := by
  unfold stR
  rw [if_pos h, ht]
  simp only [hw, if_true]
theorem stR_srch {n : Nat} {b : Nat → Int32} {w : Nat} {tm : Option Nat} (h : b (slP b w) = 10) (ht : tm = none ∨ ∃ m, tm = some m ∧ wdA b st_9 (leE b (slP b w + 1 + m)) = false) : stR n b w tm = (match txF b st_9 (n - (slP b w + 1)) (slP b w + 1) with | none => .inl (8, w, 0) | some e => stE b w (slP b w + 1) (blE b (slP b w + 1) e - (slP b w + 1)) (e + 9) 4) := by
  unfold stR
  rw [if_pos h]
  rcases ht with e | ⟨m, e, hw⟩
  · rw [e]
    cases txF b st_9 (n - (slP b w + 1)) (slP b w + 1) <;> rfl
  · rw [e]
    simp only [hw, Bool.false_eq_true, if_false]
    cases txF b st_9 (n - (slP b w + 1)) (slP b w + 1) <;> rfl
theorem wdA_leE {b : Nat → Int32} {k : Nat} (h : wdA b st_9 k = true) : leE b k = k := by
  have h1 := wdA_hd (x := 101) (r := [110, 100, 115, 116, 114, 101, 97, 109]) h
  unfold leE
  rw [h1, if_neg (fun z => absurd z.1 (by decide)), if_neg (by decide)]
theorem smE_begin {Y : wd_Y} {n : Nat} {b : Nat → Int32} {w nv u : Nat} {V : VT} {no : Int32} (hI : ryI Y n b w nv u V no) (hok : vok nv V) (h3 : nv < 300) (x : Int32) : smE Y (upd (yNew Y nv u 9).1 6 x, (yNew Y nv u 9).2) nv u V no := by
  have h1 := vsY_new hI.2.2.2.2 hok h3 9
  rw [vtLeaf_new, vtLeaf_kind] at h1
  refine ⟨h1, ⟨⟨rfl, rfl, rfl, rfl, rfl, rfl, rfl, rfl⟩, ⟨rfl, rfl, rfl, rfl, rfl⟩, fun v hv => ?_⟩, ⟨rfl, rfl, rfl⟩, hI.2.2.1, hI.2.2.2.1⟩
  have : v ≠ nv := by omega
  simp [yNew, upd, this]
section C86
variable {l : Launch} {D : va_G} {cA : Nat → ClassId} {ad : Nat → Nat} {fm : Value}
set_option maxHeartbeats 2000000 in
set_option maxRecDepth 100000 in
theorem c_M_readStream_i (d : Nat) (C : wd_C) (Y : wd_Y) (og : Nat → Int64) (n : Nat) (b : Nat → Int32) (w nv u : Nat) (V : VT) (no : Int32) (hI : ryI Y n b w nv u V no) (hok : vok nv V) (hnb : ∀ w, w < nv → nbOK (V.1 w) (V.2.1 w)) (noo : Nat) (E : Nat → Nat → Int32) (hO : obY Y noo E) (hob : obI nv noo E) (dc : Nat) (hdc : dc < nv) (hdc7 : V.1 dc = 7) (mm : Nat) (hmm : (V.2.2.1 dc).length = 2 * mm) (hfr : fre nv V dc) (huw : u ≤ w) (hw7 : wdA b st_7 w = true) (h3 : nv < 300) (htb : tlN V E noo dc = -1 ∨ ∃ m, m < 1000000000 ∧ (tlN V E noo dc = lN m ∨ tlN V E noo dc = -(lN m))) : am_Mt l D cA ad fm (d + 4) m_M_readStream [.ref 19, .int (nI dc)] (wd C Y og) (syQ Y C og n b nv u V no dc (stR n b w (tlO (tlN V E noo dc)))) := by
  have hT := hI.1
  have hn := hT.2.1
  have hnv := hI.2.2.2.2.1.2.1
  have h76 := wdA7_in hT.2.2.2.1 hw7
  have hsl := slP_le hT.2.2.2.1 h76
  refine am_mt ok_M_readStream (by simp [am_arg, Value.category, m_M_readStream, am_ml]) ?_
  refine am_eq_r (q' := (0, [some (.ref 19), some (.int (nI dc)), none, none, none, none, none, none, none, none, none], [], wd C Y og)) rfl ?_
  refine am_steps_r ok_M_readStream 6 (q' := (9, [some (.ref 19), some (.int (nI dc)), some (.int (Y.1 6)), none, none, none, none, none, none, none, none], [.int (Y.1 6), .int 9, .ref 19], wd C Y og)) rfl ?_
  rw [show (Y.1 6 : Int32) = nI w from hI.2.1]
  refine am_callV_r (As := [.int 9, .int (nI w)]) (rest := []) ok_M_readStream rfl rfl ok_M_begins oi_M_begins lk_6_151 (Or.inl ⟨_, _, _, rfl, rfl, rfl⟩) rfl rfl (Nat.le_of_ble_eq_true rfl) (c_M_begins_in _ C Y og nv u hI.2.2.2.2.1 h3 9 (nI w)) ?_
  rintro v_ w_ ⟨rfl, rfl⟩ -
  refine am_eq_r (q' := (12, [some (.ref 19), some (.int (nI dc)), some (.int (nI w)), none, none, none, none, none, none, none, none], [.int 1], wd C (yNew Y nv u 9) og)) rfl ?_
  refine am_steps_r ok_M_readStream 17 (q' := (bif decide (((yNew Y nv u 9).1 1) ≤ (((yNew Y nv u 9).1 6) + 6)) then 72 else 46, [some (.ref 19), some (.int (nI dc)), some (.int (nI w)), some (.int (((yNew Y nv u 9).1 4) - 1)), none, none, none, none, none, none, none], [], wd C (upd ((yNew Y nv u 9).1) 6 (((yNew Y nv u 9).1 6) + 6), (yNew Y nv u 9).2) og)) rfl ?_
  rw [show ((yNew Y nv u 9).1 4 : Int32) = nI (nv + 1) from rfl]
  rw [show ((nI (nv + 1)) - 1 : Int32) = nI nv from pk_sub (a := nv + 1) (b := 1) (by omega)]
  rw [show ((yNew Y nv u 9).1 6 : Int32) = nI w from hI.2.1]
  rw [show ((nI w) + 6 : Int32) = nI (w + 6) from nI_add w 6]
  rw [show ((yNew Y nv u 9).1 1 : Int32) = nI n from hT.1]
  refine am_br_r (fun h_2 => ?_) (fun h_2 => ?_)
  · skip
    have h_2 : n ≤ (w + 6) := (nI_leI (show n < 2 ^ 31 by omega) (show (w + 6) < 2 ^ 31 by omega)).mp h_2
    refine am_steps_r ok_M_readStream 4 (q' := (78, [some (.ref 19), some (.int (nI dc)), some (.int (nI w)), some (.int (nI nv)), none, none, none, none, none, none, none], [.int ((yNew Y nv u 9).1 1), .int 1, .ref 19], wd C (upd ((yNew Y nv u 9).1) 6 (nI (w + 6)), (yNew Y nv u 9).2) og)) rfl ?_
    rw [show ((yNew Y nv u 9).1 1 : Int32) = nI n from hT.1]
    refine am_callV_r (As := [.int 1, .int (nI n)]) (rest := []) ok_M_readStream rfl rfl ok_M_fails oi_M_fails lk_6_139 (Or.inl ⟨_, _, _, rfl, rfl, rfl⟩) rfl rfl (Nat.le_of_ble_eq_true rfl) (c_M_fails _ C (upd ((yNew Y nv u 9).1) 6 (nI (w + 6)), (yNew Y nv u 9).2) og 1 (nI n)) ?_
    rintro v_ w_ ⟨rfl, rfl⟩ -
    refine am_eq_r (q' := (81, [some (.ref 19), some (.int (nI dc)), some (.int (nI w)), some (.int (nI nv)), none, none, none, none, none, none, none], [.int 0], wd C (upd (upd (upd ((yNew Y nv u 9).1) 6 (nI (w + 6))) 7 1) 8 (nI n), (yNew Y nv u 9).2) og)) rfl ?_
    refine am_steps_r ok_M_readStream 2 (q' := (84, [some (.ref 19), some (.int (nI dc)), some (.int (nI w)), some (.int (nI nv)), some (.int 0), none, none, none, none, none, none], [.int (-1)], wd C (upd (upd (upd ((yNew Y nv u 9).1) 6 (nI (w + 6))) 7 1) 8 (nI n), (yNew Y nv u 9).2) og)) rfl ?_
    refine am_iret_r ok_M_readStream rfl rfl rfl ?_
    have hs : slP b w = n := by
      unfold slP
      first | (rw [if_pos (by assumption)]; omega) | (rw [if_neg (by rw [hT.2.2.2.1 _ (by omega)]; decide)]; omega)
    rw [stR_bad (by rw [hs, hT.2.2.2.1 n (Nat.le_refl _)]; decide), hs, if_neg (by omega)]
    exact syQ_bad (Y := (upd (yNew Y nv u 9).1 6 (nI (w + 6)), (yNew Y nv u 9).2)) (by rw [Int32.or_zero]; exact smE_begin hI hok h3 _) 1 n
  · skip
    have h_2 : ¬ n ≤ (w + 6) := fun z => h_2 ((nI_leI (show n < 2 ^ 31 by omega) (show (w + 6) < 2 ^ 31 by omega)).mpr z)
    refine am_steps_r ok_M_readStream 3 (q' := (51, [some (.ref 19), some (.int (nI dc)), some (.int (nI w)), some (.int (nI nv)), none, none, none, none, none, none, none], [.int (nI (w + 6)), .ref 19], wd C (upd ((yNew Y nv u 9).1) 6 (nI (w + 6)), (yNew Y nv u 9).2) og)) rfl ?_
    refine am_callV_r (As := [.int (nI (w + 6))]) (rest := []) ok_M_readStream rfl rfl ok_M_byteAt oi_M_byteAt lk_6_78 (Or.inl ⟨_, _, _, rfl, rfl, rfl⟩) rfl rfl (Nat.le_of_ble_eq_true rfl) (c_M_byteAt _ C (upd ((yNew Y nv u 9).1) 6 (nI (w + 6)), (yNew Y nv u 9).2) og n b hT (w + 6) (by omega)) ?_
    rintro v_ w_ ⟨rfl, rfl⟩ -
    refine am_eq_r (q' := (54, [some (.ref 19), some (.int (nI dc)), some (.int (nI w)), some (.int (nI nv)), none, none, none, none, none, none, none], [.int (b (w + 6))], wd C (upd ((yNew Y nv u 9).1) 6 (nI (w + 6)), (yNew Y nv u 9).2) og)) rfl ?_
    refine am_steps_r ok_M_readStream 2 (q' := (bif decide ((b (w + 6)) = 13) then 59 else 85, [some (.ref 19), some (.int (nI dc)), some (.int (nI w)), some (.int (nI nv)), none, none, none, none, none, none, none], [], wd C (upd ((yNew Y nv u 9).1) 6 (nI (w + 6)), (yNew Y nv u 9).2) og)) rfl ?_
    refine am_br_r (fun h_5 => ?_) (fun h_5 => ?_)
    · skip
      refine am_steps_r ok_M_readStream 7 (q' := (bif decide (((nI (w + 6)) + 1) < ((yNew Y nv u 9).1 1)) then 85 else 72, [some (.ref 19), some (.int (nI dc)), some (.int (nI w)), some (.int (nI nv)), none, none, none, none, none, none, none], [], wd C (upd ((yNew Y nv u 9).1) 6 (nI (w + 6)), (yNew Y nv u 9).2) og)) rfl ?_
      rw [show ((nI (w + 6)) + 1 : Int32) = nI ((w + 6) + 1) from nI_add (w + 6) 1]
      rw [show ((yNew Y nv u 9).1 1 : Int32) = nI n from hT.1]
      refine am_br_r (fun h_6 => ?_) (fun h_6 => ?_)
      · skip
        have h_6 : ((w + 6) + 1) < n := (nI_ltI (show ((w + 6) + 1) < 2 ^ 31 by omega) (show n < 2 ^ 31 by omega)).mp h_6
        refine am_steps_r ok_M_readStream 3 (q' := (90, [some (.ref 19), some (.int (nI dc)), some (.int (nI w)), some (.int (nI nv)), none, none, none, none, none, none, none], [.int (nI (w + 6)), .ref 19], wd C (upd ((yNew Y nv u 9).1) 6 (nI (w + 6)), (yNew Y nv u 9).2) og)) rfl ?_
        refine am_callV_r (As := [.int (nI (w + 6))]) (rest := []) ok_M_readStream rfl rfl ok_M_byteAt oi_M_byteAt lk_6_78 (Or.inl ⟨_, _, _, rfl, rfl, rfl⟩) rfl rfl (Nat.le_of_ble_eq_true rfl) (c_M_byteAt _ C (upd ((yNew Y nv u 9).1) 6 (nI (w + 6)), (yNew Y nv u 9).2) og n b hT (w + 6) (by omega)) ?_
        rintro v_ w_ ⟨rfl, rfl⟩ -
        refine am_eq_r (q' := (93, [some (.ref 19), some (.int (nI dc)), some (.int (nI w)), some (.int (nI nv)), none, none, none, none, none, none, none], [.int (b (w + 6))], wd C (upd ((yNew Y nv u 9).1) 6 (nI (w + 6)), (yNew Y nv u 9).2) og)) rfl ?_
        refine am_steps_r ok_M_readStream 2 (q' := (bif decide ((b (w + 6)) = 10) then 126 else 98, [some (.ref 19), some (.int (nI dc)), some (.int (nI w)), some (.int (nI nv)), none, none, none, none, none, none, none], [], wd C (upd ((yNew Y nv u 9).1) 6 (nI (w + 6)), (yNew Y nv u 9).2) og)) rfl ?_
        refine am_br_r (fun h_8 => ?_) (fun h_8 => ?_)
        · skip
          exact absurd ((show (b (w + 6)) = 13 by assumption).symm.trans (show (b (w + 6)) = 10 by assumption)) (by decide)
        · skip
          refine am_steps_r ok_M_readStream 3 (q' := (103, [some (.ref 19), some (.int (nI dc)), some (.int (nI w)), some (.int (nI nv)), none, none, none, none, none, none, none], [.int (nI (w + 6)), .ref 19], wd C (upd ((yNew Y nv u 9).1) 6 (nI (w + 6)), (yNew Y nv u 9).2) og)) rfl ?_
          refine am_callV_r (As := [.int (nI (w + 6))]) (rest := []) ok_M_readStream rfl rfl ok_M_byteAt oi_M_byteAt lk_6_78 (Or.inl ⟨_, _, _, rfl, rfl, rfl⟩) rfl rfl (Nat.le_of_ble_eq_true rfl) (c_M_byteAt _ C (upd ((yNew Y nv u 9).1) 6 (nI (w + 6)), (yNew Y nv u 9).2) og n b hT (w + 6) (by omega)) ?_
          rintro v_ w_ ⟨rfl, rfl⟩ -
          refine am_eq_r (q' := (106, [some (.ref 19), some (.int (nI dc)), some (.int (nI w)), some (.int (nI nv)), none, none, none, none, none, none, none], [.int (b (w + 6))], wd C (upd ((yNew Y nv u 9).1) 6 (nI (w + 6)), (yNew Y nv u 9).2) og)) rfl ?_
          refine am_steps_r ok_M_readStream 2 (q' := (bif decide ((b (w + 6)) = 13) then 111 else 130, [some (.ref 19), some (.int (nI dc)), some (.int (nI w)), some (.int (nI nv)), none, none, none, none, none, none, none], [], wd C (upd ((yNew Y nv u 9).1) 6 (nI (w + 6)), (yNew Y nv u 9).2) og)) rfl ?_
          refine am_br_r (fun h_10 => ?_) (fun h_10 => ?_)
          · skip
            refine am_steps_r ok_M_readStream 5 (q' := (118, [some (.ref 19), some (.int (nI dc)), some (.int (nI w)), some (.int (nI nv)), none, none, none, none, none, none, none], [.int ((nI (w + 6)) + 1), .ref 19], wd C (upd ((yNew Y nv u 9).1) 6 (nI (w + 6)), (yNew Y nv u 9).2) og)) rfl ?_
            rw [show ((nI (w + 6)) + 1 : Int32) = nI ((w + 6) + 1) from nI_add (w + 6) 1]
            refine am_callV_r (As := [.int (nI ((w + 6) + 1))]) (rest := []) ok_M_readStream rfl rfl ok_M_byteAt oi_M_byteAt lk_6_78 (Or.inl ⟨_, _, _, rfl, rfl, rfl⟩) rfl rfl (Nat.le_of_ble_eq_true rfl) (c_M_byteAt _ C (upd ((yNew Y nv u 9).1) 6 (nI (w + 6)), (yNew Y nv u 9).2) og n b hT ((w + 6) + 1) (by omega)) ?_
            rintro v_ w_ ⟨rfl, rfl⟩ -
            refine am_eq_r (q' := (121, [some (.ref 19), some (.int (nI dc)), some (.int (nI w)), some (.int (nI nv)), none, none, none, none, none, none, none], [.int (b ((w + 6) + 1))], wd C (upd ((yNew Y nv u 9).1) 6 (nI (w + 6)), (yNew Y nv u 9).2) og)) rfl ?_
            refine am_steps_r ok_M_readStream 2 (q' := (bif decide ((b ((w + 6) + 1)) = 10) then 126 else 130, [some (.ref 19), some (.int (nI dc)), some (.int (nI w)), some (.int (nI nv)), none, none, none, none, none, none, none], [], wd C (upd ((yNew Y nv u 9).1) 6 (nI (w + 6)), (yNew Y nv u 9).2) og)) rfl ?_
            refine am_br_r (fun h_12 => ?_) (fun h_12 => ?_)
            · skip
              refine am_steps_r ok_M_readStream 9 (q' := (179, [some (.ref 19), some (.int (nI dc)), some (.int (nI w)), some (.int (nI nv)), some (.int 1), none, none, none, none, none, none], [.int (nI (w + 6)), .ref 19, .ref 19], wd C (upd ((yNew Y nv u 9).1) 6 (nI (w + 6)), (yNew Y nv u 9).2) og)) rfl ?_
              have hsle : leE b (w + 6) = slP b w + 1 ∧ b (slP b w) = 10 := by
                unfold leE slP
                first
                  | (rw [if_pos (show b (w + 6) = 13 ∧ b (w + 6 + 1) = 10 from ⟨by assumption, by assumption⟩), if_pos (show b (w + 6) = 13 by assumption)]; exact ⟨rfl, by assumption⟩)
                  | (have e10 : b (w + 6) = 10 := by assumption
                     rw [if_neg (fun z => absurd (e10.symm.trans z.1) (by decide)), if_pos (by rw [e10]; decide), if_neg (fun z => absurd (e10.symm.trans z) (by decide))]
                     exact ⟨rfl, e10⟩)
              refine am_callV_r (As := [.int (nI (w + 6))]) (rest := [.ref 19]) ok_M_readStream rfl rfl ok_M_behindLineEnd oi_M_behindLineEnd lk_6_164 (Or.inl ⟨_, _, _, rfl, rfl, rfl⟩) rfl rfl (Nat.le_of_ble_eq_true rfl) (c_M_behindLineEnd _ C (upd ((yNew Y nv u 9).1) 6 (nI (w + 6)), (yNew Y nv u 9).2) og n b hT (w + 6) (by omega)) ?_
              rintro v_ w_ ⟨rfl, rfl⟩ -
              rw [hsle.1]
              refine am_eq_r (q' := (182, [some (.ref 19), some (.int (nI dc)), some (.int (nI w)), some (.int (nI nv)), some (.int 1), none, none, none, none, none, none], [.int (nI (slP b w + 1)), .ref 19], wd C (upd ((yNew Y nv u 9).1) 6 (nI (w + 6)), (yNew Y nv u 9).2) og)) rfl ?_
              refine am_steps_r ok_M_readStream 6 (q' := (193, [some (.ref 19), some (.int (nI dc)), some (.int (nI w)), some (.int (nI nv)), some (.int 1), some (.int (nI (slP b w + 1))), none, none, none, none, none], [.int (nI dc), .ref 19], wd C (upd ((yNew Y nv u 9).1) 6 (nI (slP b w + 1)), (yNew Y nv u 9).2) og)) rfl ?_
              have hE := smE_begin hI hok h3 (nI (slP b w + 1))
              have hsn : slP b w < n := by rcases Nat.lt_or_ge (slP b w) n with g | g; exact g; exact absurd ((hT.2.2.2.1 _ g).symm.trans hsle.2) (by decide)
              have hnb1 : ∀ v, v < nv + 1 → nbOK ((vtLeaf V nv 9 0 []).1 v) ((vtLeaf V nv 9 0 []).2.1 v) := fun v hv => by
                by_cases e : v = nv
                · subst e; exact nbOK_no (by simp [vtLeaf, upd]) (by simp [vtLeaf, upd]) (by simp [vtLeaf, upd]) (by simp only [vtLeaf, upd, if_true]; decide)
                · have h9 := hnb v (by omega); simpa [vtLeaf, upd, vp_updL, e] using h9
              have hmm1 : ((vtLeaf V nv 9 0 []).2.2.1 dc).length = 2 * mm := by have e : dc ≠ nv := (by omega); rw [← hmm]; simp [vtLeaf, va_up, e]
              have hob1 : obI (nv + 1) noo E := fun i hi => ⟨(hob i hi).1.imp_right (fun ⟨w, a, c⟩ => ⟨w, by omega, c⟩), (hob i hi).2⟩
              refine am_callV_r (As := [.int (nI dc)]) (rest := []) ok_M_readStream rfl rfl ok_M_toldLength oi_M_toldLength lk_6_248 (Or.inl ⟨_, _, _, rfl, rfl, rfl⟩) rfl rfl (Nat.le_of_ble_eq_true rfl) (c_M_toldLength _ C (upd ((yNew Y nv u 9).1) 6 (nI (slP b w + 1)), (yNew Y nv u 9).2) og (nv + 1) u (vtLeaf V nv 9 0 []) hE.1 (vok_leaf hok 9 0 []) hnb1 noo E hO hob1 dc (by omega) mm hmm1) ?_
              rintro v_ w_ ⟨rfl, rfl⟩ -
              rw [tlN_new hok hdc hnv (obI_V hob) 9 []]
              rcases nb_len htb with ⟨m, m1, m2, m3, m4⟩ | ⟨m1, m2, m3⟩
              · rw [m2]
                have m5 : tlO (lN m) = some m := by rw [← m2]; exact m4
                have hleg := leE_ge b ((slP b w + 1) + m)
                refine am_eq_r (q' := (196, [some (.ref 19), some (.int (nI dc)), some (.int (nI w)), some (.int (nI nv)), some (.int 1), some (.int (nI (slP b w + 1))), none, none, none, none, none], [.long (lN m)], wd C (upd ((yNew Y nv u 9).1) 6 (nI (slP b w + 1)), (yNew Y nv u 9).2) og)) rfl ?_
                refine am_steps_r ok_M_readStream 9 (q' := (bif decide ((lg_cmp (lN m) 0) < 0) then 282 else 211, [some (.ref 19), some (.int (nI dc)), some (.int (nI w)), some (.int (nI nv)), some (.int 1), some (.int (nI (slP b w + 1))), some (.long (lN m)), none, some (.int (-1)), some (.int (-1)), none], [], wd C (upd ((yNew Y nv u 9).1) 6 (nI (slP b w + 1)), (yNew Y nv u 9).2) og)) rfl ?_
                refine am_br_r (fun h_13 => ?_) (fun h_13 => ?_)
                · skip
                  exact absurd (cmp_lt0.mp h_13) (fun z => by rw [Int64.lt_iff_toInt_lt, lN_toInt (by omega)] at z; have : (0 : Int64).toInt = 0 := (by decide); omega)
                · skip
                  refine am_steps_r ok_M_readStream 9 (q' := (bif decide (0 < (lg_cmp ((nI (slP b w + 1)).toInt64 + (lN m)) (((yNew Y nv u 9).1 1).toInt64))) then 282 else 226, [some (.ref 19), some (.int (nI dc)), some (.int (nI w)), some (.int (nI nv)), some (.int 1), some (.int (nI (slP b w + 1))), some (.long (lN m)), none, some (.int (-1)), some (.int (-1)), none], [], wd C (upd ((yNew Y nv u 9).1) 6 (nI (slP b w + 1)), (yNew Y nv u 9).2) og)) rfl ?_
                  rw [show ((yNew Y nv u 9).1 1 : Int32) = nI n from hT.1]
                  refine am_br_r (fun h_14 => ?_) (fun h_14 => ?_)
                  · skip
                    have hcmp : (slP b w + 1) + m > n := by
                      have z := cmp_gt0.mp h_14
                      rw [nI_l (by omega), nI_l (by omega), lN_add, lN_lt (by omega) (by omega)] at z
                      exact z
                    refine am_steps_r ok_M_readStream 5 (q' := (292, [some (.ref 19), some (.int (nI dc)), some (.int (nI w)), some (.int (nI nv)), some (.int 1), some (.int (nI (slP b w + 1))), some (.long (lN m)), none, some (.int (-1)), some (.int (-1)), some (.int (nI (slP b w + 1)))], [], wd C (upd ((yNew Y nv u 9).1) 6 (nI (slP b w + 1)), (yNew Y nv u 9).2) og)) rfl ?_
                    refine am_drop_r [4] (L' := [some (.ref 19), some (.int (nI dc)), some (.int (nI w)), some (.int (nI nv)), none, some (.int (nI (slP b w + 1))), some (.long (lN m)), none, some (.int (-1)), some (.int (-1)), some (.int (nI (slP b w + 1)))]) rfl ?_
                    refine lp_M_readStream_292 (d + 2) C og n b Y hT nv u V hok dc w hdc hfr (lN m) (slP b w + 1) (by omega) (upd ((yNew Y nv u 9).1) 6 (nI (slP b w + 1)), (yNew Y nv u 9).2) no hE 2000 _ (slP b w + 1) (Nat.le_refl _) (by omega) (fun vr w' hw => ?_) (by omega)
                    rw [stR_srch hsle.2 (Or.inr ⟨m, m5, by first | assumption | (cases hz : wdA b st_9 (leE b ((slP b w + 1) + m)) with | false => rfl | true => have h9 := wdA_in hT.2.2.2.1 hz; have h8 := leE_ge b ((slP b w + 1) + m); omega)⟩)]
                    exact hw
                  · skip
                    have hcmp : ¬ (slP b w + 1) + m > n := by
                      intro z0
                      apply h_14
                      apply cmp_gt0.mpr
                      rw [nI_l (by omega), nI_l (by omega), lN_add, lN_lt (by omega) (by omega)]
                      exact z0
                    refine am_steps_r ok_M_readStream 8 (q' := (238, [some (.ref 19), some (.int (nI dc)), some (.int (nI w)), some (.int (nI nv)), some (.int 1), some (.int (nI (slP b w + 1))), some (.long (lN m)), none, some (.int (-1)), some (.int (-1)), some (.int ((nI (slP b w + 1)) + (lN m).toInt32))], [.int 0, .int ((nI (slP b w + 1)) + (lN m).toInt32), .ref 19], wd C (upd ((yNew Y nv u 9).1) 6 (nI (slP b w + 1)), (yNew Y nv u 9).2) og)) rfl ?_
                    rw [show ((nI (slP b w + 1)) + (lN m).toInt32 : Int32) = nI ((slP b w + 1) + m) from by rw [lN_i, nI_add]]
                    refine am_callV_r (As := [.int (nI ((slP b w + 1) + m)), .int 0]) (rest := []) ok_M_readStream rfl rfl ok_M_isWord oi_M_isWord lk_6_182 (Or.inl ⟨_, _, _, rfl, rfl, rfl⟩) rfl rfl (Nat.le_of_ble_eq_true rfl) (c_M_isWord_0 _ C (upd ((yNew Y nv u 9).1) 6 (nI (slP b w + 1)), (yNew Y nv u 9).2) og n b hT ((slP b w + 1) + m) (by omega)) ?_
                    rintro v_ w_ ⟨rfl, rfl⟩ -
                    refine am_eq_r (q' := (241, [some (.ref 19), some (.int (nI dc)), some (.int (nI w)), some (.int (nI nv)), some (.int 1), some (.int (nI (slP b w + 1))), some (.long (lN m)), none, some (.int (-1)), some (.int (-1)), some (.int (nI ((slP b w + 1) + m)))], [.int (bz (wdA b st_9 ((slP b w + 1) + m)))], wd C (upd ((yNew Y nv u 9).1) 6 (nI (slP b w + 1)), (yNew Y nv u 9).2) og)) rfl ?_
                    refine am_steps_r ok_M_readStream 1 (q' := (bif decide ((bz (wdA b st_9 ((slP b w + 1) + m))) = 0) then 249 else 244, [some (.ref 19), some (.int (nI dc)), some (.int (nI w)), some (.int (nI nv)), some (.int 1), some (.int (nI (slP b w + 1))), some (.long (lN m)), none, some (.int (-1)), some (.int (-1)), some (.int (nI ((slP b w + 1) + m)))], [], wd C (upd ((yNew Y nv u 9).1) 6 (nI (slP b w + 1)), (yNew Y nv u 9).2) og)) rfl ?_
                    refine am_bz_r (fun h_16 => ?_) (fun h_16 => ?_)
                    · skip
                      refine am_steps_r ok_M_readStream 6 (q' := (261, [some (.ref 19), some (.int (nI dc)), some (.int (nI w)), some (.int (nI nv)), some (.int 1), some (.int (nI (slP b w + 1))), some (.long (lN m)), none, some (.int (-1)), some (.int (-1)), some (.int (nI ((slP b w + 1) + m)))], [.int 0, .int (nI ((slP b w + 1) + m)), .ref 19], wd C (upd ((yNew Y nv u 9).1) 6 (nI (slP b w + 1)), (yNew Y nv u 9).2) og)) rfl ?_
                      refine am_callV_r (As := [.int (nI ((slP b w + 1) + m)), .int 0]) (rest := []) ok_M_readStream rfl rfl ok_M_isWord oi_M_isWord lk_6_182 (Or.inl ⟨_, _, _, rfl, rfl, rfl⟩) rfl rfl (Nat.le_of_ble_eq_true rfl) (c_M_isWord_0 _ C (upd ((yNew Y nv u 9).1) 6 (nI (slP b w + 1)), (yNew Y nv u 9).2) og n b hT ((slP b w + 1) + m) (by omega)) ?_
                      rintro v_ w_ ⟨rfl, rfl⟩ -
                      refine am_eq_r (q' := (264, [some (.ref 19), some (.int (nI dc)), some (.int (nI w)), some (.int (nI nv)), some (.int 1), some (.int (nI (slP b w + 1))), some (.long (lN m)), none, some (.int (-1)), some (.int (-1)), some (.int (nI ((slP b w + 1) + m)))], [.int (bz (wdA b st_9 ((slP b w + 1) + m)))], wd C (upd ((yNew Y nv u 9).1) 6 (nI (slP b w + 1)), (yNew Y nv u 9).2) og)) rfl ?_
                      refine am_steps_r ok_M_readStream 1 (q' := (bif decide ((bz (wdA b st_9 ((slP b w + 1) + m))) = 0) then 282 else 267, [some (.ref 19), some (.int (nI dc)), some (.int (nI w)), some (.int (nI nv)), some (.int 1), some (.int (nI (slP b w + 1))), some (.long (lN m)), none, some (.int (-1)), some (.int (-1)), some (.int (nI ((slP b w + 1) + m)))], [], wd C (upd ((yNew Y nv u 9).1) 6 (nI (slP b w + 1)), (yNew Y nv u 9).2) og)) rfl ?_
                      refine am_bz_r (fun h_18 => ?_) (fun h_18 => ?_)
                      · skip
                        refine am_steps_r ok_M_readStream 12 (q' := (bif decide (((nI (slP b w + 1)) + (lN m).toInt32) = (-1)) then 288 else 431, [some (.ref 19), some (.int (nI dc)), some (.int (nI w)), some (.int (nI nv)), some (.int 1), some (.int (nI (slP b w + 1))), some (.long (lN m)), none, some (.int ((nI (slP b w + 1)) + (lN m).toInt32)), some (.int ((nI ((slP b w + 1) + m)) + 9)), some (.int (nI ((slP b w + 1) + m)))], [], wd C (upd ((yNew Y nv u 9).1) 6 (nI (slP b w + 1)), (yNew Y nv u 9).2) og)) rfl ?_
                        rw [show ((nI (slP b w + 1)) + (lN m).toInt32 : Int32) = nI ((slP b w + 1) + m) from by rw [lN_i, nI_add]]
                        rw [show ((nI ((slP b w + 1) + m)) + 9 : Int32) = nI (((slP b w + 1) + m) + 9) from nI_add ((slP b w + 1) + m) 9]
                        refine am_br_r (fun h_19 => ?_) (fun h_19 => ?_)
                        · skip
                          exact absurd h_19 (nI_nm (show ((slP b w + 1) + m) < 2 ^ 31 by omega))
                        · skip
                          refine am_drop_r [4, 10] (L' := [some (.ref 19), some (.int (nI dc)), some (.int (nI w)), some (.int (nI nv)), none, some (.int (nI (slP b w + 1))), some (.long (lN m)), none, some (.int (nI ((slP b w + 1) + m))), some (.int (nI (((slP b w + 1) + m) + 9))), none]) rfl ?_
                          have hlee : leE b ((slP b w + 1) + m) = (slP b w + 1) + m := wdA_leE (by assumption)
                          refine am_eq_r (q' := (431, [some (.ref 19), some (.int (nI dc)), some (.int (nI w)), some (.int (nI nv)), none, some (.int (nI (slP b w + 1))), some (.long (lN m)), none, some (.int (nI ((slP b w + 1) + m))), some (.int (nI (leE b ((slP b w + 1) + m) + 9))), none], [], wd C (upd ((yNew Y nv u 9).1) 6 (nI (slP b w + 1)), (yNew Y nv u 9).2) og)) (by rw [hlee]) ?_
                          refine tl_M_readStream_431 (d + 2) C og n b Y hT nv u V hok dc w hdc hfr (lN m) (slP b w + 1) (by omega) (upd ((yNew Y nv u 9).1) 6 (nI (slP b w + 1)), (yNew Y nv u 9).2) no 0 (by rw [Int32.or_zero]; exact hE) m (leE b ((slP b w + 1) + m) + 9) (by omega) _ (fun vr w' hw => ?_)
                          rw [stR_told hsle.2 m5 (by rw [hlee]; assumption)]
                          exact hw
                      · skip
                        first | contradiction | (exfalso; simp_all; done)
                    · skip
                      refine am_steps_r ok_M_readStream 2 (q' := (252, [some (.ref 19), some (.int (nI dc)), some (.int (nI w)), some (.int (nI nv)), some (.int 1), some (.int (nI (slP b w + 1))), some (.long (lN m)), none, some (.int (-1)), some (.int (-1)), some (.int (nI ((slP b w + 1) + m)))], [.int (nI ((slP b w + 1) + m)), .ref 19], wd C (upd ((yNew Y nv u 9).1) 6 (nI (slP b w + 1)), (yNew Y nv u 9).2) og)) rfl ?_
                      refine am_callV_r (As := [.int (nI ((slP b w + 1) + m))]) (rest := []) ok_M_readStream rfl rfl ok_M_behindLineEnd oi_M_behindLineEnd lk_6_164 (Or.inl ⟨_, _, _, rfl, rfl, rfl⟩) rfl rfl (Nat.le_of_ble_eq_true rfl) (c_M_behindLineEnd _ C (upd ((yNew Y nv u 9).1) 6 (nI (slP b w + 1)), (yNew Y nv u 9).2) og n b hT ((slP b w + 1) + m) (by omega)) ?_
                      rintro v_ w_ ⟨rfl, rfl⟩ -
                      refine am_eq_r (q' := (255, [some (.ref 19), some (.int (nI dc)), some (.int (nI w)), some (.int (nI nv)), some (.int 1), some (.int (nI (slP b w + 1))), some (.long (lN m)), none, some (.int (-1)), some (.int (-1)), some (.int (nI ((slP b w + 1) + m)))], [.int (nI (leE b ((slP b w + 1) + m)))], wd C (upd ((yNew Y nv u 9).1) 6 (nI (slP b w + 1)), (yNew Y nv u 9).2) og)) rfl ?_
                      refine am_steps_r ok_M_readStream 4 (q' := (261, [some (.ref 19), some (.int (nI dc)), some (.int (nI w)), some (.int (nI nv)), some (.int 1), some (.int (nI (slP b w + 1))), some (.long (lN m)), none, some (.int (-1)), some (.int (-1)), some (.int (nI (leE b ((slP b w + 1) + m))))], [.int 0, .int (nI (leE b ((slP b w + 1) + m))), .ref 19], wd C (upd ((yNew Y nv u 9).1) 6 (nI (slP b w + 1)), (yNew Y nv u 9).2) og)) rfl ?_
                      refine am_callV_r (As := [.int (nI (leE b ((slP b w + 1) + m))), .int 0]) (rest := []) ok_M_readStream rfl rfl ok_M_isWord oi_M_isWord lk_6_182 (Or.inl ⟨_, _, _, rfl, rfl, rfl⟩) rfl rfl (Nat.le_of_ble_eq_true rfl) (c_M_isWord_0 _ C (upd ((yNew Y nv u 9).1) 6 (nI (slP b w + 1)), (yNew Y nv u 9).2) og n b hT (leE b ((slP b w + 1) + m)) (by omega)) ?_
                      rintro v_ w_ ⟨rfl, rfl⟩ -
                      refine am_eq_r (q' := (264, [some (.ref 19), some (.int (nI dc)), some (.int (nI w)), some (.int (nI nv)), some (.int 1), some (.int (nI (slP b w + 1))), some (.long (lN m)), none, some (.int (-1)), some (.int (-1)), some (.int (nI (leE b ((slP b w + 1) + m))))], [.int (bz (wdA b st_9 (leE b ((slP b w + 1) + m))))], wd C (upd ((yNew Y nv u 9).1) 6 (nI (slP b w + 1)), (yNew Y nv u 9).2) og)) rfl ?_
                      refine am_steps_r ok_M_readStream 1 (q' := (bif decide ((bz (wdA b st_9 (leE b ((slP b w + 1) + m)))) = 0) then 282 else 267, [some (.ref 19), some (.int (nI dc)), some (.int (nI w)), some (.int (nI nv)), some (.int 1), some (.int (nI (slP b w + 1))), some (.long (lN m)), none, some (.int (-1)), some (.int (-1)), some (.int (nI (leE b ((slP b w + 1) + m))))], [], wd C (upd ((yNew Y nv u 9).1) 6 (nI (slP b w + 1)), (yNew Y nv u 9).2) og)) rfl ?_
                      refine am_bz_r (fun h_22 => ?_) (fun h_22 => ?_)
                      · skip
                        refine am_steps_r ok_M_readStream 12 (q' := (bif decide (((nI (slP b w + 1)) + (lN m).toInt32) = (-1)) then 288 else 431, [some (.ref 19), some (.int (nI dc)), some (.int (nI w)), some (.int (nI nv)), some (.int 1), some (.int (nI (slP b w + 1))), some (.long (lN m)), none, some (.int ((nI (slP b w + 1)) + (lN m).toInt32)), some (.int ((nI (leE b ((slP b w + 1) + m))) + 9)), some (.int (nI (leE b ((slP b w + 1) + m))))], [], wd C (upd ((yNew Y nv u 9).1) 6 (nI (slP b w + 1)), (yNew Y nv u 9).2) og)) rfl ?_
                        rw [show ((nI (slP b w + 1)) + (lN m).toInt32 : Int32) = nI ((slP b w + 1) + m) from by rw [lN_i, nI_add]]
                        rw [show ((nI (leE b ((slP b w + 1) + m))) + 9 : Int32) = nI ((leE b ((slP b w + 1) + m)) + 9) from nI_add (leE b ((slP b w + 1) + m)) 9]
                        refine am_br_r (fun h_23 => ?_) (fun h_23 => ?_)
                        · skip
                          exact absurd h_23 (nI_nm (show ((slP b w + 1) + m) < 2 ^ 31 by omega))
                        · skip
                          refine am_drop_r [4, 10] (L' := [some (.ref 19), some (.int (nI dc)), some (.int (nI w)), some (.int (nI nv)), none, some (.int (nI (slP b w + 1))), some (.long (lN m)), none, some (.int (nI ((slP b w + 1) + m))), some (.int (nI ((leE b ((slP b w + 1) + m)) + 9))), none]) rfl ?_
                          refine am_eq_r (q' := (431, [some (.ref 19), some (.int (nI dc)), some (.int (nI w)), some (.int (nI nv)), none, some (.int (nI (slP b w + 1))), some (.long (lN m)), none, some (.int (nI ((slP b w + 1) + m))), some (.int (nI (leE b ((slP b w + 1) + m) + 9))), none], [], wd C (upd ((yNew Y nv u 9).1) 6 (nI (slP b w + 1)), (yNew Y nv u 9).2) og)) rfl ?_
                          refine tl_M_readStream_431 (d + 2) C og n b Y hT nv u V hok dc w hdc hfr (lN m) (slP b w + 1) (by omega) (upd ((yNew Y nv u 9).1) 6 (nI (slP b w + 1)), (yNew Y nv u 9).2) no 0 (by rw [Int32.or_zero]; exact hE) m (leE b ((slP b w + 1) + m) + 9) (by omega) _ (fun vr w' hw => ?_)
                          rw [stR_told hsle.2 m5 (by assumption)]
                          exact hw
                      · skip
                        refine am_steps_r ok_M_readStream 5 (q' := (292, [some (.ref 19), some (.int (nI dc)), some (.int (nI w)), some (.int (nI nv)), some (.int 1), some (.int (nI (slP b w + 1))), some (.long (lN m)), none, some (.int (-1)), some (.int (-1)), some (.int (nI (slP b w + 1)))], [], wd C (upd ((yNew Y nv u 9).1) 6 (nI (slP b w + 1)), (yNew Y nv u 9).2) og)) rfl ?_
                        refine am_drop_r [4] (L' := [some (.ref 19), some (.int (nI dc)), some (.int (nI w)), some (.int (nI nv)), none, some (.int (nI (slP b w + 1))), some (.long (lN m)), none, some (.int (-1)), some (.int (-1)), some (.int (nI (slP b w + 1)))]) rfl ?_
                        refine lp_M_readStream_292 (d + 2) C og n b Y hT nv u V hok dc w hdc hfr (lN m) (slP b w + 1) (by omega) (upd ((yNew Y nv u 9).1) 6 (nI (slP b w + 1)), (yNew Y nv u 9).2) no hE 2000 _ (slP b w + 1) (Nat.le_refl _) (by omega) (fun vr w' hw => ?_) (by omega)
                        rw [stR_srch hsle.2 (Or.inr ⟨m, m5, by first | assumption | (cases hz : wdA b st_9 (leE b ((slP b w + 1) + m)) with | false => rfl | true => have h9 := wdA_in hT.2.2.2.1 hz; have h8 := leE_ge b ((slP b w + 1) + m); omega)⟩)]
                        exact hw
              · skip
                refine am_eq_r (q' := (196, [some (.ref 19), some (.int (nI dc)), some (.int (nI w)), some (.int (nI nv)), some (.int 1), some (.int (nI (slP b w + 1))), none, none, none, none, none], [.long (tlN V E noo dc)], wd C (upd ((yNew Y nv u 9).1) 6 (nI (slP b w + 1)), (yNew Y nv u 9).2) og)) rfl ?_
                refine am_steps_r ok_M_readStream 9 (q' := (bif decide ((lg_cmp (tlN V E noo dc) 0) < 0) then 282 else 211, [some (.ref 19), some (.int (nI dc)), some (.int (nI w)), some (.int (nI nv)), some (.int 1), some (.int (nI (slP b w + 1))), some (.long (tlN V E noo dc)), none, some (.int (-1)), some (.int (-1)), none], [], wd C (upd ((yNew Y nv u 9).1) 6 (nI (slP b w + 1)), (yNew Y nv u 9).2) og)) rfl ?_
                refine am_br_r (fun h_24 => ?_) (fun h_24 => ?_)
                · skip
                  refine am_steps_r ok_M_readStream 5 (q' := (292, [some (.ref 19), some (.int (nI dc)), some (.int (nI w)), some (.int (nI nv)), some (.int 1), some (.int (nI (slP b w + 1))), some (.long (tlN V E noo dc)), none, some (.int (-1)), some (.int (-1)), some (.int (nI (slP b w + 1)))], [], wd C (upd ((yNew Y nv u 9).1) 6 (nI (slP b w + 1)), (yNew Y nv u 9).2) og)) rfl ?_
                  refine am_drop_r [4] (L' := [some (.ref 19), some (.int (nI dc)), some (.int (nI w)), some (.int (nI nv)), none, some (.int (nI (slP b w + 1))), some (.long (tlN V E noo dc)), none, some (.int (-1)), some (.int (-1)), some (.int (nI (slP b w + 1)))]) rfl ?_
                  refine lp_M_readStream_292 (d + 2) C og n b Y hT nv u V hok dc w hdc hfr (tlN V E noo dc) (slP b w + 1) (by omega) (upd ((yNew Y nv u 9).1) 6 (nI (slP b w + 1)), (yNew Y nv u 9).2) no hE 2000 _ (slP b w + 1) (Nat.le_refl _) (by omega) (fun vr w' hw => ?_) (by omega)
                  rw [stR_srch hsle.2 (Or.inl m3)]
                  exact hw
                · skip
                  exact absurd (cmp_lt0.mpr m1) h_24
            · skip
              refine am_steps_r ok_M_readStream 9 (q' := (145, [some (.ref 19), some (.int (nI dc)), some (.int (nI w)), some (.int (nI nv)), some (.int 0), none, none, none, none, none, none], [.int (nI (w + 6)), .ref 19, .int 2, .ref 19], wd C (upd ((yNew Y nv u 9).1) 6 (nI (w + 6)), (yNew Y nv u 9).2) og)) rfl ?_
              refine am_callV_r (As := [.int (nI (w + 6))]) (rest := [.int 2, .ref 19]) ok_M_readStream rfl rfl ok_M_byteAt oi_M_byteAt lk_6_78 (Or.inl ⟨_, _, _, rfl, rfl, rfl⟩) rfl rfl (Nat.le_of_ble_eq_true rfl) (c_M_byteAt _ C (upd ((yNew Y nv u 9).1) 6 (nI (w + 6)), (yNew Y nv u 9).2) og n b hT (w + 6) (by omega)) ?_
              rintro v_ w_ ⟨rfl, rfl⟩ -
              refine am_eq_r (q' := (148, [some (.ref 19), some (.int (nI dc)), some (.int (nI w)), some (.int (nI nv)), some (.int 0), none, none, none, none, none, none], [.int (b (w + 6)), .int 2, .ref 19], wd C (upd ((yNew Y nv u 9).1) 6 (nI (w + 6)), (yNew Y nv u 9).2) og)) rfl ?_
              refine am_steps_r ok_M_readStream 2 (q' := (bif decide ((b (w + 6)) = 13) then 153 else 162, [some (.ref 19), some (.int (nI dc)), some (.int (nI w)), some (.int (nI nv)), some (.int 0), none, none, none, none, none, none], [.int 2, .ref 19], wd C (upd ((yNew Y nv u 9).1) 6 (nI (w + 6)), (yNew Y nv u 9).2) og)) rfl ?_
              refine am_br_r (fun h_26 => ?_) (fun h_26 => ?_)
              · skip
                refine am_steps_r ok_M_readStream 5 (q' := (166, [some (.ref 19), some (.int (nI dc)), some (.int (nI w)), some (.int (nI nv)), some (.int 0), none, none, none, none, none, none], [.int ((nI (w + 6)) + 1), .int 2, .ref 19], wd C (upd ((yNew Y nv u 9).1) 6 (nI (w + 6)), (yNew Y nv u 9).2) og)) rfl ?_
                rw [show ((nI (w + 6)) + 1 : Int32) = nI ((w + 6) + 1) from nI_add (w + 6) 1]
                refine am_callV_r (As := [.int 2, .int (nI ((w + 6) + 1))]) (rest := []) ok_M_readStream rfl rfl ok_M_fails oi_M_fails lk_6_139 (Or.inl ⟨_, _, _, rfl, rfl, rfl⟩) rfl rfl (Nat.le_of_ble_eq_true rfl) (c_M_fails _ C (upd ((yNew Y nv u 9).1) 6 (nI (w + 6)), (yNew Y nv u 9).2) og 2 (nI ((w + 6) + 1))) ?_
                rintro v_ w_ ⟨rfl, rfl⟩ -
                refine am_eq_r (q' := (169, [some (.ref 19), some (.int (nI dc)), some (.int (nI w)), some (.int (nI nv)), some (.int 0), none, none, none, none, none, none], [.int 0], wd C (upd (upd (upd ((yNew Y nv u 9).1) 6 (nI (w + 6))) 7 2) 8 (nI ((w + 6) + 1)), (yNew Y nv u 9).2) og)) rfl ?_
                refine am_steps_r ok_M_readStream 2 (q' := (172, [some (.ref 19), some (.int (nI dc)), some (.int (nI w)), some (.int (nI nv)), some (.int 0), some (.int 0), none, none, none, none, none], [.int (-1)], wd C (upd (upd (upd ((yNew Y nv u 9).1) 6 (nI (w + 6))) 7 2) 8 (nI ((w + 6) + 1)), (yNew Y nv u 9).2) og)) rfl ?_
                refine am_iret_r ok_M_readStream rfl rfl rfl ?_
                have hs : slP b w = (w + 6) + 1 := by
                  unfold slP
                  first | (rw [if_pos (by assumption)]; done) | (rw [if_neg (by assumption)]; done)
                rw [stR_bad (by rw [hs]; first | assumption | (intro z9; exact absurd ⟨by assumption, z9⟩ (by assumption))), hs, if_pos (by omega)]
                exact syQ_bad (Y := (upd (yNew Y nv u 9).1 6 (nI (w + 6)), (yNew Y nv u 9).2)) (by rw [Int32.or_zero]; exact smE_begin hI hok h3 _) 2 _
              · skip
                first | contradiction | (exfalso; simp_all; done)
          · skip
            first | contradiction | (exfalso; simp_all; done)
      · skip
        have h_6 : ¬ ((w + 6) + 1) < n := fun z => h_6 ((nI_ltI (show ((w + 6) + 1) < 2 ^ 31 by omega) (show n < 2 ^ 31 by omega)).mpr z)
        refine am_steps_r ok_M_readStream 4 (q' := (78, [some (.ref 19), some (.int (nI dc)), some (.int (nI w)), some (.int (nI nv)), none, none, none, none, none, none, none], [.int ((yNew Y nv u 9).1 1), .int 1, .ref 19], wd C (upd ((yNew Y nv u 9).1) 6 (nI (w + 6)), (yNew Y nv u 9).2) og)) rfl ?_
        rw [show ((yNew Y nv u 9).1 1 : Int32) = nI n from hT.1]
        refine am_callV_r (As := [.int 1, .int (nI n)]) (rest := []) ok_M_readStream rfl rfl ok_M_fails oi_M_fails lk_6_139 (Or.inl ⟨_, _, _, rfl, rfl, rfl⟩) rfl rfl (Nat.le_of_ble_eq_true rfl) (c_M_fails _ C (upd ((yNew Y nv u 9).1) 6 (nI (w + 6)), (yNew Y nv u 9).2) og 1 (nI n)) ?_
        rintro v_ w_ ⟨rfl, rfl⟩ -
        refine am_eq_r (q' := (81, [some (.ref 19), some (.int (nI dc)), some (.int (nI w)), some (.int (nI nv)), none, none, none, none, none, none, none], [.int 0], wd C (upd (upd (upd ((yNew Y nv u 9).1) 6 (nI (w + 6))) 7 1) 8 (nI n), (yNew Y nv u 9).2) og)) rfl ?_
        refine am_steps_r ok_M_readStream 2 (q' := (84, [some (.ref 19), some (.int (nI dc)), some (.int (nI w)), some (.int (nI nv)), some (.int 0), none, none, none, none, none, none], [.int (-1)], wd C (upd (upd (upd ((yNew Y nv u 9).1) 6 (nI (w + 6))) 7 1) 8 (nI n), (yNew Y nv u 9).2) og)) rfl ?_
        refine am_iret_r ok_M_readStream rfl rfl rfl ?_
        have hs : slP b w = n := by
          unfold slP
          first | (rw [if_pos (by assumption)]; omega) | (rw [if_neg (by rw [hT.2.2.2.1 _ (by omega)]; decide)]; omega)
        rw [stR_bad (by rw [hs, hT.2.2.2.1 n (Nat.le_refl _)]; decide), hs, if_neg (by omega)]
        exact syQ_bad (Y := (upd (yNew Y nv u 9).1 6 (nI (w + 6)), (yNew Y nv u 9).2)) (by rw [Int32.or_zero]; exact smE_begin hI hok h3 _) 1 n
    · skip
      refine am_steps_r ok_M_readStream 3 (q' := (90, [some (.ref 19), some (.int (nI dc)), some (.int (nI w)), some (.int (nI nv)), none, none, none, none, none, none, none], [.int (nI (w + 6)), .ref 19], wd C (upd ((yNew Y nv u 9).1) 6 (nI (w + 6)), (yNew Y nv u 9).2) og)) rfl ?_
      refine am_callV_r (As := [.int (nI (w + 6))]) (rest := []) ok_M_readStream rfl rfl ok_M_byteAt oi_M_byteAt lk_6_78 (Or.inl ⟨_, _, _, rfl, rfl, rfl⟩) rfl rfl (Nat.le_of_ble_eq_true rfl) (c_M_byteAt _ C (upd ((yNew Y nv u 9).1) 6 (nI (w + 6)), (yNew Y nv u 9).2) og n b hT (w + 6) (by omega)) ?_
      rintro v_ w_ ⟨rfl, rfl⟩ -
      refine am_eq_r (q' := (93, [some (.ref 19), some (.int (nI dc)), some (.int (nI w)), some (.int (nI nv)), none, none, none, none, none, none, none], [.int (b (w + 6))], wd C (upd ((yNew Y nv u 9).1) 6 (nI (w + 6)), (yNew Y nv u 9).2) og)) rfl ?_
      refine am_steps_r ok_M_readStream 2 (q' := (bif decide ((b (w + 6)) = 10) then 126 else 98, [some (.ref 19), some (.int (nI dc)), some (.int (nI w)), some (.int (nI nv)), none, none, none, none, none, none, none], [], wd C (upd ((yNew Y nv u 9).1) 6 (nI (w + 6)), (yNew Y nv u 9).2) og)) rfl ?_
      refine am_br_r (fun h_30 => ?_) (fun h_30 => ?_)
      · skip
        refine am_steps_r ok_M_readStream 9 (q' := (179, [some (.ref 19), some (.int (nI dc)), some (.int (nI w)), some (.int (nI nv)), some (.int 1), none, none, none, none, none, none], [.int (nI (w + 6)), .ref 19, .ref 19], wd C (upd ((yNew Y nv u 9).1) 6 (nI (w + 6)), (yNew Y nv u 9).2) og)) rfl ?_
        have hsle : leE b (w + 6) = slP b w + 1 ∧ b (slP b w) = 10 := by
          unfold leE slP
          first
            | (rw [if_pos (show b (w + 6) = 13 ∧ b (w + 6 + 1) = 10 from ⟨by assumption, by assumption⟩), if_pos (show b (w + 6) = 13 by assumption)]; exact ⟨rfl, by assumption⟩)
            | (have e10 : b (w + 6) = 10 := by assumption
               rw [if_neg (fun z => absurd (e10.symm.trans z.1) (by decide)), if_pos (by rw [e10]; decide), if_neg (fun z => absurd (e10.symm.trans z) (by decide))]
               exact ⟨rfl, e10⟩)
        refine am_callV_r (As := [.int (nI (w + 6))]) (rest := [.ref 19]) ok_M_readStream rfl rfl ok_M_behindLineEnd oi_M_behindLineEnd lk_6_164 (Or.inl ⟨_, _, _, rfl, rfl, rfl⟩) rfl rfl (Nat.le_of_ble_eq_true rfl) (c_M_behindLineEnd _ C (upd ((yNew Y nv u 9).1) 6 (nI (w + 6)), (yNew Y nv u 9).2) og n b hT (w + 6) (by omega)) ?_
        rintro v_ w_ ⟨rfl, rfl⟩ -
        rw [hsle.1]
        refine am_eq_r (q' := (182, [some (.ref 19), some (.int (nI dc)), some (.int (nI w)), some (.int (nI nv)), some (.int 1), none, none, none, none, none, none], [.int (nI (slP b w + 1)), .ref 19], wd C (upd ((yNew Y nv u 9).1) 6 (nI (w + 6)), (yNew Y nv u 9).2) og)) rfl ?_
        refine am_steps_r ok_M_readStream 6 (q' := (193, [some (.ref 19), some (.int (nI dc)), some (.int (nI w)), some (.int (nI nv)), some (.int 1), some (.int (nI (slP b w + 1))), none, none, none, none, none], [.int (nI dc), .ref 19], wd C (upd ((yNew Y nv u 9).1) 6 (nI (slP b w + 1)), (yNew Y nv u 9).2) og)) rfl ?_
        have hE := smE_begin hI hok h3 (nI (slP b w + 1))
        have hsn : slP b w < n := by rcases Nat.lt_or_ge (slP b w) n with g | g; exact g; exact absurd ((hT.2.2.2.1 _ g).symm.trans hsle.2) (by decide)
        have hnb1 : ∀ v, v < nv + 1 → nbOK ((vtLeaf V nv 9 0 []).1 v) ((vtLeaf V nv 9 0 []).2.1 v) := fun v hv => by
          by_cases e : v = nv
          · subst e; exact nbOK_no (by simp [vtLeaf, upd]) (by simp [vtLeaf, upd]) (by simp [vtLeaf, upd]) (by simp only [vtLeaf, upd, if_true]; decide)
          · have h9 := hnb v (by omega); simpa [vtLeaf, upd, vp_updL, e] using h9
        have hmm1 : ((vtLeaf V nv 9 0 []).2.2.1 dc).length = 2 * mm := by have e : dc ≠ nv := (by omega); rw [← hmm]; simp [vtLeaf, va_up, e]
        have hob1 : obI (nv + 1) noo E := fun i hi => ⟨(hob i hi).1.imp_right (fun ⟨w, a, c⟩ => ⟨w, by omega, c⟩), (hob i hi).2⟩
        refine am_callV_r (As := [.int (nI dc)]) (rest := []) ok_M_readStream rfl rfl ok_M_toldLength oi_M_toldLength lk_6_248 (Or.inl ⟨_, _, _, rfl, rfl, rfl⟩) rfl rfl (Nat.le_of_ble_eq_true rfl) (c_M_toldLength _ C (upd ((yNew Y nv u 9).1) 6 (nI (slP b w + 1)), (yNew Y nv u 9).2) og (nv + 1) u (vtLeaf V nv 9 0 []) hE.1 (vok_leaf hok 9 0 []) hnb1 noo E hO hob1 dc (by omega) mm hmm1) ?_
        rintro v_ w_ ⟨rfl, rfl⟩ -
        rw [tlN_new hok hdc hnv (obI_V hob) 9 []]
        rcases nb_len htb with ⟨m, m1, m2, m3, m4⟩ | ⟨m1, m2, m3⟩
        · rw [m2]
          have m5 : tlO (lN m) = some m := by rw [← m2]; exact m4
          have hleg := leE_ge b ((slP b w + 1) + m)
          refine am_eq_r (q' := (196, [some (.ref 19), some (.int (nI dc)), some (.int (nI w)), some (.int (nI nv)), some (.int 1), some (.int (nI (slP b w + 1))), none, none, none, none, none], [.long (lN m)], wd C (upd ((yNew Y nv u 9).1) 6 (nI (slP b w + 1)), (yNew Y nv u 9).2) og)) rfl ?_
          refine am_steps_r ok_M_readStream 9 (q' := (bif decide ((lg_cmp (lN m) 0) < 0) then 282 else 211, [some (.ref 19), some (.int (nI dc)), some (.int (nI w)), some (.int (nI nv)), some (.int 1), some (.int (nI (slP b w + 1))), some (.long (lN m)), none, some (.int (-1)), some (.int (-1)), none], [], wd C (upd ((yNew Y nv u 9).1) 6 (nI (slP b w + 1)), (yNew Y nv u 9).2) og)) rfl ?_
          refine am_br_r (fun h_31 => ?_) (fun h_31 => ?_)
          · skip
            exact absurd (cmp_lt0.mp h_31) (fun z => by rw [Int64.lt_iff_toInt_lt, lN_toInt (by omega)] at z; have : (0 : Int64).toInt = 0 := (by decide); omega)
          · skip
            refine am_steps_r ok_M_readStream 9 (q' := (bif decide (0 < (lg_cmp ((nI (slP b w + 1)).toInt64 + (lN m)) (((yNew Y nv u 9).1 1).toInt64))) then 282 else 226, [some (.ref 19), some (.int (nI dc)), some (.int (nI w)), some (.int (nI nv)), some (.int 1), some (.int (nI (slP b w + 1))), some (.long (lN m)), none, some (.int (-1)), some (.int (-1)), none], [], wd C (upd ((yNew Y nv u 9).1) 6 (nI (slP b w + 1)), (yNew Y nv u 9).2) og)) rfl ?_
            rw [show ((yNew Y nv u 9).1 1 : Int32) = nI n from hT.1]
            refine am_br_r (fun h_32 => ?_) (fun h_32 => ?_)
            · skip
              have hcmp : (slP b w + 1) + m > n := by
                have z := cmp_gt0.mp h_32
                rw [nI_l (by omega), nI_l (by omega), lN_add, lN_lt (by omega) (by omega)] at z
                exact z
              refine am_steps_r ok_M_readStream 5 (q' := (292, [some (.ref 19), some (.int (nI dc)), some (.int (nI w)), some (.int (nI nv)), some (.int 1), some (.int (nI (slP b w + 1))), some (.long (lN m)), none, some (.int (-1)), some (.int (-1)), some (.int (nI (slP b w + 1)))], [], wd C (upd ((yNew Y nv u 9).1) 6 (nI (slP b w + 1)), (yNew Y nv u 9).2) og)) rfl ?_
              refine am_drop_r [4] (L' := [some (.ref 19), some (.int (nI dc)), some (.int (nI w)), some (.int (nI nv)), none, some (.int (nI (slP b w + 1))), some (.long (lN m)), none, some (.int (-1)), some (.int (-1)), some (.int (nI (slP b w + 1)))]) rfl ?_
              refine lp_M_readStream_292 (d + 2) C og n b Y hT nv u V hok dc w hdc hfr (lN m) (slP b w + 1) (by omega) (upd ((yNew Y nv u 9).1) 6 (nI (slP b w + 1)), (yNew Y nv u 9).2) no hE 2000 _ (slP b w + 1) (Nat.le_refl _) (by omega) (fun vr w' hw => ?_) (by omega)
              rw [stR_srch hsle.2 (Or.inr ⟨m, m5, by first | assumption | (cases hz : wdA b st_9 (leE b ((slP b w + 1) + m)) with | false => rfl | true => have h9 := wdA_in hT.2.2.2.1 hz; have h8 := leE_ge b ((slP b w + 1) + m); omega)⟩)]
              exact hw
            · skip
              have hcmp : ¬ (slP b w + 1) + m > n := by
                intro z0
                apply h_32
                apply cmp_gt0.mpr
                rw [nI_l (by omega), nI_l (by omega), lN_add, lN_lt (by omega) (by omega)]
                exact z0
              refine am_steps_r ok_M_readStream 8 (q' := (238, [some (.ref 19), some (.int (nI dc)), some (.int (nI w)), some (.int (nI nv)), some (.int 1), some (.int (nI (slP b w + 1))), some (.long (lN m)), none, some (.int (-1)), some (.int (-1)), some (.int ((nI (slP b w + 1)) + (lN m).toInt32))], [.int 0, .int ((nI (slP b w + 1)) + (lN m).toInt32), .ref 19], wd C (upd ((yNew Y nv u 9).1) 6 (nI (slP b w + 1)), (yNew Y nv u 9).2) og)) rfl ?_
              rw [show ((nI (slP b w + 1)) + (lN m).toInt32 : Int32) = nI ((slP b w + 1) + m) from by rw [lN_i, nI_add]]
              refine am_callV_r (As := [.int (nI ((slP b w + 1) + m)), .int 0]) (rest := []) ok_M_readStream rfl rfl ok_M_isWord oi_M_isWord lk_6_182 (Or.inl ⟨_, _, _, rfl, rfl, rfl⟩) rfl rfl (Nat.le_of_ble_eq_true rfl) (c_M_isWord_0 _ C (upd ((yNew Y nv u 9).1) 6 (nI (slP b w + 1)), (yNew Y nv u 9).2) og n b hT ((slP b w + 1) + m) (by omega)) ?_
              rintro v_ w_ ⟨rfl, rfl⟩ -
              refine am_eq_r (q' := (241, [some (.ref 19), some (.int (nI dc)), some (.int (nI w)), some (.int (nI nv)), some (.int 1), some (.int (nI (slP b w + 1))), some (.long (lN m)), none, some (.int (-1)), some (.int (-1)), some (.int (nI ((slP b w + 1) + m)))], [.int (bz (wdA b st_9 ((slP b w + 1) + m)))], wd C (upd ((yNew Y nv u 9).1) 6 (nI (slP b w + 1)), (yNew Y nv u 9).2) og)) rfl ?_
              refine am_steps_r ok_M_readStream 1 (q' := (bif decide ((bz (wdA b st_9 ((slP b w + 1) + m))) = 0) then 249 else 244, [some (.ref 19), some (.int (nI dc)), some (.int (nI w)), some (.int (nI nv)), some (.int 1), some (.int (nI (slP b w + 1))), some (.long (lN m)), none, some (.int (-1)), some (.int (-1)), some (.int (nI ((slP b w + 1) + m)))], [], wd C (upd ((yNew Y nv u 9).1) 6 (nI (slP b w + 1)), (yNew Y nv u 9).2) og)) rfl ?_
              refine am_bz_r (fun h_34 => ?_) (fun h_34 => ?_)
              · skip
                refine am_steps_r ok_M_readStream 6 (q' := (261, [some (.ref 19), some (.int (nI dc)), some (.int (nI w)), some (.int (nI nv)), some (.int 1), some (.int (nI (slP b w + 1))), some (.long (lN m)), none, some (.int (-1)), some (.int (-1)), some (.int (nI ((slP b w + 1) + m)))], [.int 0, .int (nI ((slP b w + 1) + m)), .ref 19], wd C (upd ((yNew Y nv u 9).1) 6 (nI (slP b w + 1)), (yNew Y nv u 9).2) og)) rfl ?_
                refine am_callV_r (As := [.int (nI ((slP b w + 1) + m)), .int 0]) (rest := []) ok_M_readStream rfl rfl ok_M_isWord oi_M_isWord lk_6_182 (Or.inl ⟨_, _, _, rfl, rfl, rfl⟩) rfl rfl (Nat.le_of_ble_eq_true rfl) (c_M_isWord_0 _ C (upd ((yNew Y nv u 9).1) 6 (nI (slP b w + 1)), (yNew Y nv u 9).2) og n b hT ((slP b w + 1) + m) (by omega)) ?_
                rintro v_ w_ ⟨rfl, rfl⟩ -
                refine am_eq_r (q' := (264, [some (.ref 19), some (.int (nI dc)), some (.int (nI w)), some (.int (nI nv)), some (.int 1), some (.int (nI (slP b w + 1))), some (.long (lN m)), none, some (.int (-1)), some (.int (-1)), some (.int (nI ((slP b w + 1) + m)))], [.int (bz (wdA b st_9 ((slP b w + 1) + m)))], wd C (upd ((yNew Y nv u 9).1) 6 (nI (slP b w + 1)), (yNew Y nv u 9).2) og)) rfl ?_
                refine am_steps_r ok_M_readStream 1 (q' := (bif decide ((bz (wdA b st_9 ((slP b w + 1) + m))) = 0) then 282 else 267, [some (.ref 19), some (.int (nI dc)), some (.int (nI w)), some (.int (nI nv)), some (.int 1), some (.int (nI (slP b w + 1))), some (.long (lN m)), none, some (.int (-1)), some (.int (-1)), some (.int (nI ((slP b w + 1) + m)))], [], wd C (upd ((yNew Y nv u 9).1) 6 (nI (slP b w + 1)), (yNew Y nv u 9).2) og)) rfl ?_
                refine am_bz_r (fun h_36 => ?_) (fun h_36 => ?_)
                · skip
                  refine am_steps_r ok_M_readStream 12 (q' := (bif decide (((nI (slP b w + 1)) + (lN m).toInt32) = (-1)) then 288 else 431, [some (.ref 19), some (.int (nI dc)), some (.int (nI w)), some (.int (nI nv)), some (.int 1), some (.int (nI (slP b w + 1))), some (.long (lN m)), none, some (.int ((nI (slP b w + 1)) + (lN m).toInt32)), some (.int ((nI ((slP b w + 1) + m)) + 9)), some (.int (nI ((slP b w + 1) + m)))], [], wd C (upd ((yNew Y nv u 9).1) 6 (nI (slP b w + 1)), (yNew Y nv u 9).2) og)) rfl ?_
                  rw [show ((nI (slP b w + 1)) + (lN m).toInt32 : Int32) = nI ((slP b w + 1) + m) from by rw [lN_i, nI_add]]
                  rw [show ((nI ((slP b w + 1) + m)) + 9 : Int32) = nI (((slP b w + 1) + m) + 9) from nI_add ((slP b w + 1) + m) 9]
                  refine am_br_r (fun h_37 => ?_) (fun h_37 => ?_)
                  · skip
                    exact absurd h_37 (nI_nm (show ((slP b w + 1) + m) < 2 ^ 31 by omega))
                  · skip
                    refine am_drop_r [4, 10] (L' := [some (.ref 19), some (.int (nI dc)), some (.int (nI w)), some (.int (nI nv)), none, some (.int (nI (slP b w + 1))), some (.long (lN m)), none, some (.int (nI ((slP b w + 1) + m))), some (.int (nI (((slP b w + 1) + m) + 9))), none]) rfl ?_
                    have hlee : leE b ((slP b w + 1) + m) = (slP b w + 1) + m := wdA_leE (by assumption)
                    refine am_eq_r (q' := (431, [some (.ref 19), some (.int (nI dc)), some (.int (nI w)), some (.int (nI nv)), none, some (.int (nI (slP b w + 1))), some (.long (lN m)), none, some (.int (nI ((slP b w + 1) + m))), some (.int (nI (leE b ((slP b w + 1) + m) + 9))), none], [], wd C (upd ((yNew Y nv u 9).1) 6 (nI (slP b w + 1)), (yNew Y nv u 9).2) og)) (by rw [hlee]) ?_
                    refine tl_M_readStream_431 (d + 2) C og n b Y hT nv u V hok dc w hdc hfr (lN m) (slP b w + 1) (by omega) (upd ((yNew Y nv u 9).1) 6 (nI (slP b w + 1)), (yNew Y nv u 9).2) no 0 (by rw [Int32.or_zero]; exact hE) m (leE b ((slP b w + 1) + m) + 9) (by omega) _ (fun vr w' hw => ?_)
                    rw [stR_told hsle.2 m5 (by rw [hlee]; assumption)]
                    exact hw
                · skip
                  first | contradiction | (exfalso; simp_all; done)
              · skip
                refine am_steps_r ok_M_readStream 2 (q' := (252, [some (.ref 19), some (.int (nI dc)), some (.int (nI w)), some (.int (nI nv)), some (.int 1), some (.int (nI (slP b w + 1))), some (.long (lN m)), none, some (.int (-1)), some (.int (-1)), some (.int (nI ((slP b w + 1) + m)))], [.int (nI ((slP b w + 1) + m)), .ref 19], wd C (upd ((yNew Y nv u 9).1) 6 (nI (slP b w + 1)), (yNew Y nv u 9).2) og)) rfl ?_
                refine am_callV_r (As := [.int (nI ((slP b w + 1) + m))]) (rest := []) ok_M_readStream rfl rfl ok_M_behindLineEnd oi_M_behindLineEnd lk_6_164 (Or.inl ⟨_, _, _, rfl, rfl, rfl⟩) rfl rfl (Nat.le_of_ble_eq_true rfl) (c_M_behindLineEnd _ C (upd ((yNew Y nv u 9).1) 6 (nI (slP b w + 1)), (yNew Y nv u 9).2) og n b hT ((slP b w + 1) + m) (by omega)) ?_
                rintro v_ w_ ⟨rfl, rfl⟩ -
                refine am_eq_r (q' := (255, [some (.ref 19), some (.int (nI dc)), some (.int (nI w)), some (.int (nI nv)), some (.int 1), some (.int (nI (slP b w + 1))), some (.long (lN m)), none, some (.int (-1)), some (.int (-1)), some (.int (nI ((slP b w + 1) + m)))], [.int (nI (leE b ((slP b w + 1) + m)))], wd C (upd ((yNew Y nv u 9).1) 6 (nI (slP b w + 1)), (yNew Y nv u 9).2) og)) rfl ?_
                refine am_steps_r ok_M_readStream 4 (q' := (261, [some (.ref 19), some (.int (nI dc)), some (.int (nI w)), some (.int (nI nv)), some (.int 1), some (.int (nI (slP b w + 1))), some (.long (lN m)), none, some (.int (-1)), some (.int (-1)), some (.int (nI (leE b ((slP b w + 1) + m))))], [.int 0, .int (nI (leE b ((slP b w + 1) + m))), .ref 19], wd C (upd ((yNew Y nv u 9).1) 6 (nI (slP b w + 1)), (yNew Y nv u 9).2) og)) rfl ?_
                refine am_callV_r (As := [.int (nI (leE b ((slP b w + 1) + m))), .int 0]) (rest := []) ok_M_readStream rfl rfl ok_M_isWord oi_M_isWord lk_6_182 (Or.inl ⟨_, _, _, rfl, rfl, rfl⟩) rfl rfl (Nat.le_of_ble_eq_true rfl) (c_M_isWord_0 _ C (upd ((yNew Y nv u 9).1) 6 (nI (slP b w + 1)), (yNew Y nv u 9).2) og n b hT (leE b ((slP b w + 1) + m)) (by omega)) ?_
                rintro v_ w_ ⟨rfl, rfl⟩ -
                refine am_eq_r (q' := (264, [some (.ref 19), some (.int (nI dc)), some (.int (nI w)), some (.int (nI nv)), some (.int 1), some (.int (nI (slP b w + 1))), some (.long (lN m)), none, some (.int (-1)), some (.int (-1)), some (.int (nI (leE b ((slP b w + 1) + m))))], [.int (bz (wdA b st_9 (leE b ((slP b w + 1) + m))))], wd C (upd ((yNew Y nv u 9).1) 6 (nI (slP b w + 1)), (yNew Y nv u 9).2) og)) rfl ?_
                refine am_steps_r ok_M_readStream 1 (q' := (bif decide ((bz (wdA b st_9 (leE b ((slP b w + 1) + m)))) = 0) then 282 else 267, [some (.ref 19), some (.int (nI dc)), some (.int (nI w)), some (.int (nI nv)), some (.int 1), some (.int (nI (slP b w + 1))), some (.long (lN m)), none, some (.int (-1)), some (.int (-1)), some (.int (nI (leE b ((slP b w + 1) + m))))], [], wd C (upd ((yNew Y nv u 9).1) 6 (nI (slP b w + 1)), (yNew Y nv u 9).2) og)) rfl ?_
                refine am_bz_r (fun h_40 => ?_) (fun h_40 => ?_)
                · skip
                  refine am_steps_r ok_M_readStream 12 (q' := (bif decide (((nI (slP b w + 1)) + (lN m).toInt32) = (-1)) then 288 else 431, [some (.ref 19), some (.int (nI dc)), some (.int (nI w)), some (.int (nI nv)), some (.int 1), some (.int (nI (slP b w + 1))), some (.long (lN m)), none, some (.int ((nI (slP b w + 1)) + (lN m).toInt32)), some (.int ((nI (leE b ((slP b w + 1) + m))) + 9)), some (.int (nI (leE b ((slP b w + 1) + m))))], [], wd C (upd ((yNew Y nv u 9).1) 6 (nI (slP b w + 1)), (yNew Y nv u 9).2) og)) rfl ?_
                  rw [show ((nI (slP b w + 1)) + (lN m).toInt32 : Int32) = nI ((slP b w + 1) + m) from by rw [lN_i, nI_add]]
                  rw [show ((nI (leE b ((slP b w + 1) + m))) + 9 : Int32) = nI ((leE b ((slP b w + 1) + m)) + 9) from nI_add (leE b ((slP b w + 1) + m)) 9]
                  refine am_br_r (fun h_41 => ?_) (fun h_41 => ?_)
                  · skip
                    exact absurd h_41 (nI_nm (show ((slP b w + 1) + m) < 2 ^ 31 by omega))
                  · skip
                    refine am_drop_r [4, 10] (L' := [some (.ref 19), some (.int (nI dc)), some (.int (nI w)), some (.int (nI nv)), none, some (.int (nI (slP b w + 1))), some (.long (lN m)), none, some (.int (nI ((slP b w + 1) + m))), some (.int (nI ((leE b ((slP b w + 1) + m)) + 9))), none]) rfl ?_
                    refine am_eq_r (q' := (431, [some (.ref 19), some (.int (nI dc)), some (.int (nI w)), some (.int (nI nv)), none, some (.int (nI (slP b w + 1))), some (.long (lN m)), none, some (.int (nI ((slP b w + 1) + m))), some (.int (nI (leE b ((slP b w + 1) + m) + 9))), none], [], wd C (upd ((yNew Y nv u 9).1) 6 (nI (slP b w + 1)), (yNew Y nv u 9).2) og)) rfl ?_
                    refine tl_M_readStream_431 (d + 2) C og n b Y hT nv u V hok dc w hdc hfr (lN m) (slP b w + 1) (by omega) (upd ((yNew Y nv u 9).1) 6 (nI (slP b w + 1)), (yNew Y nv u 9).2) no 0 (by rw [Int32.or_zero]; exact hE) m (leE b ((slP b w + 1) + m) + 9) (by omega) _ (fun vr w' hw => ?_)
                    rw [stR_told hsle.2 m5 (by assumption)]
                    exact hw
                · skip
                  refine am_steps_r ok_M_readStream 5 (q' := (292, [some (.ref 19), some (.int (nI dc)), some (.int (nI w)), some (.int (nI nv)), some (.int 1), some (.int (nI (slP b w + 1))), some (.long (lN m)), none, some (.int (-1)), some (.int (-1)), some (.int (nI (slP b w + 1)))], [], wd C (upd ((yNew Y nv u 9).1) 6 (nI (slP b w + 1)), (yNew Y nv u 9).2) og)) rfl ?_
                  refine am_drop_r [4] (L' := [some (.ref 19), some (.int (nI dc)), some (.int (nI w)), some (.int (nI nv)), none, some (.int (nI (slP b w + 1))), some (.long (lN m)), none, some (.int (-1)), some (.int (-1)), some (.int (nI (slP b w + 1)))]) rfl ?_
                  refine lp_M_readStream_292 (d + 2) C og n b Y hT nv u V hok dc w hdc hfr (lN m) (slP b w + 1) (by omega) (upd ((yNew Y nv u 9).1) 6 (nI (slP b w + 1)), (yNew Y nv u 9).2) no hE 2000 _ (slP b w + 1) (Nat.le_refl _) (by omega) (fun vr w' hw => ?_) (by omega)
                  rw [stR_srch hsle.2 (Or.inr ⟨m, m5, by first | assumption | (cases hz : wdA b st_9 (leE b ((slP b w + 1) + m)) with | false => rfl | true => have h9 := wdA_in hT.2.2.2.1 hz; have h8 := leE_ge b ((slP b w + 1) + m); omega)⟩)]
                  exact hw
        · skip
          refine am_eq_r (q' := (196, [some (.ref 19), some (.int (nI dc)), some (.int (nI w)), some (.int (nI nv)), some (.int 1), some (.int (nI (slP b w + 1))), none, none, none, none, none], [.long (tlN V E noo dc)], wd C (upd ((yNew Y nv u 9).1) 6 (nI (slP b w + 1)), (yNew Y nv u 9).2) og)) rfl ?_
          refine am_steps_r ok_M_readStream 9 (q' := (bif decide ((lg_cmp (tlN V E noo dc) 0) < 0) then 282 else 211, [some (.ref 19), some (.int (nI dc)), some (.int (nI w)), some (.int (nI nv)), some (.int 1), some (.int (nI (slP b w + 1))), some (.long (tlN V E noo dc)), none, some (.int (-1)), some (.int (-1)), none], [], wd C (upd ((yNew Y nv u 9).1) 6 (nI (slP b w + 1)), (yNew Y nv u 9).2) og)) rfl ?_
          refine am_br_r (fun h_42 => ?_) (fun h_42 => ?_)
          · skip
            refine am_steps_r ok_M_readStream 5 (q' := (292, [some (.ref 19), some (.int (nI dc)), some (.int (nI w)), some (.int (nI nv)), some (.int 1), some (.int (nI (slP b w + 1))), some (.long (tlN V E noo dc)), none, some (.int (-1)), some (.int (-1)), some (.int (nI (slP b w + 1)))], [], wd C (upd ((yNew Y nv u 9).1) 6 (nI (slP b w + 1)), (yNew Y nv u 9).2) og)) rfl ?_
            refine am_drop_r [4] (L' := [some (.ref 19), some (.int (nI dc)), some (.int (nI w)), some (.int (nI nv)), none, some (.int (nI (slP b w + 1))), some (.long (tlN V E noo dc)), none, some (.int (-1)), some (.int (-1)), some (.int (nI (slP b w + 1)))]) rfl ?_
            refine lp_M_readStream_292 (d + 2) C og n b Y hT nv u V hok dc w hdc hfr (tlN V E noo dc) (slP b w + 1) (by omega) (upd ((yNew Y nv u 9).1) 6 (nI (slP b w + 1)), (yNew Y nv u 9).2) no hE 2000 _ (slP b w + 1) (Nat.le_refl _) (by omega) (fun vr w' hw => ?_) (by omega)
            rw [stR_srch hsle.2 (Or.inl m3)]
            exact hw
          · skip
            exact absurd (cmp_lt0.mpr m1) h_42
      · skip
        refine am_steps_r ok_M_readStream 3 (q' := (103, [some (.ref 19), some (.int (nI dc)), some (.int (nI w)), some (.int (nI nv)), none, none, none, none, none, none, none], [.int (nI (w + 6)), .ref 19], wd C (upd ((yNew Y nv u 9).1) 6 (nI (w + 6)), (yNew Y nv u 9).2) og)) rfl ?_
        refine am_callV_r (As := [.int (nI (w + 6))]) (rest := []) ok_M_readStream rfl rfl ok_M_byteAt oi_M_byteAt lk_6_78 (Or.inl ⟨_, _, _, rfl, rfl, rfl⟩) rfl rfl (Nat.le_of_ble_eq_true rfl) (c_M_byteAt _ C (upd ((yNew Y nv u 9).1) 6 (nI (w + 6)), (yNew Y nv u 9).2) og n b hT (w + 6) (by omega)) ?_
        rintro v_ w_ ⟨rfl, rfl⟩ -
        refine am_eq_r (q' := (106, [some (.ref 19), some (.int (nI dc)), some (.int (nI w)), some (.int (nI nv)), none, none, none, none, none, none, none], [.int (b (w + 6))], wd C (upd ((yNew Y nv u 9).1) 6 (nI (w + 6)), (yNew Y nv u 9).2) og)) rfl ?_
        refine am_steps_r ok_M_readStream 2 (q' := (bif decide ((b (w + 6)) = 13) then 111 else 130, [some (.ref 19), some (.int (nI dc)), some (.int (nI w)), some (.int (nI nv)), none, none, none, none, none, none, none], [], wd C (upd ((yNew Y nv u 9).1) 6 (nI (w + 6)), (yNew Y nv u 9).2) og)) rfl ?_
        refine am_br_r (fun h_44 => ?_) (fun h_44 => ?_)
        · skip
          first | contradiction | (exfalso; simp_all; done)
        · skip
          refine am_steps_r ok_M_readStream 9 (q' := (145, [some (.ref 19), some (.int (nI dc)), some (.int (nI w)), some (.int (nI nv)), some (.int 0), none, none, none, none, none, none], [.int (nI (w + 6)), .ref 19, .int 2, .ref 19], wd C (upd ((yNew Y nv u 9).1) 6 (nI (w + 6)), (yNew Y nv u 9).2) og)) rfl ?_
          refine am_callV_r (As := [.int (nI (w + 6))]) (rest := [.int 2, .ref 19]) ok_M_readStream rfl rfl ok_M_byteAt oi_M_byteAt lk_6_78 (Or.inl ⟨_, _, _, rfl, rfl, rfl⟩) rfl rfl (Nat.le_of_ble_eq_true rfl) (c_M_byteAt _ C (upd ((yNew Y nv u 9).1) 6 (nI (w + 6)), (yNew Y nv u 9).2) og n b hT (w + 6) (by omega)) ?_
          rintro v_ w_ ⟨rfl, rfl⟩ -
          refine am_eq_r (q' := (148, [some (.ref 19), some (.int (nI dc)), some (.int (nI w)), some (.int (nI nv)), some (.int 0), none, none, none, none, none, none], [.int (b (w + 6)), .int 2, .ref 19], wd C (upd ((yNew Y nv u 9).1) 6 (nI (w + 6)), (yNew Y nv u 9).2) og)) rfl ?_
          refine am_steps_r ok_M_readStream 2 (q' := (bif decide ((b (w + 6)) = 13) then 153 else 162, [some (.ref 19), some (.int (nI dc)), some (.int (nI w)), some (.int (nI nv)), some (.int 0), none, none, none, none, none, none], [.int 2, .ref 19], wd C (upd ((yNew Y nv u 9).1) 6 (nI (w + 6)), (yNew Y nv u 9).2) og)) rfl ?_
          refine am_br_r (fun h_46 => ?_) (fun h_46 => ?_)
          · skip
            first | contradiction | (exfalso; simp_all; done)
          · skip
            refine am_steps_r ok_M_readStream 2 (q' := (166, [some (.ref 19), some (.int (nI dc)), some (.int (nI w)), some (.int (nI nv)), some (.int 0), none, none, none, none, none, none], [.int (nI (w + 6)), .int 2, .ref 19], wd C (upd ((yNew Y nv u 9).1) 6 (nI (w + 6)), (yNew Y nv u 9).2) og)) rfl ?_
            refine am_callV_r (As := [.int 2, .int (nI (w + 6))]) (rest := []) ok_M_readStream rfl rfl ok_M_fails oi_M_fails lk_6_139 (Or.inl ⟨_, _, _, rfl, rfl, rfl⟩) rfl rfl (Nat.le_of_ble_eq_true rfl) (c_M_fails _ C (upd ((yNew Y nv u 9).1) 6 (nI (w + 6)), (yNew Y nv u 9).2) og 2 (nI (w + 6))) ?_
            rintro v_ w_ ⟨rfl, rfl⟩ -
            refine am_eq_r (q' := (169, [some (.ref 19), some (.int (nI dc)), some (.int (nI w)), some (.int (nI nv)), some (.int 0), none, none, none, none, none, none], [.int 0], wd C (upd (upd (upd ((yNew Y nv u 9).1) 6 (nI (w + 6))) 7 2) 8 (nI (w + 6)), (yNew Y nv u 9).2) og)) rfl ?_
            refine am_steps_r ok_M_readStream 2 (q' := (172, [some (.ref 19), some (.int (nI dc)), some (.int (nI w)), some (.int (nI nv)), some (.int 0), some (.int 0), none, none, none, none, none], [.int (-1)], wd C (upd (upd (upd ((yNew Y nv u 9).1) 6 (nI (w + 6))) 7 2) 8 (nI (w + 6)), (yNew Y nv u 9).2) og)) rfl ?_
            refine am_iret_r ok_M_readStream rfl rfl rfl ?_
            have hs : slP b w = w + 6 := by
              unfold slP
              first | (rw [if_pos (by assumption)]; done) | (rw [if_neg (by assumption)]; done)
            rw [stR_bad (by rw [hs]; first | assumption | (intro z9; exact absurd ⟨by assumption, z9⟩ (by assumption))), hs, if_pos (by omega)]
            exact syQ_bad (Y := (upd (yNew Y nv u 9).1 6 (nI (w + 6)), (yNew Y nv u 9).2)) (by rw [Int32.or_zero]; exact smE_begin hI hok h3 _) 2 _
set_option maxHeartbeats 2000000 in
set_option maxRecDepth 100000 in
theorem c_M_readStream_f (d : Nat) (C : wd_C) (Y : wd_Y) (og : Nat → Int64) (n : Nat) (b : Nat → Int32) (w nv u : Nat) (V : VT) (no : Int32) (hI : ryI Y n b w nv u V no) (dc : Nat) (h3 : nv = 300) : am_Mt l D cA ad fm (d + 4) m_M_readStream [.ref 19, .int (nI dc)] (wd C Y og) (fun vr w' => vr = some (.int (-1)) ∧ w' = wd C (upd (upd Y.1 7 6) 8 (nI w), Y.2) og) := by
  have hT := hI.1
  refine am_mt ok_M_readStream (by simp [am_arg, Value.category, m_M_readStream, am_ml]) ?_
  refine am_eq_r (q' := (0, [some (.ref 19), some (.int (nI dc)), none, none, none, none, none, none, none, none, none], [], wd C Y og)) rfl ?_
  refine am_steps_r ok_M_readStream 6 (q' := (9, [some (.ref 19), some (.int (nI dc)), some (.int (Y.1 6)), none, none, none, none, none, none, none, none], [.int (Y.1 6), .int 9, .ref 19], wd C Y og)) rfl ?_
  rw [show (Y.1 6 : Int32) = nI w from hI.2.1]
  refine am_callV_r (As := [.int 9, .int (nI w)]) (rest := []) ok_M_readStream rfl rfl ok_M_begins oi_M_begins lk_6_151 (Or.inl ⟨_, _, _, rfl, rfl, rfl⟩) rfl rfl (Nat.le_of_ble_eq_true rfl) (c_M_begins_full _ C Y og nv u hI.2.2.2.2.1 h3 9 (nI w)) ?_
  rintro v_ w_ ⟨rfl, rfl⟩ -
  refine am_eq_r (q' := (12, [some (.ref 19), some (.int (nI dc)), some (.int (nI w)), none, none, none, none, none, none, none, none], [.int 0], wd C (upd (upd Y.1 7 6) 8 (nI w), Y.2) og)) rfl ?_
  refine am_steps_r ok_M_readStream 2 (q' := (16, [some (.ref 19), some (.int (nI dc)), some (.int (nI w)), none, none, none, none, none, none, none, none], [.int (-1)], wd C (upd (upd Y.1 7 6) 8 (nI w), Y.2) og)) rfl ?_
  refine am_iret_r ok_M_readStream rfl rfl rfl ?_
  exact ⟨rfl, rfl⟩
end C86
