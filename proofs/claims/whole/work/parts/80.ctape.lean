/-! the component reads the tape; printed by wip/gen/g80.py -/
theorem wdA0_in {n : Nat} {b : Nat → Int32} (hb : ∀ k, n ≤ k → b k = -1) {k : Nat} (hw : wdA b st_0 k = true) : k + 3 ≤ n := by
  have h1 : txA b st_0 k = true := by
    unfold wdA at hw
    exact (Bool.and_eq_true_iff.mp hw).1
  have h2 : b (k + 2) = 106 := by
    simp only [st_0, txA, Bool.and_eq_true, decide_eq_true_eq] at h1
    exact h1.2.2.1
  rcases Nat.lt_or_ge (k + 2) n with g | g
  · omega
  · rw [hb _ g] at h2
    exact absurd h2 (by decide)
def tpP (C : wd_C) (Y : wd_Y) (og : Nat → Int64) (n : Nat) (b : Nat → Int32) (s : TS) (vr : Option Value) (w' : am_W) : Prop := ∃ (s' : TS) (C' : wd_C), Tp n b s s' ∧ vr = some (.int (nI s'.2.1)) ∧ w' = wd C' Y og ∧ bsC C' n b s' ∧ wrC C C'
section C80
variable {l : Launch} {D : va_G} {cA : Nat → ClassId} {ad : Nat → Nat} {fm : Value}
set_option maxHeartbeats 2000000 in
set_option maxRecDepth 100000 in
theorem lp_R_readTape_35 (d : Nat) (Y : wd_Y) (og : Nat → Int64) (n : Nat) (b : Nat → Int32) (hfm : fm = .null ∨ fm = .ref 3000)  : ∀ (fu : Nat) (post : Option Value → am_W → Prop) (C : wd_C) (s : TS) (st : Nat), (bsC C n b s) → (st ≤ s.1) → (∀ vr w', tpP C Y og n b s vr w' → post vr w') → n - s.1 < fu → am_Rn l D cA ad fm (d + 29) m_R_readTape (wd C Y og).length post (35, [some (.ref 16), some (.int (nI st)), none], [], wd C Y og) := by
  intro fu
  induction fu with
  | zero => intro post C s st hB hst hpo hfu; exact absurd hfu (Nat.not_lt_zero _)
  | succ fu ih =>
    intro post C s st hB hst hpo hfu
    obtain ⟨k, noo, E, nv, u, V, sy⟩ := s
    have hB0 := hB
    obtain ⟨hT, ha4, hkn, hO, hoi, hS, huk, hsy, hsk, ht, hg⟩ := hB0
    simp only at ha4 hkn hO hoi hS huk hsy hsk hg hst hfu
    have hn := hT.2.1
    have hno20 := hO.2.1
    have hu2 := hS.1.2.2.2
    refine am_steps_r ok_R_readTape 3 (q' := (bif decide (1600 ≤ (nI st)) then 139 else 42, [some (.ref 16), some (.int (nI st)), none], [], wd C Y og)) rfl ?_
    refine am_br_r (fun h_1 => ?_) (fun h_1 => ?_)
    · skip
      have h_1 : 1600 ≤ st := (nI_leI (show 1600 < 2 ^ 31 by omega) (show st < 2 ^ 31 by omega)).mp h_1
      refine am_steps_r ok_R_readTape 2 (q' := (143, [some (.ref 16), some (.int (nI st)), none], [.ref 14], wd C Y og)) rfl ?_
      refine am_callV_r (As := []) (rest := []) ok_R_readTape rfl rfl ok_O_size oi_O_size lk_1_79 (Or.inl ⟨_, _, _, rfl, rfl, rfl⟩) rfl rfl (Nat.le_of_ble_eq_true rfl) (c_O_size _ C Y og noo hO.1 hO.2.1) ?_
      rintro v_ w_ ⟨rfl, rfl⟩ -
      refine am_eq_r (q' := (146, [some (.ref 16), some (.int (nI st)), none], [.int (nI noo)], wd C Y og)) rfl ?_
      refine am_iret_r ok_R_readTape rfl rfl rfl ?_
      exact hpo _ _ ⟨(k, noo, E, nv, u, V, sy), C, Tp_0 k noo E nv u V sy (by omega), rfl, rfl, hB, ⟨rfl, rfl, rfl, rfl, rfl, rfl⟩⟩
    · skip
      have h_1 : ¬ 1600 ≤ st := fun z => h_1 ((nI_leI (show 1600 < 2 ^ 31 by omega) (show st < 2 ^ 31 by omega)).mpr z)
      refine am_steps_r ok_R_readTape 4 (q' := (50, [some (.ref 16), some (.int (nI st)), none], [.ref 1, .int (C.1 4)], wd C Y og)) rfl ?_
      rw [show (C.1 4 : Int32) = nI k from hB.2.1]
      refine am_callV_r (As := []) (rest := [.int (nI k)]) ok_R_readTape rfl rfl ok_T_size oi_T_size lk_1_62 (Or.inl ⟨_, _, _, rfl, rfl, rfl⟩) rfl rfl (Nat.le_of_ble_eq_true rfl) (c_T_size _ C Y og n b hT) ?_
      rintro v_ w_ ⟨rfl, rfl⟩ -
      refine am_eq_r (q' := (53, [some (.ref 16), some (.int (nI st)), none], [.int (nI n), .int (nI k)], wd C Y og)) rfl ?_
      refine am_steps_r ok_R_readTape 1 (q' := (bif decide ((nI n) ≤ (nI k)) then 139 else 56, [some (.ref 16), some (.int (nI st)), none], [], wd C Y og)) rfl ?_
      refine am_br_r (fun h_4 => ?_) (fun h_4 => ?_)
      · skip
        have h_4 : n ≤ k := (nI_leI (show n < 2 ^ 31 by omega) (show k < 2 ^ 31 by omega)).mp h_4
        refine am_steps_r ok_R_readTape 2 (q' := (143, [some (.ref 16), some (.int (nI st)), none], [.ref 14], wd C Y og)) rfl ?_
        refine am_callV_r (As := []) (rest := []) ok_R_readTape rfl rfl ok_O_size oi_O_size lk_1_79 (Or.inl ⟨_, _, _, rfl, rfl, rfl⟩) rfl rfl (Nat.le_of_ble_eq_true rfl) (c_O_size _ C Y og noo hO.1 hO.2.1) ?_
        rintro v_ w_ ⟨rfl, rfl⟩ -
        refine am_eq_r (q' := (146, [some (.ref 16), some (.int (nI st)), none], [.int (nI noo)], wd C Y og)) rfl ?_
        refine am_iret_r ok_R_readTape rfl rfl rfl ?_
        exact hpo _ _ ⟨(k, noo, E, nv, u, V, sy), C, Tp_0 k noo E nv u V sy (by omega), rfl, rfl, hB, ⟨rfl, rfl, rfl, rfl, rfl, rfl⟩⟩
      · skip
        have h_4 : ¬ n ≤ k := fun z => h_4 ((nI_leI (show n < 2 ^ 31 by omega) (show k < 2 ^ 31 by omega)).mpr z)
        refine am_steps_r ok_R_readTape 2 (q' := (60, [some (.ref 16), some (.int (nI st)), none], [.ref 14], wd C Y og)) rfl ?_
        refine am_callV_r (As := []) (rest := []) ok_R_readTape rfl rfl ok_O_hasRoom oi_O_hasRoom lk_1_66 (Or.inl ⟨_, _, _, rfl, rfl, rfl⟩) rfl rfl (Nat.le_of_ble_eq_true rfl) (c_O_hasRoom _ C Y og noo hO.1 hO.2.1) ?_
        rintro v_ w_ ⟨rfl, rfl⟩ -
        refine am_eq_r (q' := (63, [some (.ref 16), some (.int (nI st)), none], [.int (bz (decide (noo < 20)))], wd C Y og)) rfl ?_
        refine am_steps_r ok_R_readTape 1 (q' := (bif decide ((bz (decide (noo < 20))) = 0) then 79 else 66, [some (.ref 16), some (.int (nI st)), none], [], wd C Y og)) rfl ?_
        refine am_bz_r (fun h_7 => ?_) (fun h_7 => ?_)
        · skip
          have hrm : noo < 20 := by simpa using h_7
          refine am_steps_r ok_R_readTape 4 (q' := (73, [some (.ref 16), some (.int (nI st)), none], [.ref 1000, .int (C.1 4), .ref 16], wd C Y og)) rfl ?_
          rw [show (C.1 4 : Int32) = nI k from hB.2.1]
          refine am_callV_r (As := [.int (nI k), .ref 1000]) (rest := []) ok_R_readTape rfl rfl ok_R_behindPair oi_R_behindPair lk_1_72 (Or.inl ⟨_, _, _, rfl, rfl, rfl⟩) rfl rfl (Nat.le_of_ble_eq_true rfl) (c_R_behindPair _ C Y og n b hT 0 _ _ _ st_0 rfl (by decide) hfm k (by omega)) ?_
          rintro v_ w_ (⟨hq0, rfl, rfl⟩ | ⟨e1, e2, hq1, hq2, hq3, rfl, rfl⟩) -
          · skip
            refine am_eq_r (q' := (76, [some (.ref 16), some (.int (nI st)), none], [.int (-1)], wd C Y og)) rfl ?_
            refine am_steps_r ok_R_readTape 23 (q' := (127, [some (.ref 16), some (.int (nI st)), some (.int (-1))], [.int ((C.1 4) + 1), .ref 1, .ref 16], wd (upd (upd C.1 8 ((C.1 8) + 1)) 4 ((C.1 4) + 1), C.2) Y og)) rfl ?_
            rw [show (C.1 8 : Int32) = nI sy from hsy]
            rw [show ((nI sy) + 1 : Int32) = nI (sy + 1) from nI_add sy 1]
            rw [show (C.1 4 : Int32) = nI k from hB.2.1]
            rw [show ((nI k) + 1 : Int32) = nI (k + 1) from nI_add k 1]
            have w_8 := skW_le n b (k := k + 1) (by omega)
            refine am_callV_r (As := [.int (nI (k + 1))]) (rest := [.ref 16]) ok_R_readTape rfl rfl ok_T_behindWhite oi_T_behindWhite lk_1_56 (Or.inl ⟨_, _, _, rfl, rfl, rfl⟩) rfl rfl (Nat.le_of_ble_eq_true rfl) (c_T_behindWhite _ (upd (upd C.1 8 (nI (sy + 1))) 4 (nI (k + 1)), C.2) Y og n b hT (k + 1) (by omega)) ?_
            rintro v_ w_ ⟨rfl, rfl⟩ -
            refine am_eq_r (q' := (130, [some (.ref 16), some (.int (nI st)), some (.int (-1))], [.int (nI (skW n b (k + 1))), .ref 16], wd (upd (upd C.1 8 (nI (sy + 1))) 4 (nI (k + 1)), C.2) Y og)) rfl ?_
            refine am_steps_r ok_R_readTape 3 (q' := (35, [some (.ref 16), some (.int ((nI st) + 1)), some (.int (-1))], [], wd (upd (upd C.1 8 (nI (sy + 1))) 4 (nI (skW n b (k + 1))), C.2) Y og)) rfl ?_
            rw [show ((nI st) + 1 : Int32) = nI (st + 1) from nI_add st 1]
            refine am_drop_r [2] (L' := [some (.ref 16), some (.int (nI (st + 1))), none]) rfl ?_
            have hsk2 := skW_le n b (k := k + 1) (by omega)
            refine ih post (upd (upd C.1 8 (nI (sy + 1))) 4 (nI (skW n b (k + 1))), C.2) (skW n b (k + 1), noo, E, nv, u, V, sy + 1) (st + 1) ⟨hT, rfl, hsk2.2, hO, hoi, hS, (show u ≤ skW n b (k + 1) by omega), rfl, (show sy + 1 ≤ skW n b (k + 1) by omega), ht, hg⟩ (show st + 1 ≤ skW n b (k + 1) by omega) (fun vr w' hw => hpo vr w' ?_) (show n - skW n b (k + 1) < fu by omega)
            obtain ⟨s2, C3, hT3, q1, q2, q3, q4⟩ := hw
            exact ⟨s2, C3, Tp_1 k noo E nv u V sy s2 (by omega) (fun z => by first | exact hq0 | (exfalso; simp at *; omega)) hT3, q1, q2, q3, q4⟩
          · obtain ⟨a1, a2, a3, a4, a5, a6, a7⟩ := fgW_some hT.2.2.2 (by omega) hq1
            have wq := skW_le n b a3
            obtain ⟨c1, c2, c3, c4, c5, c6, c7⟩ := fgW_some hT.2.2.2 wq.2 hq2
            have wq2 := skW_le n b c3
            have ht3 := wdA0_in hT.2.2.2 hq3
            have hpw := prW_some hq1 hq2 hq3
            have eA : fgS b (e1 - k) k 0 = obA b n k := by rw [fgS_0 (by omega) a7, obA, ← a1]
            have eG : fgS b (e2 - skW n b e1) (skW n b e1) 0 = obG b n k := by rw [fgS_0 (by omega) c7, obG, ← a1, ← c1]
            have hA9 : ∃ x, x < 1000000000 ∧ obA b n k = nI x := ⟨_, fgV_9 (by omega) a4 a7, by rw [obA, ← a1]⟩
            have hG9 : ∃ x, x < 1000000000 ∧ obG b n k = nI x := ⟨_, fgV_9 (by omega) c4 c7, by rw [obG, ← a1, ← c1]⟩
            refine am_eq_r (q' := (76, [some (.ref 16), some (.int (nI st)), none], [.int (nI (skW n b e2 + 3))], wd (upd (upd C.1 9 (fgS b (e1 - k) k 0)) 10 (fgS b (e2 - skW n b e1) (skW n b e1) 0), C.2) Y og)) rfl ?_
            refine am_steps_r ok_R_readTape 5 (q' := (bif decide ((nI (skW n b e2 + 3)) = (-1)) then 86 else 109, [some (.ref 16), some (.int (nI st)), some (.int (nI (skW n b e2 + 3)))], [], wd (upd (upd C.1 9 (fgS b (e1 - k) k 0)) 10 (fgS b (e2 - skW n b e1) (skW n b e1) 0), C.2) Y og)) rfl ?_
            refine am_br_r (fun h_10 => ?_) (fun h_10 => ?_)
            · skip
              exact absurd h_10 (nI_nm (show (skW n b e2 + 3) < 2 ^ 31 by omega))
            · skip
              refine am_steps_r ok_R_readTape 4 (q' := (115, [some (.ref 16), some (.int (nI st)), some (.int (nI (skW n b e2 + 3)))], [.int (nI (skW n b e2 + 3)), .int (C.1 4), .ref 16], wd (upd (upd C.1 9 (fgS b (e1 - k) k 0)) 10 (fgS b (e2 - skW n b e1) (skW n b e1) 0), C.2) Y og)) rfl ?_
              rw [show (C.1 4 : Int32) = nI k from hB.2.1]
              refine am_callV_r (As := [.int (nI k), .int (nI (skW n b e2 + 3))]) (rest := []) ok_R_readTape rfl rfl ok_R_readObject oi_R_readObject lk_1_76 (Or.inl ⟨_, _, _, rfl, rfl, rfl⟩) rfl rfl (Nat.le_of_ble_eq_true rfl) (c_R_readObject _ (upd (upd C.1 9 (fgS b (e1 - k) k 0)) 10 (fgS b (e2 - skW n b e1) (skW n b e1) 0), C.2) Y og n b hT ht nv u V hS hg noo E hO (obI_V hoi) (by omega) (obA b n k) (obG b n k) eA eG k (skW n b e2 + 3) (by omega) (by omega) (by omega) (by omega) hfm) ?_
              rintro v_ w_ ⟨rfl, r, C2, hR, hfx, rfl, hF⟩ -
              obtain ⟨k1, e4, hk1, hk1n, hB2, hs1, hwr⟩ := bsC_obj (C := (upd (upd C.1 9 (fgS b (e1 - k) k 0)) 10 (fgS b (e2 - skW n b e1) (skW n b e1) 0), C.2)) (show bsC (upd (upd C.1 9 (fgS b (e1 - k) k 0)) 10 (fgS b (e2 - skW n b e1) (skW n b e1) 0), C.2) n b (k, noo, E, nv, u, V, sy) from hB) (by omega) (kh := skW n b e2 + 3) (by omega) hg hF hA9 hG9
              have hT := hF.1
              refine am_eq_r (q' := (118, [some (.ref 16), some (.int (nI st)), some (.int (nI (skW n b e2 + 3)))], [], wd C2 Y og)) rfl ?_
              refine am_steps_r ok_R_readTape 5 (q' := (127, [some (.ref 16), some (.int (nI st)), some (.int (nI (skW n b e2 + 3)))], [.int (C2.1 4), .ref 1, .ref 16], wd C2 Y og)) rfl ?_
              rw [show (C2.1 4 : Int32) = nI k1 from e4]
              have w_11 := skW_le n b (k := k1) (by omega)
              refine am_callV_r (As := [.int (nI k1)]) (rest := [.ref 16]) ok_R_readTape rfl rfl ok_T_behindWhite oi_T_behindWhite lk_1_56 (Or.inl ⟨_, _, _, rfl, rfl, rfl⟩) rfl rfl (Nat.le_of_ble_eq_true rfl) (c_T_behindWhite _ C2 Y og n b hT k1 (by omega)) ?_
              rintro v_ w_ ⟨rfl, rfl⟩ -
              refine am_eq_r (q' := (130, [some (.ref 16), some (.int (nI st)), some (.int (nI (skW n b e2 + 3)))], [.int (nI (skW n b k1)), .ref 16], wd C2 Y og)) rfl ?_
              refine am_steps_r ok_R_readTape 3 (q' := (35, [some (.ref 16), some (.int ((nI st) + 1)), some (.int (nI (skW n b e2 + 3)))], [], wd (upd C2.1 4 (nI (skW n b k1)), C2.2) Y og)) rfl ?_
              rw [show ((nI st) + 1 : Int32) = nI (st + 1) from nI_add st 1]
              refine am_drop_r [2] (L' := [some (.ref 16), some (.int (nI (st + 1))), none]) rfl ?_
              refine ih post (upd C2.1 4 (nI (skW n b k1)), C2.2) _ (st + 1) hB2 (by rw [hs1]; have := skW_le n b hk1n; omega) (fun vr w' hw => hpo vr w' ?_) (by rw [hs1]; have := skW_le n b hk1n; omega)
              obtain ⟨s2, C3, hT3, q1, q2, q3, q4⟩ := hw
              exact ⟨s2, C3, Tp_2 k noo E nv u V sy s2 (skW n b e2) r (by omega) (by omega) hpw ht3 (by omega) ⟨vsC_ok hS, hS.1.2.1, by omega, ht3⟩ hoi hR hfx hT3, q1, q2, q3, wrC_tr (show wrC C C2 from hwr) q4⟩
        · skip
          have hrm : ¬ noo < 20 := by simpa using h_7
          refine am_steps_r ok_R_readTape 23 (q' := (127, [some (.ref 16), some (.int (nI st)), some (.int (-1))], [.int ((C.1 4) + 1), .ref 1, .ref 16], wd (upd (upd C.1 8 ((C.1 8) + 1)) 4 ((C.1 4) + 1), C.2) Y og)) rfl ?_
          rw [show (C.1 8 : Int32) = nI sy from hsy]
          rw [show ((nI sy) + 1 : Int32) = nI (sy + 1) from nI_add sy 1]
          rw [show (C.1 4 : Int32) = nI k from hB.2.1]
          rw [show ((nI k) + 1 : Int32) = nI (k + 1) from nI_add k 1]
          have w_13 := skW_le n b (k := k + 1) (by omega)
          refine am_callV_r (As := [.int (nI (k + 1))]) (rest := [.ref 16]) ok_R_readTape rfl rfl ok_T_behindWhite oi_T_behindWhite lk_1_56 (Or.inl ⟨_, _, _, rfl, rfl, rfl⟩) rfl rfl (Nat.le_of_ble_eq_true rfl) (c_T_behindWhite _ (upd (upd C.1 8 (nI (sy + 1))) 4 (nI (k + 1)), C.2) Y og n b hT (k + 1) (by omega)) ?_
          rintro v_ w_ ⟨rfl, rfl⟩ -
          refine am_eq_r (q' := (130, [some (.ref 16), some (.int (nI st)), some (.int (-1))], [.int (nI (skW n b (k + 1))), .ref 16], wd (upd (upd C.1 8 (nI (sy + 1))) 4 (nI (k + 1)), C.2) Y og)) rfl ?_
          refine am_steps_r ok_R_readTape 3 (q' := (35, [some (.ref 16), some (.int ((nI st) + 1)), some (.int (-1))], [], wd (upd (upd C.1 8 (nI (sy + 1))) 4 (nI (skW n b (k + 1))), C.2) Y og)) rfl ?_
          rw [show ((nI st) + 1 : Int32) = nI (st + 1) from nI_add st 1]
          refine am_drop_r [2] (L' := [some (.ref 16), some (.int (nI (st + 1))), none]) rfl ?_
          have hsk2 := skW_le n b (k := k + 1) (by omega)
          refine ih post (upd (upd C.1 8 (nI (sy + 1))) 4 (nI (skW n b (k + 1))), C.2) (skW n b (k + 1), noo, E, nv, u, V, sy + 1) (st + 1) ⟨hT, rfl, hsk2.2, hO, hoi, hS, (show u ≤ skW n b (k + 1) by omega), rfl, (show sy + 1 ≤ skW n b (k + 1) by omega), ht, hg⟩ (show st + 1 ≤ skW n b (k + 1) by omega) (fun vr w' hw => hpo vr w' ?_) (show n - skW n b (k + 1) < fu by omega)
          obtain ⟨s2, C3, hT3, q1, q2, q3, q4⟩ := hw
          exact ⟨s2, C3, Tp_1 k noo E nv u V sy s2 (by omega) (fun z => by first | exact hq0 | (exfalso; simp at *; omega)) hT3, q1, q2, q3, q4⟩
set_option maxHeartbeats 2000000 in
set_option maxRecDepth 100000 in
theorem c_R_readTape (d : Nat) (C : wd_C) (Y : wd_Y) (og : Nat → Int64) (n : Nat) (b : Nat → Int32) (hT : tpC C n b) (nv u : Nat) (hV : vsz C nv u) (hfm : fm = .null ∨ fm = .ref 3000) (E0 : Nat → Nat → Int32) (V0 : VT) : am_Mt l D cA ad fm (d + 29) m_R_readTape [.ref 16] (wd C Y og) (tpP C Y og n b (skW n b 0, 0, E0, 0, 0, V0, 0)) := by
  have hn := hT.2.1
  refine am_mt ok_R_readTape (by simp [am_arg, Value.category, m_R_readTape, am_ml]) ?_
  refine am_eq_r (q' := (0, [some (.ref 16), none, none], [], wd C Y og)) rfl ?_
  refine am_steps_r ok_R_readTape 4 (q' := (6, [some (.ref 16), none, none], [.int 0, .int 0, .ref 3], wd C Y og)) rfl ?_
  refine am_callV_r (As := [.int 0, .int 0]) (rest := []) ok_R_readTape rfl rfl ok_V_cutBack oi_V_cutBack lk_1_45 (Or.inl ⟨_, _, _, rfl, rfl, rfl⟩) rfl rfl (Nat.le_of_ble_eq_true rfl) (c_V_cutBack _ C Y og nv u hV 0 0 (Nat.zero_le _) (Nat.zero_le _)) ?_
  rintro v_ w_ ⟨rfl, rfl⟩ -
  refine am_eq_r (q' := (9, [some (.ref 16), none, none], [], wd (upd (upd C.1 1 (nI 0)) 2 (nI 0), C.2) Y og)) rfl ?_
  refine am_steps_r ok_R_readTape 2 (q' := (13, [some (.ref 16), none, none], [.ref 14], wd (upd (upd C.1 1 (nI 0)) 2 (nI 0), C.2) Y og)) rfl ?_
  refine am_callV_r (As := []) (rest := []) ok_R_readTape rfl rfl ok_O_clear oi_O_clear lk_1_51 (Or.inl ⟨_, _, _, rfl, rfl, rfl⟩) rfl rfl (Nat.le_of_ble_eq_true rfl) (c_O_clear _ (upd (upd C.1 1 (nI 0)) 2 (nI 0), C.2) Y og) ?_
  rintro v_ w_ ⟨rfl, rfl⟩ -
  refine am_eq_r (q' := (16, [some (.ref 16), none, none], [], wd (upd ((upd (upd C.1 1 (nI 0)) 2 (nI 0), C.2).1) 3 0, (upd (upd C.1 1 (nI 0)) 2 (nI 0), C.2).2) Y og)) rfl ?_
  refine am_steps_r ok_R_readTape 7 (q' := (27, [some (.ref 16), none, none], [.int 0, .ref 1, .ref 16], wd (upd (upd ((upd (upd C.1 1 (nI 0)) 2 (nI 0), C.2).1) 3 0) 8 0, (upd (upd C.1 1 (nI 0)) 2 (nI 0), C.2).2) Y og)) rfl ?_
  have w_3 := skW_le n b (k := 0) (by omega)
  refine am_callV_r (As := [.int 0]) (rest := [.ref 16]) ok_R_readTape rfl rfl ok_T_behindWhite oi_T_behindWhite lk_1_56 (Or.inl ⟨_, _, _, rfl, rfl, rfl⟩) rfl rfl (Nat.le_of_ble_eq_true rfl) (c_T_behindWhite _ (upd (upd ((upd (upd C.1 1 (nI 0)) 2 (nI 0), C.2).1) 3 0) 8 0, (upd (upd C.1 1 (nI 0)) 2 (nI 0), C.2).2) Y og n b hT 0 (by omega)) ?_
  rintro v_ w_ ⟨rfl, rfl⟩ -
  refine am_eq_r (q' := (30, [some (.ref 16), none, none], [.int (nI (skW n b 0)), .ref 16], wd (upd (upd ((upd (upd C.1 1 (nI 0)) 2 (nI 0), C.2).1) 3 0) 8 0, (upd (upd C.1 1 (nI 0)) 2 (nI 0), C.2).2) Y og)) rfl ?_
  refine am_steps_r ok_R_readTape 3 (q' := (35, [some (.ref 16), some (.int 0), none], [], wd (upd (upd (upd ((upd (upd C.1 1 (nI 0)) 2 (nI 0), C.2).1) 3 0) 8 0) 4 (nI (skW n b 0)), (upd (upd C.1 1 (nI 0)) 2 (nI 0), C.2).2) Y og)) rfl ?_
  refine am_eq_r (q' := (35, [some (.ref 16), some (.int (nI 0)), none], [], wd (upd (upd (upd ((upd (upd C.1 1 (nI 0)) 2 (nI 0), C.2).1) 3 0) 8 0) 4 (nI (skW n b 0)), (upd (upd C.1 1 (nI 0)) 2 (nI 0), C.2).2) Y og)) rfl ?_
  have hsk := skW_le n b (Nat.zero_le n)
  exact lp_R_readTape_35 d Y og n b hfm 2000 (tpP C Y og n b (skW n b 0, 0, E0, 0, 0, V0, 0)) (upd (upd (upd ((upd (upd C.1 1 (nI 0)) 2 (nI 0), C.2).1) 3 0) 8 0) 4 (nI (skW n b 0)), (upd (upd C.1 1 (nI 0)) 2 (nI 0), C.2).2) (skW n b 0, 0, E0, 0, 0, V0, 0) 0 ⟨hT, rfl, hsk.2, ⟨rfl, Nat.zero_le _, fun i hi => absurd hi (Nat.not_lt_zero _)⟩, fun i hi => absurd hi (Nat.not_lt_zero _), ⟨⟨rfl, Nat.zero_le _, rfl, Nat.zero_le _⟩, fun v hv => absurd hv (Nat.not_lt_zero _), fun v v2 c hv => absurd hv (Nat.not_lt_zero _)⟩, Nat.zero_le _, rfl, Nat.zero_le _, fun _ => 0, fun v hv => absurd hv (Nat.not_lt_zero _)⟩ (Nat.zero_le _) (fun vr w' hw => hw) (show n - skW n b 0 < 2000 by omega)
end C80
