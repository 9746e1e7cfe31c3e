/-! the reference reads a stream: the search for its end; printed by wip/gen/g85.py -/
theorem blE_a {b : Nat → Int32} {f t : Nat} (h : f + 2 ≤ t) (h1 : b (t - 2) = 13) (h2 : b (t - 1) = 10) : blE b f t = t - 2 := by
  unfold blE
  rw [if_pos ⟨h, by unfold leE; rw [if_pos ⟨h1, by rw [show t - 2 + 1 = t - 1 by omega]; exact h2⟩]; omega⟩]
theorem blE_n2 {b : Nat → Int32} {f t : Nat} (h : ¬ (f + 2 ≤ t ∧ b (t - 2) = 13 ∧ b (t - 1) = 10)) : ¬ (f + 2 ≤ t ∧ leE b (t - 2) = t) := fun z => by
  obtain ⟨z1, z2⟩ := z
  unfold leE at z2
  by_cases h1 : b (t - 2) = 13 ∧ b (t - 2 + 1) = 10
  · exact h ⟨z1, h1.1, by rw [← h1.2, show t - 2 + 1 = t - 1 by omega]⟩
  · rw [if_neg h1] at z2
    split at z2 <;> omega
theorem blE_b {b : Nat → Int32} {f t : Nat} (h : ¬ (f + 2 ≤ t ∧ b (t - 2) = 13 ∧ b (t - 1) = 10)) (h1 : f + 1 ≤ t) (h2 : b (t - 1) = 10 ∨ b (t - 1) = 13) : blE b f t = t - 1 := by
  unfold blE
  rw [if_neg (blE_n2 h), if_pos ⟨h1, by rcases h2 with e | e <;> rw [e] <;> decide⟩]
theorem blE_c {b : Nat → Int32} {f t : Nat} (h : f + 1 ≤ t → ¬ b (t - 1) = 10 ∧ ¬ b (t - 1) = 13) : blE b f t = t := by
  unfold blE
  rw [if_neg (blE_n2 (fun z => (h (by omega)).1 z.2.2)), if_neg (fun z => by have := h z.1; have h9 := z.2; simp [isLE, this] at h9)]
section C85
variable {l : Launch} {D : va_G} {cA : Nat → ClassId} {ad : Nat → Nat} {fm : Value}
set_option maxHeartbeats 2000000 in
set_option maxRecDepth 100000 in
theorem lp_M_readStream_292 (d : Nat) (C : wd_C) (og : Nat → Int64) (n : Nat) (b : Nat → Int32) (Y0 : wd_Y) (hT0 : tpY Y0 n b) (nv u : Nat) (V : VT) (hok : vok nv V) (dc w : Nat) (hdc : dc < nv) (hfr : fre nv V dc) (tl : Int64) (f : Nat) (huf : u ≤ f) (Y : wd_Y) (no : Int32) (hE : smE Y0 Y nv u V no)  : ∀ (fu : Nat) (post : Option Value → am_W → Prop) (p : Nat), (f ≤ p) → (p ≤ n) → (∀ vr w', syQ Y0 C og n b nv u V no dc (match txF b st_9 (n - p) p with | none => .inl (8, w, 0) | some e => stE b w f (blE b f e - f) (e + 9) 4) vr w' → post vr w') → n - p < fu → am_Rn l D cA ad fm (d + 2) m_M_readStream (wd C Y og).length post (292, [some (.ref 19), some (.int (nI dc)), some (.int (nI w)), some (.int (nI nv)), none, some (.int (nI f)), some (.long tl), none, some (.int (-1)), some (.int (-1)), some (.int (nI p))], [], wd C Y og) := by
  intro fu
  induction fu with
  | zero => intro post p hfp hpn hpo hfu; exact absurd hfu (Nat.not_lt_zero _)
  | succ fu ih =>
    intro post p hfp hpn hpo hfu
    have hT := tpY_f hT0 hE.2.1
    have hn := hT.2.1
    have hnv := hE.1.1.2.1
    refine am_steps_r ok_M_readStream 4 (q' := (bif decide ((Y.1 1) ≤ (nI p)) then 317 else 301, [some (.ref 19), some (.int (nI dc)), some (.int (nI w)), some (.int (nI nv)), none, some (.int (nI f)), some (.long tl), none, some (.int (-1)), some (.int (-1)), some (.int (nI p))], [], wd C Y og)) rfl ?_
    rw [show (Y.1 1 : Int32) = nI n from hT.1]
    refine am_br_r (fun h_1 => ?_) (fun h_1 => ?_)
    · skip
      have h_1 : n ≤ p := (nI_leI (show n < 2 ^ 31 by omega) (show p < 2 ^ 31 by omega)).mp h_1
      refine am_steps_r ok_M_readStream 4 (q' := (bif decide ((Y.1 1) ≤ (nI p)) then 431 else 326, [some (.ref 19), some (.int (nI dc)), some (.int (nI w)), some (.int (nI nv)), none, some (.int (nI f)), some (.long tl), none, some (.int (-1)), some (.int (-1)), some (.int (nI p))], [], wd C Y og)) rfl ?_
      rw [show (Y.1 1 : Int32) = nI n from hT.1]
      refine am_br_r (fun h_2 => ?_) (fun h_2 => ?_)
      · skip
        have h_2 : n ≤ p := (nI_leI (show n < 2 ^ 31 by omega) (show p < 2 ^ 31 by omega)).mp h_2
        refine am_drop_r [10] (L' := [some (.ref 19), some (.int (nI dc)), some (.int (nI w)), some (.int (nI nv)), none, some (.int (nI f)), some (.long tl), none, some (.int (-1)), some (.int (-1)), none]) rfl ?_
        refine tl_M_readStream_431n d C og n b Y0 hT0 nv u V hok dc w hdc hfr tl f huf Y no 0 (by rw [Int32.or_zero]; exact hE) (-1) post (fun vr w' hw => hpo vr w' ?_)
        rw [show n - p = 0 by omega, txF]
        exact hw
      · skip
        have h_2 : ¬ n ≤ p := fun z => h_2 ((nI_leI (show n < 2 ^ 31 by omega) (show p < 2 ^ 31 by omega)).mpr z)
        first | contradiction | exact absurd (show (nI p) < (nI n) by assumption) (Int32.not_lt.mpr (show (nI n) ≤ (nI p) by assumption)) | exact absurd (Int32.not_le.mp (show ¬ (nI n) ≤ (nI p) by assumption)) (show ¬ (nI p) < (nI n) by assumption) | (exfalso; omega)
    · skip
      have h_1 : ¬ n ≤ p := fun z => h_1 ((nI_leI (show n < 2 ^ 31 by omega) (show p < 2 ^ 31 by omega)).mpr z)
      refine am_steps_r ok_M_readStream 3 (q' := (305, [some (.ref 19), some (.int (nI dc)), some (.int (nI w)), some (.int (nI nv)), none, some (.int (nI f)), some (.long tl), none, some (.int (-1)), some (.int (-1)), some (.int (nI p))], [.int 0, .int (nI p), .ref 19], wd C Y og)) rfl ?_
      refine am_callV_r (As := [.int (nI p), .int 0]) (rest := []) ok_M_readStream rfl rfl ok_M_spells oi_M_spells lk_6_110 (Or.inl ⟨_, _, _, rfl, rfl, rfl⟩) rfl rfl (Nat.le_of_ble_eq_true rfl) (c_M_spells_0 _ C Y og n b hT p (by omega)) ?_
      rintro v_ w_ ⟨rfl, rfl⟩ -
      refine am_eq_r (q' := (308, [some (.ref 19), some (.int (nI dc)), some (.int (nI w)), some (.int (nI nv)), none, some (.int (nI f)), some (.long tl), none, some (.int (-1)), some (.int (-1)), some (.int (nI p))], [.int (bz (txA b st_9 p))], wd C Y og)) rfl ?_
      refine am_steps_r ok_M_readStream 1 (q' := (bif decide ((bz (txA b st_9 p)) = 0) then 311 else 317, [some (.ref 19), some (.int (nI dc)), some (.int (nI w)), some (.int (nI nv)), none, some (.int (nI f)), some (.long tl), none, some (.int (-1)), some (.int (-1)), some (.int (nI p))], [], wd C Y og)) rfl ?_
      refine am_bz_r (fun h_4 => ?_) (fun h_4 => ?_)
      · skip
        refine am_steps_r ok_M_readStream 4 (q' := (bif decide ((Y.1 1) ≤ (nI p)) then 431 else 326, [some (.ref 19), some (.int (nI dc)), some (.int (nI w)), some (.int (nI nv)), none, some (.int (nI f)), some (.long tl), none, some (.int (-1)), some (.int (-1)), some (.int (nI p))], [], wd C Y og)) rfl ?_
        rw [show (Y.1 1 : Int32) = nI n from hT.1]
        refine am_br_r (fun h_5 => ?_) (fun h_5 => ?_)
        · skip
          have h_5 : n ≤ p := (nI_leI (show n < 2 ^ 31 by omega) (show p < 2 ^ 31 by omega)).mp h_5
          first | contradiction | exact absurd (show (nI p) < (nI n) by assumption) (Int32.not_lt.mpr (show (nI n) ≤ (nI p) by assumption)) | exact absurd (Int32.not_le.mp (show ¬ (nI n) ≤ (nI p) by assumption)) (show ¬ (nI p) < (nI n) by assumption) | (exfalso; omega)
        · skip
          have h_5 : ¬ n ≤ p := fun z => h_5 ((nI_leI (show n < 2 ^ 31 by omega) (show p < 2 ^ 31 by omega)).mpr z)
          have hr1 : 1 ≤ p → Y.2.1 0 (p - 1) = b (p - 1) := fun z => hT.2.2.1 (p - 1) (by omega)
          have hr2 : 2 ≤ p → Y.2.1 0 (p - 2) = b (p - 2) := fun z => hT.2.2.1 (p - 2) (by omega)
          refine am_steps_r ok_M_readStream 15 (q' := (bif decide ((nI p) ≤ (nI f)) then 407 else 354, [some (.ref 19), some (.int (nI dc)), some (.int (nI w)), some (.int (nI nv)), none, some (.int (nI f)), some (.long tl), none, some (.int (nI p)), some (.int ((nI p) + 9)), some (.int (nI p))], [], wd C (upd Y.1 9 ((Y.1 9) ||| 4), Y.2) og)) rfl ?_
          rw [show ((nI p) + 9 : Int32) = nI (p + 9) from nI_add p 9]
          refine am_br_r (fun h_6 => ?_) (fun h_6 => ?_)
          · skip
            have h_6 : p ≤ f := (nI_leI (show p < 2 ^ 31 by omega) (show f < 2 ^ 31 by omega)).mp h_6
            refine am_steps_r ok_M_readStream 3 (q' := (bif decide ((nI p) ≤ (nI f)) then 431 else 414, [some (.ref 19), some (.int (nI dc)), some (.int (nI w)), some (.int (nI nv)), none, some (.int (nI f)), some (.long tl), none, some (.int (nI p)), some (.int (nI (p + 9))), some (.int (nI p))], [], wd C (upd Y.1 9 ((Y.1 9) ||| 4), Y.2) og)) rfl ?_
            refine am_br_r (fun h_7 => ?_) (fun h_7 => ?_)
            · skip
              have h_7 : p ≤ f := (nI_leI (show p < 2 ^ 31 by omega) (show f < 2 ^ 31 by omega)).mp h_7
              refine am_drop_r [10] (L' := [some (.ref 19), some (.int (nI dc)), some (.int (nI w)), some (.int (nI nv)), none, some (.int (nI f)), some (.long tl), none, some (.int (nI p)), some (.int (nI (p + 9))), none]) rfl ?_
              have hbl : blE b f p = p := blE_c (fun z => by first | (exfalso; omega) | exact ⟨by assumption, by assumption⟩)
              have hbb := blE_bd b f p (by omega)
              refine am_eq_r (q' := (431, [some (.ref 19), some (.int (nI dc)), some (.int (nI w)), some (.int (nI nv)), none, some (.int (nI f)), some (.long tl), none, some (.int (nI (f + (blE b f p - f)))), some (.int (nI (p + 9))), none], [], wd C (upd Y.1 9 ((Y.1 9) ||| 4), Y.2) og)) (by rw [show f + (blE b f p - f) = p by omega]) ?_
              refine tl_M_readStream_431 d C og n b Y0 hT0 nv u V hok dc w hdc hfr tl f huf (upd Y.1 9 ((Y.1 9) ||| 4), Y.2) no 4 ⟨hE.1, hE.2.1, hE.2.2.1, hE.2.2.2.1, by show Y.1 9 ||| 4 = _; rw [hE.2.2.2.2]⟩ (blE b f p - f) (p + 9) (by omega) post (fun vr w' hw => hpo vr w' ?_)
              rw [show n - p = (n - (p + 1)) + 1 by omega, txF, if_pos (by assumption)]
              exact hw
            · skip
              have h_7 : ¬ p ≤ f := fun z => h_7 ((nI_leI (show p < 2 ^ 31 by omega) (show f < 2 ^ 31 by omega)).mpr z)
              first | contradiction | exact absurd (show (nI f) < (nI p) by assumption) (Int32.not_lt.mpr (show (nI p) ≤ (nI f) by assumption)) | exact absurd (Int32.not_le.mp (show ¬ (nI p) ≤ (nI f) by assumption)) (show ¬ (nI f) < (nI p) by assumption) | (exfalso; omega)
          · skip
            have h_6 : ¬ p ≤ f := fun z => h_6 ((nI_leI (show p < 2 ^ 31 by omega) (show f < 2 ^ 31 by omega)).mpr z)
            refine am_steps_r ok_M_readStream 5 (q' := (362, [some (.ref 19), some (.int (nI dc)), some (.int (nI w)), some (.int (nI nv)), none, some (.int (nI f)), some (.long tl), none, some (.int (nI p)), some (.int (nI (p + 9))), some (.int (nI p))], [.int ((nI p) - 1), .ref 20], wd C (upd Y.1 9 ((Y.1 9) ||| 4), Y.2) og)) rfl ?_
            rw [show ((nI p) - 1 : Int32) = nI (p - 1) from pk_sub (a := p) (b := 1) (by omega)]
            refine am_iald_r ok_M_readStream rfl (w := wd C (upd Y.1 9 ((Y.1 9) ||| 4), Y.2) og) (f := Y.2.1 0) rfl rfl (pk_in (p - 1) 1600 (by omega)) ?_
            rw [nI_clamp (show (p - 1) < 2 ^ 31 by omega)]
            rw [hr1 (by omega)]
            refine am_steps_r ok_M_readStream 2 (q' := (bif decide ((b (p - 1)) = 10) then 368 else 407, [some (.ref 19), some (.int (nI dc)), some (.int (nI w)), some (.int (nI nv)), none, some (.int (nI f)), some (.long tl), none, some (.int (nI p)), some (.int (nI (p + 9))), some (.int (nI p))], [], wd C (upd Y.1 9 ((Y.1 9) ||| 4), Y.2) og)) rfl ?_
            refine am_br_r (fun h_8 => ?_) (fun h_8 => ?_)
            · skip
              refine am_steps_r ok_M_readStream 5 (q' := (bif decide (((nI p) - 1) ≤ (nI f)) then 398 else 377, [some (.ref 19), some (.int (nI dc)), some (.int (nI w)), some (.int (nI nv)), none, some (.int (nI f)), some (.long tl), none, some (.int (nI p)), some (.int (nI (p + 9))), some (.int (nI p))], [], wd C (upd Y.1 9 ((Y.1 9) ||| 4), Y.2) og)) rfl ?_
              rw [show ((nI p) - 1 : Int32) = nI (p - 1) from pk_sub (a := p) (b := 1) (by omega)]
              refine am_br_r (fun h_9 => ?_) (fun h_9 => ?_)
              · skip
                have h_9 : (p - 1) ≤ f := (nI_leI (show (p - 1) < 2 ^ 31 by omega) (show f < 2 ^ 31 by omega)).mp h_9
                refine am_steps_r ok_M_readStream 5 (q' := (431, [some (.ref 19), some (.int (nI dc)), some (.int (nI w)), some (.int (nI nv)), none, some (.int (nI f)), some (.long tl), none, some (.int ((nI p) - 1)), some (.int (nI (p + 9))), some (.int (nI p))], [], wd C (upd Y.1 9 ((Y.1 9) ||| 4), Y.2) og)) rfl ?_
                rw [show ((nI p) - 1 : Int32) = nI (p - 1) from pk_sub (a := p) (b := 1) (by omega)]
                refine am_drop_r [10] (L' := [some (.ref 19), some (.int (nI dc)), some (.int (nI w)), some (.int (nI nv)), none, some (.int (nI f)), some (.long tl), none, some (.int (nI (p - 1))), some (.int (nI (p + 9))), none]) rfl ?_
                have hbl : blE b f p = p - 1 := blE_b (fun z => by first | (exfalso; omega) | exact absurd z.2.1 (by assumption) | exact absurd ((show b (p - 1) = 13 by assumption).symm.trans z.2.2) (by decide)) (by omega) (by first | exact Or.inl (by assumption) | exact Or.inr (by assumption))
                have hbb := blE_bd b f p (by omega)
                refine am_eq_r (q' := (431, [some (.ref 19), some (.int (nI dc)), some (.int (nI w)), some (.int (nI nv)), none, some (.int (nI f)), some (.long tl), none, some (.int (nI (f + (blE b f p - f)))), some (.int (nI (p + 9))), none], [], wd C (upd Y.1 9 ((Y.1 9) ||| 4), Y.2) og)) (by rw [show f + (blE b f p - f) = p - 1 by omega]) ?_
                refine tl_M_readStream_431 d C og n b Y0 hT0 nv u V hok dc w hdc hfr tl f huf (upd Y.1 9 ((Y.1 9) ||| 4), Y.2) no 4 ⟨hE.1, hE.2.1, hE.2.2.1, hE.2.2.2.1, by show Y.1 9 ||| 4 = _; rw [hE.2.2.2.2]⟩ (blE b f p - f) (p + 9) (by omega) post (fun vr w' hw => hpo vr w' ?_)
                rw [show n - p = (n - (p + 1)) + 1 by omega, txF, if_pos (by assumption)]
                exact hw
              · skip
                have h_9 : ¬ (p - 1) ≤ f := fun z => h_9 ((nI_leI (show (p - 1) < 2 ^ 31 by omega) (show f < 2 ^ 31 by omega)).mpr z)
                refine am_steps_r ok_M_readStream 5 (q' := (385, [some (.ref 19), some (.int (nI dc)), some (.int (nI w)), some (.int (nI nv)), none, some (.int (nI f)), some (.long tl), none, some (.int (nI p)), some (.int (nI (p + 9))), some (.int (nI p))], [.int ((nI p) - 2), .ref 20], wd C (upd Y.1 9 ((Y.1 9) ||| 4), Y.2) og)) rfl ?_
                rw [show ((nI p) - 2 : Int32) = nI (p - 2) from pk_sub (a := p) (b := 2) (by omega)]
                refine am_iald_r ok_M_readStream rfl (w := wd C (upd Y.1 9 ((Y.1 9) ||| 4), Y.2) og) (f := Y.2.1 0) rfl rfl (pk_in (p - 2) 1600 (by omega)) ?_
                rw [nI_clamp (show (p - 2) < 2 ^ 31 by omega)]
                rw [hr2 (by omega)]
                refine am_steps_r ok_M_readStream 2 (q' := (bif decide ((b (p - 2)) = 13) then 391 else 398, [some (.ref 19), some (.int (nI dc)), some (.int (nI w)), some (.int (nI nv)), none, some (.int (nI f)), some (.long tl), none, some (.int (nI p)), some (.int (nI (p + 9))), some (.int (nI p))], [], wd C (upd Y.1 9 ((Y.1 9) ||| 4), Y.2) og)) rfl ?_
                refine am_br_r (fun h_10 => ?_) (fun h_10 => ?_)
                · skip
                  refine am_steps_r ok_M_readStream 6 (q' := (431, [some (.ref 19), some (.int (nI dc)), some (.int (nI w)), some (.int (nI nv)), none, some (.int (nI f)), some (.long tl), none, some (.int ((nI p) - 2)), some (.int (nI (p + 9))), some (.int (nI p))], [], wd C (upd Y.1 9 ((Y.1 9) ||| 4), Y.2) og)) rfl ?_
                  rw [show ((nI p) - 2 : Int32) = nI (p - 2) from pk_sub (a := p) (b := 2) (by omega)]
                  refine am_drop_r [10] (L' := [some (.ref 19), some (.int (nI dc)), some (.int (nI w)), some (.int (nI nv)), none, some (.int (nI f)), some (.long tl), none, some (.int (nI (p - 2))), some (.int (nI (p + 9))), none]) rfl ?_
                  have hbl : blE b f p = p - 2 := blE_a (by omega) (by assumption) (by assumption)
                  have hbb := blE_bd b f p (by omega)
                  refine am_eq_r (q' := (431, [some (.ref 19), some (.int (nI dc)), some (.int (nI w)), some (.int (nI nv)), none, some (.int (nI f)), some (.long tl), none, some (.int (nI (f + (blE b f p - f)))), some (.int (nI (p + 9))), none], [], wd C (upd Y.1 9 ((Y.1 9) ||| 4), Y.2) og)) (by rw [show f + (blE b f p - f) = p - 2 by omega]) ?_
                  refine tl_M_readStream_431 d C og n b Y0 hT0 nv u V hok dc w hdc hfr tl f huf (upd Y.1 9 ((Y.1 9) ||| 4), Y.2) no 4 ⟨hE.1, hE.2.1, hE.2.2.1, hE.2.2.2.1, by show Y.1 9 ||| 4 = _; rw [hE.2.2.2.2]⟩ (blE b f p - f) (p + 9) (by omega) post (fun vr w' hw => hpo vr w' ?_)
                  rw [show n - p = (n - (p + 1)) + 1 by omega, txF, if_pos (by assumption)]
                  exact hw
                · skip
                  refine am_steps_r ok_M_readStream 5 (q' := (431, [some (.ref 19), some (.int (nI dc)), some (.int (nI w)), some (.int (nI nv)), none, some (.int (nI f)), some (.long tl), none, some (.int ((nI p) - 1)), some (.int (nI (p + 9))), some (.int (nI p))], [], wd C (upd Y.1 9 ((Y.1 9) ||| 4), Y.2) og)) rfl ?_
                  rw [show ((nI p) - 1 : Int32) = nI (p - 1) from pk_sub (a := p) (b := 1) (by omega)]
                  refine am_drop_r [10] (L' := [some (.ref 19), some (.int (nI dc)), some (.int (nI w)), some (.int (nI nv)), none, some (.int (nI f)), some (.long tl), none, some (.int (nI (p - 1))), some (.int (nI (p + 9))), none]) rfl ?_
                  have hbl : blE b f p = p - 1 := blE_b (fun z => by first | (exfalso; omega) | exact absurd z.2.1 (by assumption) | exact absurd ((show b (p - 1) = 13 by assumption).symm.trans z.2.2) (by decide)) (by omega) (by first | exact Or.inl (by assumption) | exact Or.inr (by assumption))
                  have hbb := blE_bd b f p (by omega)
                  refine am_eq_r (q' := (431, [some (.ref 19), some (.int (nI dc)), some (.int (nI w)), some (.int (nI nv)), none, some (.int (nI f)), some (.long tl), none, some (.int (nI (f + (blE b f p - f)))), some (.int (nI (p + 9))), none], [], wd C (upd Y.1 9 ((Y.1 9) ||| 4), Y.2) og)) (by rw [show f + (blE b f p - f) = p - 1 by omega]) ?_
                  refine tl_M_readStream_431 d C og n b Y0 hT0 nv u V hok dc w hdc hfr tl f huf (upd Y.1 9 ((Y.1 9) ||| 4), Y.2) no 4 ⟨hE.1, hE.2.1, hE.2.2.1, hE.2.2.2.1, by show Y.1 9 ||| 4 = _; rw [hE.2.2.2.2]⟩ (blE b f p - f) (p + 9) (by omega) post (fun vr w' hw => hpo vr w' ?_)
                  rw [show n - p = (n - (p + 1)) + 1 by omega, txF, if_pos (by assumption)]
                  exact hw
            · skip
              refine am_steps_r ok_M_readStream 3 (q' := (bif decide ((nI p) ≤ (nI f)) then 431 else 414, [some (.ref 19), some (.int (nI dc)), some (.int (nI w)), some (.int (nI nv)), none, some (.int (nI f)), some (.long tl), none, some (.int (nI p)), some (.int (nI (p + 9))), some (.int (nI p))], [], wd C (upd Y.1 9 ((Y.1 9) ||| 4), Y.2) og)) rfl ?_
              refine am_br_r (fun h_11 => ?_) (fun h_11 => ?_)
              · skip
                have h_11 : p ≤ f := (nI_leI (show p < 2 ^ 31 by omega) (show f < 2 ^ 31 by omega)).mp h_11
                first | contradiction | exact absurd (show (nI f) < (nI p) by assumption) (Int32.not_lt.mpr (show (nI p) ≤ (nI f) by assumption)) | exact absurd (Int32.not_le.mp (show ¬ (nI p) ≤ (nI f) by assumption)) (show ¬ (nI f) < (nI p) by assumption) | (exfalso; omega)
              · skip
                have h_11 : ¬ p ≤ f := fun z => h_11 ((nI_leI (show p < 2 ^ 31 by omega) (show f < 2 ^ 31 by omega)).mpr z)
                refine am_steps_r ok_M_readStream 5 (q' := (422, [some (.ref 19), some (.int (nI dc)), some (.int (nI w)), some (.int (nI nv)), none, some (.int (nI f)), some (.long tl), none, some (.int (nI p)), some (.int (nI (p + 9))), some (.int (nI p))], [.int ((nI p) - 1), .ref 20], wd C (upd Y.1 9 ((Y.1 9) ||| 4), Y.2) og)) rfl ?_
                rw [show ((nI p) - 1 : Int32) = nI (p - 1) from pk_sub (a := p) (b := 1) (by omega)]
                refine am_iald_r ok_M_readStream rfl (w := wd C (upd Y.1 9 ((Y.1 9) ||| 4), Y.2) og) (f := Y.2.1 0) rfl rfl (pk_in (p - 1) 1600 (by omega)) ?_
                rw [nI_clamp (show (p - 1) < 2 ^ 31 by omega)]
                rw [hr1 (by omega)]
                refine am_steps_r ok_M_readStream 2 (q' := (bif decide ((b (p - 1)) = 13) then 428 else 431, [some (.ref 19), some (.int (nI dc)), some (.int (nI w)), some (.int (nI nv)), none, some (.int (nI f)), some (.long tl), none, some (.int (nI p)), some (.int (nI (p + 9))), some (.int (nI p))], [], wd C (upd Y.1 9 ((Y.1 9) ||| 4), Y.2) og)) rfl ?_
                refine am_br_r (fun h_12 => ?_) (fun h_12 => ?_)
                · skip
                  refine am_steps_r ok_M_readStream 1 (q' := (431, [some (.ref 19), some (.int (nI dc)), some (.int (nI w)), some (.int (nI nv)), none, some (.int (nI f)), some (.long tl), none, some (.int ((nI p) + (-1))), some (.int (nI (p + 9))), some (.int (nI p))], [], wd C (upd Y.1 9 ((Y.1 9) ||| 4), Y.2) og)) rfl ?_
                  rw [show ((nI p) + (-1) : Int32) = nI (p - 1) from nI_m1 (by omega)]
                  refine am_drop_r [10] (L' := [some (.ref 19), some (.int (nI dc)), some (.int (nI w)), some (.int (nI nv)), none, some (.int (nI f)), some (.long tl), none, some (.int (nI (p - 1))), some (.int (nI (p + 9))), none]) rfl ?_
                  have hbl : blE b f p = p - 1 := blE_b (fun z => by first | (exfalso; omega) | exact absurd z.2.1 (by assumption) | exact absurd ((show b (p - 1) = 13 by assumption).symm.trans z.2.2) (by decide)) (by omega) (by first | exact Or.inl (by assumption) | exact Or.inr (by assumption))
                  have hbb := blE_bd b f p (by omega)
                  refine am_eq_r (q' := (431, [some (.ref 19), some (.int (nI dc)), some (.int (nI w)), some (.int (nI nv)), none, some (.int (nI f)), some (.long tl), none, some (.int (nI (f + (blE b f p - f)))), some (.int (nI (p + 9))), none], [], wd C (upd Y.1 9 ((Y.1 9) ||| 4), Y.2) og)) (by rw [show f + (blE b f p - f) = p - 1 by omega]) ?_
                  refine tl_M_readStream_431 d C og n b Y0 hT0 nv u V hok dc w hdc hfr tl f huf (upd Y.1 9 ((Y.1 9) ||| 4), Y.2) no 4 ⟨hE.1, hE.2.1, hE.2.2.1, hE.2.2.2.1, by show Y.1 9 ||| 4 = _; rw [hE.2.2.2.2]⟩ (blE b f p - f) (p + 9) (by omega) post (fun vr w' hw => hpo vr w' ?_)
                  rw [show n - p = (n - (p + 1)) + 1 by omega, txF, if_pos (by assumption)]
                  exact hw
                · skip
                  refine am_drop_r [10] (L' := [some (.ref 19), some (.int (nI dc)), some (.int (nI w)), some (.int (nI nv)), none, some (.int (nI f)), some (.long tl), none, some (.int (nI p)), some (.int (nI (p + 9))), none]) rfl ?_
                  have hbl : blE b f p = p := blE_c (fun z => by first | (exfalso; omega) | exact ⟨by assumption, by assumption⟩)
                  have hbb := blE_bd b f p (by omega)
                  refine am_eq_r (q' := (431, [some (.ref 19), some (.int (nI dc)), some (.int (nI w)), some (.int (nI nv)), none, some (.int (nI f)), some (.long tl), none, some (.int (nI (f + (blE b f p - f)))), some (.int (nI (p + 9))), none], [], wd C (upd Y.1 9 ((Y.1 9) ||| 4), Y.2) og)) (by rw [show f + (blE b f p - f) = p by omega]) ?_
                  refine tl_M_readStream_431 d C og n b Y0 hT0 nv u V hok dc w hdc hfr tl f huf (upd Y.1 9 ((Y.1 9) ||| 4), Y.2) no 4 ⟨hE.1, hE.2.1, hE.2.2.1, hE.2.2.2.1, by show Y.1 9 ||| 4 = _; rw [hE.2.2.2.2]⟩ (blE b f p - f) (p + 9) (by omega) post (fun vr w' hw => hpo vr w' ?_)
                  rw [show n - p = (n - (p + 1)) + 1 by omega, txF, if_pos (by assumption)]
                  exact hw
      · skip
        refine am_steps_r ok_M_readStream 2 (q' := (292, [some (.ref 19), some (.int (nI dc)), some (.int (nI w)), some (.int (nI nv)), none, some (.int (nI f)), some (.long tl), none, some (.int (-1)), some (.int (-1)), some (.int ((nI p) + 1))], [], wd C Y og)) rfl ?_
        rw [show ((nI p) + 1 : Int32) = nI (p + 1) from nI_add p 1]
        refine ih post (p + 1) (by omega) (by omega) (fun vr w' hw => hpo vr w' ?_) (by omega)
        rw [show n - p = (n - (p + 1)) + 1 by omega, txF, if_neg (by rw [show txA b st_9 p = false by assumption]; decide)]
        exact hw
end C85
