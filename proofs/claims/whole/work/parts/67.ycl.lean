/-! the reference's loop keeps every rule of reading -/
theorem wd_u_ne {a : Nat → Nat → Int32} {k : Nat} {f : Nat → Int32} {j : Nat} (h : j ≠ k) : wd_u a k f j = a j := if_neg h
section C67
variable {l : Launch} {D : va_G} {cA : Nat → ClassId} {ad : Nat → Nat} {fm : Value}
variable (l D cA ad fm)
def ryO (d n nv0 : Nat) (b : Nat → Int32) (C : wd_C) (og : Nat → Int64) (Y : wd_Y) (d0 : Nat) (V : VT) (post : Option Value → am_W → Prop) : RR → Prop
  | .inl (c, p, no') => ∀ Y' : wd_Y, Y'.1 7 = c → Y'.1 8 = nI p → Y'.1 9 = no' → fY Y Y' nv0 → (∃ nv' u' V', nv0 ≤ nv' ∧ vsY Y' nv' u' V' ∧ vbe nv0 V V') → am_Rn l D cA ad fm (d + 7) m_M_readValue 38 post (9, [some (.ref 19), some (.int (-1)), some (.int 0)], [], wd C Y' og)
  | .inr (x, k', nv', u', V', no') => ∀ (Y' : wd_Y) (v1 : Int32), ryI Y' n b k' nv' u' V' no' → fY Y Y' nv0 → sF Y Y' d0 → vbe nv0 V V' → am_Rn l D cA ad fm (d + 7) m_M_readValue 38 post (24, [some (.ref 19), some (.int v1), some (.int 0)], [.int (nI x)], wd C Y' og)
def ryP (d n nv0 : Nat) (b : Nat → Int32) (C : wd_C) (og : Nat → Int64) (m : RM) (d0 : Nat) (s : RS) (r : RR) : Prop := match m with
  | none => ∀ (Y : wd_Y) (post : Option Value → am_W → Prop) (v0 : Int32) (k0 : Nat), k0 ≤ n → s.2.2.1 ≤ k0 → skW n b k0 = skW n b s.1 → ryI Y n b k0 s.2.1 s.2.2.1 s.2.2.2.1 s.2.2.2.2 → nv0 ≤ s.2.1 → Y.1 12 = nI d0 → d0 ≤ 8 → wantV Y n b d0 k0 s.2.1 s.2.2.2.1 → ryO l D cA ad fm d n nv0 b C og Y d0 s.2.2.2.1 post r → am_Rn l D cA ad fm (d + 7) m_M_readValue 38 post (9, [some (.ref 19), some (.int v0), some (.int 0)], [], wd C Y og)
  | some (v, fl) => ∀ (Y : wd_Y) (post : Option Value → am_W → Prop) (v0 : Int32), ryI Y n b s.1 s.2.1 s.2.2.1 s.2.2.2.1 s.2.2.2.2 → nv0 ≤ s.2.1 → nv0 ≤ v → Y.1 12 = nI (d0 + 1) → Y.2.1 11 d0 = nI v → (fl = true → Y.2.1 12 d0 = -1) → ryO l D cA ad fm d n nv0 b C og Y d0 s.2.2.2.1 post r → am_Rn l D cA ad fm (d + 7) m_M_readValue 38 post (9, [some (.ref 19), some (.int v0), some (.int 0)], [], wd C Y og)
variable {l D cA ad fm}
variable {d n nv0 : Nat} {b : Nat → Int32} {C : wd_C} {og : Nat → Int64}
theorem ryO_T {Y Y1 : wd_Y} {d0 : Nat} {V V1 : VT} {post : Option Value → am_W → Prop} {r : RR} (hf : fY Y Y1 nv0) (hs : ∀ i, i < d0 → Y1.2.1 11 i = Y.2.1 11 i ∧ Y1.2.1 12 i = Y.2.1 12 i) (hv : vbe nv0 V V1) (h : ryO l D cA ad fm d n nv0 b C og Y d0 V post r) : ryO l D cA ad fm d n nv0 b C og Y1 d0 V1 post r := by
  rcases r with ⟨c, p, no'⟩ | ⟨x, k', nv', u', V', no'⟩
  · intro Y' h7 h8 h9 hfy ⟨nv', u', V', g1, g2, g3⟩
    exact h Y' h7 h8 h9 (fY_tr hf hfy (Nat.le_refl _)) ⟨nv', u', V', g1, g2, vbe_tr hv g3 (Nat.le_refl _)⟩
  · intro Y' v1 hI hfy hsf hvb
    exact h Y' v1 hI (fY_tr hf hfy (Nat.le_refl _)) ⟨hsf.1, fun i hi => ⟨((hsf.2 i hi).1).trans (hs i hi).1, ((hsf.2 i hi).2).trans (hs i hi).2⟩⟩ (vbe_tr hv hvb (Nat.le_refl _))
/-- a step that meets a fault -/
theorem ry_bad {Y Y1 : wd_Y} {d0 nv1 u1 : Nat} {V V1 : VT} {post : Option Value → am_W → Prop} {v0 c no : Int32} {p : Nat} (h7 : Y.1 7 = 0) (hS : am_Mt l D cA ad fm (d + 6) m_M_step [.ref 19] (wd C Y og) (fun vr w' => vr = some (.int (-1)) ∧ w' = wd C Y1 og)) (f7 : Y1.1 7 = c) (f8 : Y1.1 8 = nI p) (f9 : Y1.1 9 = no) (hf : fY Y Y1 nv0) (hn : nv0 ≤ nv1) (hs : vsY Y1 nv1 u1 V1) (hb : vbe nv0 V V1) (h : ryO l D cA ad fm d n nv0 b C og Y d0 V post (.inl (c, p, no))) : am_Rn l D cA ad fm (d + 7) m_M_readValue 38 post (9, [some (.ref 19), some (.int v0), some (.int 0)], [], wd C Y og) := by
  refine rv_step d C Y og post v0 h7 _ hS (fun vr w' hq => ?_)
  obtain ⟨rfl, rfl⟩ := hq
  exact ⟨-1, Y1, rfl, rfl, rv_none d C Y1 og post v0 (h Y1 f7 f8 f9 hf ⟨nv1, u1, V1, hn, hs, hb⟩)⟩
theorem st_mt {Y : wd_Y} {Q : Option Value → am_W → Prop} (h : am_Rn l D cA ad fm (d + 6) m_M_step (wd C Y og).length Q (0, [some (.ref 19), none, none, none, none], [], wd C Y og)) : am_Mt l D cA ad fm (d + 6) m_M_step [.ref 19] (wd C Y og) Q := by
  refine am_mt ok_M_step (by simp [am_arg, Value.category, m_M_step, am_ml]) ?_
  exact am_eq_r (q' := (0, [some (.ref 19), none, none, none, none], [], wd C Y og)) rfl h
/-- a step at a value, behind what stands on the stack -/
theorem st_pre {Y : wd_Y} {k nv u : Nat} {V : VT} {no : Int32} (hI : ryI Y n b k nv u V no) (hk : k ≤ n) {d0 : Nat} (hd : Y.1 12 = nI d0) (h8 : d0 ≤ 8) (hw : wantV Y n b d0 k nv V) {Q : Option Value → am_W → Prop} (hK : am_Rn l D cA ad fm (d + 6) m_M_step (wd C Y og).length Q (250, [some (.ref 19), some (.int (b (skW n b k))), none, none, none], [], wd C (upd Y.1 6 (nI (skW n b k)), Y.2) og)) : am_Mt l D cA ad fm (d + 6) m_M_step [.ref 19] (wd C Y og) Q := by
  apply st_mt
  rcases hw with h0 | ⟨e, t, he, ht, ho, hx⟩
  · subst h0
    exact pre_M_step_0 d C Y og n b k nv u V no hI hk hd Q hK
  · subst he
    rcases hx with ⟨h6, hne⟩ | ⟨h7, q, hq, hk9⟩
    · exact pre_M_step_a d C Y og n b k nv u V no hI hk e t hd (by omega) ht ho ((hI.2.2.2.2.2 t ht).1.trans h6) hne Q hK
    · exact pre_M_step_d d C Y og n b k nv u V no hI hk e t hd (by omega) ht ho ((hI.2.2.2.2.2 t ht).1.trans h7) q hq hk9 Q hK
theorem bgV_no {c : Int32} (h : bgV c = false) : ¬ c = 91 ∧ ¬ c = 60 ∧ ¬ c = 40 ∧ ¬ c = 47 ∧ isReg c = false := by
  simp only [bgV, Bool.or_eq_false_iff, decide_eq_false_iff_not] at h
  obtain ⟨h1, h2, h3, h4, h5⟩ := h
  exact ⟨h5, h4, h3, h2, h1⟩
theorem bgV_yes {c : Int32} (h : bgV c = true) (h1 : ¬ c = 91) (h2 : ¬ c = 60) (h3 : ¬ c = 40) (h4 : ¬ c = 47) : isReg c = true := by
  simp only [bgV, Bool.or_eq_true, decide_eq_true_eq] at h
  rcases h with h | h | h | h | h
  · exact h
  · exact absurd h h4
  · exact absurd h h3
  · exact absurd h h2
  · exact absurd h h1
/-- a leaf's step -/
theorem st_leaf {Y : wd_Y} {k nv u : Nat} {V : VT} {no : Int32} (hI : ryI Y n b k nv u V no) (hk : k ≤ n) (huk : u ≤ k) (hok : vok nv V) (h3 : nv < 300) (hlt : skW n b k < n) (hbg : bgV (b (skW n b k)) = true) (hcn : ¬ isCn b (skW n b k)) : am_Rn l D cA ad fm (d + 6) m_M_step (wd C Y og).length (fun vr w' => (∃ c p, lfR n b (skW n b k) = .inl (c, p) ∧ vr = some (.int (-1)) ∧ lfQ (upd Y.1 6 (nI (skW n b k)), Y.2) C og nv u V (.inl (c, p)) (some (.int 0)) w') ∨ (∃ kd nu acc k1 bit, lfR n b (skW n b k) = .inr (kd, nu, acc, k1, bit) ∧ vr = some (.int (nI nv)) ∧ lfQ (upd Y.1 6 (nI (skW n b k)), Y.2) C og nv u V (.inr (kd, nu, acc, k1, bit)) (some (.int 1)) w')) (250, [some (.ref 19), some (.int (b (skW n b k))), none, none, none], [], wd C (upd Y.1 6 (nI (skW n b k)), Y.2) og) := by
  have h91 : ¬ b (skW n b k) = 91 := fun z => hcn (Or.inl z)
  by_cases h60 : b (skW n b k) = 60
  · exact tl_M_step_la d C Y og n b k nv u V no hI hk hok huk h3 hlt h60 (fun z => hcn (Or.inr ⟨h60, z⟩))
  · by_cases h40 : b (skW n b k) = 40
    · exact tl_M_step_lr d C Y og n b k nv u V no hI hk hok huk h3 hlt h40
    · by_cases h47 : b (skW n b k) = 47
      · exact tl_M_step_ln d C Y og n b k nv u V no hI hk hok huk h3 hlt h47
      · have hr := bgV_yes hbg h91 h60 h40 h47
        cases hp : prW n b st_3 (skW n b k) with
        | none => exact tl_M_step_wn d C Y og n b k nv u V no hI hk hok huk h3 hlt h91 h60 h40 h47 hr hp
        | some t => exact tl_M_step_wr d C Y og n b k nv u V no hI hk hok huk h3 hlt h91 h60 h40 h47 hr t hp
theorem fY_at (Y : wd_Y) (x : Int32) (m : Nat) : fY Y (upd Y.1 6 x, Y.2) m := fY_rf _ _
theorem ry_v1 : Rv1 n b (ryP l D cA ad fm d n nv0 b C og) := by
  intro d0 k nv u V no c p hg hF Y post v0 k0 hk0 huk0 hsk hI hn0 hd h8 hw hO
  obtain ⟨g1, g2, g3, g4⟩ := hg
  simp only at hsk huk0 hI hn0 hw hO
  have fin : ∀ (A : am_Mt l D cA ad fm (d + 6) m_M_step [.ref 19] (wd C Y og) (fun vr w' => vr = some (.int (-1)) ∧ w' = wd C (upd (upd (upd Y.1 6 (nI (skW n b k0))) 7 c) 8 (nI p), Y.2) og)), am_Rn l D cA ad fm (d + 7) m_M_readValue 38 post (9, [some (.ref 19), some (.int v0), some (.int 0)], [], wd C Y og) := fun A =>
    ry_bad (nv1 := nv) (u1 := u) (V1 := V) hI.2.2.1 A rfl rfl hI.2.2.2.1 (fY_rf _ _) hn0 hI.2.2.2.2 (vbe_rf _ _) hO
  rw [← hsk] at hF
  rcases hF with ⟨e1, rfl, hpn⟩ | ⟨e1, e2, e3, rfl, rfl⟩ | ⟨e1, e2, rfl, rfl⟩ | ⟨e1, e2, e3, e4, rfl, rfl⟩ | ⟨e1, e2, e3, e4, e5⟩
  · refine fin ?_
    rw [hpn]
    exact st_pre hI hk0 hd h8 hw (tl_M_step_1 d C Y og n b k0 nv u V no hI hk0 e1)
  · rcases e2 with q | ⟨q1, q2⟩
    · exact fin (st_pre hI hk0 hd h8 hw (tl_M_step_5a d C Y og n b k0 nv u V no hI hk0 e1 q d0 hd (by omega)))
    · exact fin (st_pre hI hk0 hd h8 hw (tl_M_step_5d d C Y og n b k0 nv u V no hI hk0 e1 q1 q2 d0 hd (by omega)))
  · obtain ⟨q1, q2, q3, q4, q5⟩ := bgV_no e2
    exact fin (st_pre hI hk0 hd h8 hw (tl_M_step_2 d C Y og n b k0 nv u V no hI hk0 e1 q1 q2 q3 q4 q5))
  · by_cases h91 : b (skW n b k0) = 91
    · exact fin (st_pre hI hk0 hd h8 hw (tl_M_step_6a d C Y og n b k0 nv u V no hI hk0 e1 h91 d0 hd (e3 (Or.inl h91)) e4))
    · by_cases h60 : b (skW n b k0) = 60
      · by_cases h62 : b (skW n b k0 + 1) = 60
        · exact fin (st_pre hI hk0 hd h8 hw (tl_M_step_6d d C Y og n b k0 nv u V no hI hk0 e1 h60 h62 d0 hd (e3 (Or.inr ⟨h60, h62⟩)) e4))
        · exact fin (st_pre hI hk0 hd h8 hw (tl_M_step_fa d C Y og n b k0 nv u V no hI hk0 e4 e1 h60 h62))
      · by_cases h40 : b (skW n b k0) = 40
        · exact fin (st_pre hI hk0 hd h8 hw (tl_M_step_fr d C Y og n b k0 nv u V no hI hk0 e4 e1 h40))
        · by_cases h47 : b (skW n b k0) = 47
          · exact fin (st_pre hI hk0 hd h8 hw (tl_M_step_fn d C Y og n b k0 nv u V no hI hk0 e4 e1 h47))
          · exact fin (st_pre hI hk0 hd h8 hw (tl_M_step_fw d C Y og n b k0 nv u V no hI hk0 e1 h91 h60 h40 h47 (bgV_yes e2 h91 h60 h40 h47) e4))
  · refine rv_step d C Y og post v0 hI.2.2.1 _ (st_pre hI hk0 hd h8 hw (st_leaf hI hk0 huk0 g1 e4 e1 e2 e3)) (fun vr w' hq => ?_)
    rcases hq with ⟨c', p', q1, rfl, hq⟩ | ⟨kd, nu, acc, k1, bit, q1, rfl, hq⟩
    · rw [e5] at q1
      cases q1
      obtain ⟨-, Y1, rfl, f7, f8, f9, ff, fl, nv9, V9, r1, r2, r3⟩ := hq
      refine ⟨-1, Y1, rfl, rfl, rv_none d C Y1 og post v0 (hO Y1 f7 f8 (f9.trans hI.2.2.2.1) ⟨ff.1, ff.2.1, fun w hw => ff.2.2 w (by omega)⟩ ⟨nv9, u, V9, by omega, r2, fun w hw => r3 w (by omega)⟩)⟩
    · rw [e5] at q1
      cases q1
theorem ry_v2 : Rv2 n b (ryP l D cA ad fm d n nv0 b C og) := by
  intro d0 k nv u V no kd nu acc k' bit hg h3 hlt hbg hcn hlr Y post v0 k0 hk0 huk0 hsk hI hn0 hd h8 hw hO
  obtain ⟨g1, g2, g3, g4⟩ := hg
  simp only at hsk huk0 hI hn0 hw hO
  rw [← hsk] at hlt hbg hcn hlr
  refine rv_step d C Y og post v0 hI.2.2.1 _ (st_pre hI hk0 hd h8 hw (st_leaf hI hk0 huk0 g1 h3 hlt hbg hcn)) (fun vr w' hq => ?_)
  rcases hq with ⟨c', p', q1, rfl, hq⟩ | ⟨kd', nu', acc', k1', bit', q1, rfl, hq⟩
  · rw [hlr] at q1
    cases q1
  · rw [hlr] at q1
    cases q1
    obtain ⟨-, Y1, rfl, f6, f7, f9, ff, fl, r1⟩ := hq
    refine ⟨nI nv, Y1, rfl, rfl, hO Y1 v0 ⟨tpY_f hI.1 ff, f6, f7.trans hI.2.2.1, f9.trans (congrArg (fun z => z ||| bit) hI.2.2.2.1), r1⟩ ⟨ff.1, ff.2.1, fun w hw => ff.2.2 w (by omega)⟩ ⟨fl.1.trans hd, fun i _ => ⟨by rw [fl.2.1], by rw [fl.2.2]⟩⟩ (fun w hw => vbe_leaf nv V kd nu acc w (by omega))⟩
theorem ry_v3 : Rv3 n b (ryP l D cA ad fm d n nv0 b C og) := by
  intro d0 k nv u V no r hg h3 h8 hlt hb1 h Y post v0 k0 hk0 huk0 hsk hI hn0 hd h8' hw hO
  obtain ⟨g1, g2, g3, g4⟩ := hg
  simp only at hsk huk0 hI hn0 hw hO
  rw [← hsk] at hlt hb1 h
  refine rv_step d C Y og post v0 hI.2.2.1 _ (st_pre hI hk0 hd h8' hw (tl_M_step_oa d C Y og n b k0 nv u V no hI hk0 hlt hb1 d0 hd h8 h3)) (fun vr w' hq => ?_)
  obtain ⟨rfl, rfl⟩ := hq
  obtain ⟨i1, i2, i3, i4, i5, i6⟩ := yOpn_I hI g1 h3 (nI (skW n b k0)) 6 (k := skW n b k0 + 1) (d := d0)
  refine ⟨-1, _, rfl, rfl, rv_none d C _ og post v0 (h _ post (-1) i1 (show nv0 ≤ nv + 1 by omega) hn0 i2 i3 (fun z => by cases z) (ryO_T (i6 nv0 hn0) i5 (fun w hw => vbe_leaf nv V 6 0 [] w (by omega)) hO))⟩
theorem ry_v4 : Rv4 n b (ryP l D cA ad fm d n nv0 b C og) := by
  intro d0 k nv u V no r hg h3 h8 hlt hb1 hb2 h Y post v0 k0 hk0 huk0 hsk hI hn0 hd h8' hw hO
  obtain ⟨g1, g2, g3, g4⟩ := hg
  simp only at hsk huk0 hI hn0 hw hO
  rw [← hsk] at hlt hb1 hb2 h
  refine rv_step d C Y og post v0 hI.2.2.1 _ (st_pre hI hk0 hd h8' hw (tl_M_step_od d C Y og n b k0 nv u V no hI hk0 (by omega) hb1 hb2 d0 hd h8 h3)) (fun vr w' hq => ?_)
  obtain ⟨rfl, rfl⟩ := hq
  obtain ⟨i1, i2, i3, i4, i5, i6⟩ := yOpn_I hI g1 h3 (nI (skW n b k0)) 7 (k := skW n b k0 + 2) (d := d0)
  refine ⟨-1, _, rfl, rfl, rv_none d C _ og post v0 (h _ post (-1) i1 (show nv0 ≤ nv + 1 by omega) hn0 i2 i3 (fun _ => i4) (ryO_T (i6 nv0 hn0) i5 (fun w hw => vbe_leaf nv V 7 0 [] w (by omega)) hO))⟩
theorem ry_a1 : Ra1 n b (ryP l D cA ad fm d n nv0 b C og) := by
  intro d0 v k nv u V no hg h8 hv h6 hlt hb1 Y post v0 hI hn0 hv0 hd ho hk9 hO
  obtain ⟨g1, g2, g3, g4⟩ := hg
  simp only at hI hn0 hO
  refine rv_step d C Y og post v0 hI.2.2.1 _ (c_M_step_ca d C Y og n b k nv u V no hI g4 d0 v hd h8 hv ho ((hI.2.2.2.2.2 v hv).1.trans h6) hb1) (fun vr w' hq => ?_)
  obtain ⟨rfl, rfl⟩ := hq
  exact ⟨nI v, _, rfl, rfl, hO _ v0 ⟨hI.1, rfl, hI.2.2.1, hI.2.2.2.1, hI.2.2.2.2⟩ (fY_rf _ _) ⟨rfl, fun i _ => ⟨rfl, rfl⟩⟩ (vbe_rf _ _)⟩
theorem ry_a2 : Ra2 n b (ryP l D cA ad fm d n nv0 b C og) := by
  intro d0 v k nv u V no f hg h8 hv h6 hb1 h Y post v0 hI hn0 hv0 hd ho hk9 hO
  obtain ⟨g1, g2, g3, g4⟩ := hg
  simp only at hI hn0 hO
  refine h Y post v0 k g4 g3 (skW_id hI.1.2.2.2.1 g4).symm hI hn0 hd (by omega) (Or.inr ⟨d0, v, rfl, hv, ho, Or.inl ⟨h6, hb1⟩⟩) ?_
  obtain ⟨c, p, no'⟩ := f
  exact hO
theorem ry_a3 : Ra3 n b (ryP l D cA ad fm d n nv0 b C og) := by
  intro d0 v k nv u V no x k2 nv2 u2 V2 no2 r hg h8 hv h6 hb1 h hok2 hv2 hx2 h62 hfx h2 Y post v0 hI hn0 hv0 hd ho hk9 hO
  obtain ⟨g1, g2, g3, g4⟩ := hg
  simp only at hI hn0 hO
  refine h Y post v0 k g4 g3 (skW_id hI.1.2.2.2.1 g4).symm hI hn0 hd (by omega) (Or.inr ⟨d0, v, rfl, hv, ho, Or.inl ⟨h6, hb1⟩⟩) ?_
  intro Y' v1 hI' hfy hsf hvb
  have ho' : Y'.2.1 11 d0 = nI v := ((hsf.2 d0 (by omega)).1).trans ho
  have hn2 := hI'.2.2.2.2.1.2.1
  refine rv_del d C Y' og post v1 x (by omega) _ (c_M_deliver_a _ C Y' og nv2 u2 V2 hI'.2.2.2.2 x hx2 d0 v hsf.1 h8 hv2 ho' hok2 ((hI'.2.2.2.2.2 v hv2).1.trans h62)) (fun vr w' hq => ?_)
  obtain ⟨rfl, rfl⟩ := hq
  have e1 : (yApp Y' v x (V2.2.2.1 v).getLast?).1 = Y'.1 := yApp_1 _ _ _ _
  have fr := yfr_app Y' v x (V2.2.2.1 v).getLast?
  have hfa : fY Y' (yApp Y' v x (V2.2.2.1 v).getLast?) nv0 := ⟨by rw [e1]; exact ⟨rfl, rfl, rfl, rfl, rfl, rfl, rfl, rfl⟩, ⟨fr.1 0 (by decide) (by decide) (by decide) (by decide), fr.1 1 (by decide) (by decide) (by decide) (by decide), fr.1 13 (by decide) (by decide) (by decide) (by decide), fr.1 14 (by decide) (by decide) (by decide) (by decide), fr.1 15 (by decide) (by decide) (by decide) (by decide)⟩, fun w _ => by rw [fr.1 7 (by decide) (by decide) (by decide) (by decide)]⟩
  have f11 := fr.1 11 (by decide) (by decide) (by decide) (by decide)
  have f12 := fr.1 12 (by decide) (by decide) (by decide) (by decide)
  refine ⟨_, rfl, rfl, h2 _ post (nI x) ⟨tpY_f hI'.1 hfa, by rw [e1]; exact hI'.2.1, by rw [e1]; exact hI'.2.2.1, by rw [e1]; exact hI'.2.2.2.1, vsY_part hI'.2.2.2.2 hok2 hv2 hfx⟩ (show nv0 ≤ nv2 by omega) hv0 (by rw [e1]; exact hsf.1) (by rw [f11]; exact ho') (fun z => by cases z) (ryO_T (fY_tr hfy hfa (Nat.le_refl _)) (fun i hi => ⟨by rw [f11]; exact (hsf.2 i (by omega)).1, by rw [f12]; exact (hsf.2 i (by omega)).2⟩) (vbe_kids hvb hv0 _) hO)⟩
theorem ry_d1 : Rd1 n b (ryP l D cA ad fm d n nv0 b C og) := by
  intro d0 v k nv u V no hg h8 hv h7 hlt hb1 hb2 Y post v0 hI hn0 hv0 hd ho hk9 hO
  obtain ⟨g1, g2, g3, g4⟩ := hg
  simp only at hI hn0 hO
  refine rv_step d C Y og post v0 hI.2.2.1 _ (c_M_step_cd d C Y og n b k nv u V no hI g4 d0 v hd h8 hv ho ((hI.2.2.2.2.2 v hv).1.trans h7) (hk9 rfl) hb1 hb2) (fun vr w' hq => ?_)
  obtain ⟨rfl, rfl⟩ := hq
  exact ⟨nI v, _, rfl, rfl, hO _ v0 ⟨hI.1, rfl, hI.2.2.1, hI.2.2.2.1, hI.2.2.2.2⟩ (fY_rf _ _) ⟨rfl, fun i _ => ⟨rfl, rfl⟩⟩ (vbe_rf _ _)⟩
theorem ry_d2 : Rd2 n b (ryP l D cA ad fm d n nv0 b C og) := by
  intro d0 v k nv u V no c p hg h8 hv h7 hno hF Y post v0 hI hn0 hv0 hd ho hk9 hO
  obtain ⟨g1, g2, g3, g4⟩ := hg
  simp only at hI hn0 hO
  have hkd := (hI.2.2.2.2.2 v hv).1.trans h7
  have fin : ∀ (A : am_Mt l D cA ad fm (d + 6) m_M_step [.ref 19] (wd C Y og) (fun vr w' => vr = some (.int (-1)) ∧ w' = wd C (upd (upd (upd Y.1 6 (nI (skW n b k))) 7 c) 8 (nI p), wd_u Y.2.1 12 (upd (Y.2.1 12) d0 (-1)), Y.2.2) og)), am_Rn l D cA ad fm (d + 7) m_M_readValue 38 post (9, [some (.ref 19), some (.int v0), some (.int 0)], [], wd C Y og) := fun A =>
    ry_bad (nv1 := nv) (u1 := u) (V1 := V) hI.2.2.1 A rfl rfl hI.2.2.2.1 (fY_rf _ _) hn0 (vsY_ar hI.2.2.2.2 rfl rfl (fun j h1 h2 => wd_u_ne (by omega)) rfl) (vbe_rf _ _) hO
  rcases hF with ⟨e1, rfl, hpn⟩ | ⟨e1, e2, rfl, rfl⟩ | ⟨e1, e2, e3, rfl, rfl⟩ | ⟨e1, e2, e3, e4⟩
  · refine fin ?_
    rw [hpn]
    exact c_M_step_k1 d C Y og n b k nv u V no hI g4 d0 v hd h8 hv ho hkd (hk9 rfl) hno e1
  · exact fin (c_M_step_k7 d C Y og n b k nv u V no hI g4 d0 v hd h8 hv ho hkd (hk9 rfl) hno e1 e2)
  · exact fin (c_M_step_k6 d C Y og n b k nv u V no hI g4 d0 v hd h8 hv ho hkd (hk9 rfl) hno e1 e2 e3)
  · refine rv_step d C Y og post v0 hI.2.2.1 _ (c_M_step_kn d C Y og n b k nv u V no hI g4 d0 v hd h8 hv ho hkd (hk9 rfl) hno g1 g3 e1 e2 e3) (fun vr w' hq => ?_)
    obtain ⟨rfl, Y1, ⟨c', p', q1, rfl, f7, f8, f9, ff, nv9, V9, r1, r2, r3⟩ | ⟨kd, nu, acc, k1, bit, q1, -⟩⟩ := hq
    · rw [e4] at q1
      cases q1
      refine ⟨-1, _, rfl, rfl, rv_none d C _ og post v0 (hO _ f7 f8 (f9.trans hI.2.2.2.1) ⟨ff.1, ff.2.1, fun w hw => ff.2.2 w (by omega)⟩ ⟨nv9, u, V9, by omega, vsY_ar r2 rfl rfl (fun j a c => ?_) rfl, fun w hw => r3 w (by omega)⟩)⟩
      have : j ≠ 12 := by omega
      simp [wd_u, this]
    · rw [e4] at q1
      cases q1
theorem ry_key {Y : wd_Y} {k nv u v d0 : Nat} {V : VT} {no : Int32} {post : Option Value → am_W → Prop} {v0 : Int32} (hg : gd n nv u k V) (h8 : d0 < 8) (hv : v < nv) (h7 : V.1 v = 7) (h3 : nv < 300) (hlt : skW n b k < n) (hb1 : b (skW n b k) = 47) {kd : Int32} {nu : Int64} {acc : List Int32} {k' : Nat} {bit : Int32} (hlr : lfR n b (skW n b k) = .inr (kd, nu, acc, k', bit)) (hI : ryI Y n b k nv u V no) (hn0 : nv0 ≤ nv) (hd : Y.1 12 = nI (d0 + 1)) (ho : Y.2.1 11 d0 = nI v) (hk9 : Y.2.1 12 d0 = -1) (hK : ∀ Y1 : wd_Y, ryI Y1 n b k' (nv + 1) (u + acc.length) (vtLeaf V nv kd nu acc) (no ||| bit) → fY Y Y1 nv0 → Y1.1 12 = nI (d0 + 1) → Y1.2.1 11 d0 = nI v → Y1.2.1 12 d0 = nI nv → (∀ i, i < d0 → Y1.2.1 11 i = Y.2.1 11 i ∧ Y1.2.1 12 i = Y.2.1 12 i) → am_Rn l D cA ad fm (d + 7) m_M_readValue 38 post (9, [some (.ref 19), some (.int (-1)), some (.int 0)], [], wd C Y1 og)) : am_Rn l D cA ad fm (d + 7) m_M_readValue 38 post (9, [some (.ref 19), some (.int v0), some (.int 0)], [], wd C Y og) := by
  obtain ⟨g1, g2, g3, g4⟩ := hg
  have hkd := (hI.2.2.2.2.2 v hv).1.trans h7
  have hno : ¬ (b (skW n b k) = 62 ∧ b (skW n b k + 1) = 62) := fun z => absurd (hb1.symm.trans z.1) (by decide)
  refine rv_step d C Y og post v0 hI.2.2.1 _ (c_M_step_kn d C Y og n b k nv u V no hI g4 d0 v hd h8 hv ho hkd hk9 hno g1 g3 hlt hb1 h3) (fun vr w' hq => ?_)
  obtain ⟨rfl, Y1, ⟨c', p', q1, -⟩ | ⟨kd', nu', acc', k1', bit', q1, rfl, f6, f7, f9, ff, fl, r1⟩⟩ := hq
  · rw [hlr] at q1
    cases q1
  · rw [hlr] at q1
    cases q1
    have hfy : fY Y (Y1.1, wd_u Y1.2.1 12 (upd (Y1.2.1 12) d0 (nI nv)), Y1.2.2) nv0 := ⟨ff.1, ff.2.1, fun w hw => ff.2.2 w (by omega)⟩
    refine ⟨-1, _, rfl, rfl, rv_none d C _ og post v0 (hK _ ⟨tpY_f hI.1 hfy, f6, f7.trans hI.2.2.1, f9.trans (congrArg (fun z => z ||| bit) hI.2.2.2.1), vsY_ar r1 rfl rfl (fun j a c => ?_) rfl⟩ hfy (fl.1.trans hd) ((congrFun fl.2.1 d0).trans ho) (by simp [wd_u, upd]) (fun i hi => ⟨congrFun fl.2.1 i, ?_⟩))⟩
    · have : j ≠ 12 := by omega
      simp [wd_u, this]
    · have : i ≠ d0 := by omega
      show upd (Y1.2.1 12) d0 (nI nv) i = _
      rw [upd, if_neg this]
      exact congrFun fl.2.2 i
theorem ry_d3 : Rd3 n b (ryP l D cA ad fm d n nv0 b C og) := by
  intro d0 v k nv u V no kd nu acc k' bit f hg h8 hv h7 h3 hlt hb1 hlr h Y post v0 hI hn0 hv0 hd ho hk9 hO
  simp only at hI hn0 hO
  refine ry_key hg h8 hv h7 h3 hlt hb1 hlr hI hn0 hd ho (hk9 rfl) (fun Y1 hI1 hf1 hd1 ho1 hk1 hs1 => ?_)
  have hbd := lfR_bd hI.1.2.2.2.1 hlt (by rw [hb1]; decide) (by rw [isCn, hb1]; rintro (z | z); exact absurd z (by decide); exact absurd z.1 (by decide))
  rw [hlr] at hbd
  have hsk := skW_le n b hg.2.2.2
  have hu := hg.2.2.1
  refine h Y1 post (-1) k' hbd.2.1 (show u + acc.length ≤ k' by have := hbd.2.2.1; omega) rfl hI1 (show nv0 ≤ nv + 1 by omega) hd1 (by omega) (Or.inr ⟨d0, v, rfl, show v < nv + 1 by omega, ho1, Or.inr ⟨?_, nv, show nv < nv + 1 by omega, hk1⟩⟩) ?_
  · have : v ≠ nv := by omega
    show (vtLeaf V nv kd nu acc).1 v = 7
    rw [← h7]
    simp [vtLeaf, upd, this]
  · obtain ⟨c, p, no'⟩ := f
    intro Y' e7 e8 e9 hfy ⟨nv', u', V', q1, q2, q3⟩
    exact hO Y' e7 e8 e9 (fY_tr hf1 hfy (Nat.le_refl _)) ⟨nv', u', V', q1, q2, vbe_tr (fun w hw => vbe_leaf nv V kd nu acc w (by omega)) q3 (Nat.le_refl _)⟩
theorem ry_d4 : Rd4 n b (ryP l D cA ad fm d n nv0 b C og) := by
  intro d0 v k nv u V no kd nu acc k' bit x k2 nv2 u2 V2 no2 m r hg h8 hv h7 h3 hlt hb1 hlr h hok2 hnv2 hx hx2 h72 hm hfk hfx h2 Y post v0 hI hn0 hv0 hd ho hk9 hO
  simp only at hI hn0 hO
  refine ry_key hg h8 hv h7 h3 hlt hb1 hlr hI hn0 hd ho (hk9 rfl) (fun Y1 hI1 hf1 hd1 ho1 hk1 hs1 => ?_)
  have hbd := lfR_bd hI.1.2.2.2.1 hlt (by rw [hb1]; decide) (by rw [isCn, hb1]; rintro (z | z); exact absurd z (by decide); exact absurd z.1 (by decide))
  rw [hlr] at hbd
  have hsk := skW_le n b hg.2.2.2
  have hu := hg.2.2.1
  refine h Y1 post (-1) k' hbd.2.1 (show u + acc.length ≤ k' by have := hbd.2.2.1; omega) rfl hI1 (show nv0 ≤ nv + 1 by omega) hd1 (by omega) (Or.inr ⟨d0, v, rfl, show v < nv + 1 by omega, ho1, Or.inr ⟨?_, nv, show nv < nv + 1 by omega, hk1⟩⟩) ?_
  · have : v ≠ nv := by omega
    show (vtLeaf V nv kd nu acc).1 v = 7
    rw [← h7]
    simp [vtLeaf, upd, this]
  · intro Y' v1 hI' hfy hsf hvb
    have ho' : Y'.2.1 11 d0 = nI v := ((hsf.2 d0 (by omega)).1).trans ho1
    have hk' : Y'.2.1 12 d0 = nI nv := ((hsf.2 d0 (by omega)).2).trans hk1
    have hn2 := hI'.2.2.2.2.1.2.1
    refine rv_del d C Y' og post v1 x (by omega) _ (c_M_deliver_d _ C Y' og nv2 u2 V2 hI'.2.2.2.2 x hx2 d0 v hsf.1 h8 (by omega) ho' hok2 ((hI'.2.2.2.2.2 v (by omega)).1.trans h72) nv m (by omega) hk' hm (by omega) hfk hfx) (fun vr w' hq => ?_)
    obtain ⟨rfl, Y3, rfl, j1, j2, j3⟩ := hq
    have js : ∀ j, j ≠ 9 → Y3.1 j = Y'.1 j := fun j hj => by
      rw [j2]
      cases vtFnd V2 v nv with
      | none => rfl
      | some t => simp [upd, hj]
    have j9 : Y3.1 9 = (match vtFnd V2 v nv with | none => no2 | some _ => no2 ||| 2) := by
      rw [j2]
      cases vtFnd V2 v nv with
      | none => exact hI'.2.2.2.1
      | some t => show Y'.1 9 ||| 2 = _; rw [hI'.2.2.2.1]
    have ja : ∀ j, ¬ (3 ≤ j ∧ j ≤ 6) → Y3.2.1 j = Y'.2.1 j := fun j hj => j3.1 j (by omega) (by omega) (by omega) (by omega)
    have hfa : fY Y' (Y3.1, wd_u Y3.2.1 12 (upd (Y3.2.1 12) d0 (-1)), Y3.2.2) nv0 := ⟨⟨js 0 (by decide), js 1 (by decide), js 2 (by decide), js 3 (by decide), js 13 (by decide), js 14 (by decide), js 15 (by decide), js 16 (by decide)⟩, ⟨ja 0 (by omega), ja 1 (by omega), ja 13 (by omega), ja 14 (by omega), ja 15 (by omega)⟩, fun w _ => congrFun (ja 7 (by omega)) w⟩
    obtain ⟨ks, he⟩ := vtEnt_eq V2 v nv x
    have hvb2 : vbe nv0 V (vtEnt V2 v nv x) := by
      rw [he]
      exact vbe_kids (vbe_tr (fun w hw => vbe_leaf nv V kd nu acc w (by omega)) hvb (Nat.le_refl _)) hv0 ks
    refine ⟨_, rfl, rfl, h2 _ post (nI x) ⟨tpY_f hI'.1 hfa, (js 6 (by decide)).trans hI'.2.1, (js 7 (by decide)).trans hI'.2.2.1, j9, vsY_ar j1 rfl rfl (fun j a c => ?_) rfl⟩ (show nv0 ≤ nv2 by omega) hv0 ((js 12 (by decide)).trans hsf.1) ((congrFun (ja 11 (by omega)) d0).trans ho') (fun _ => by simp [wd_u, upd]) (ryO_T (fY_tr hf1 (fY_tr hfy hfa (Nat.le_refl _)) (Nat.le_refl _)) (fun i hi => ⟨(congrFun (ja 11 (by omega)) i).trans (((hsf.2 i (by omega)).1).trans (hs1 i hi).1), ?_⟩) hvb2 hO)⟩
    · have : j ≠ 12 := by omega
      simp [wd_u, this]
    · have : i ≠ d0 := by omega
      show upd (Y3.2.1 12) d0 (-1) i = _
      rw [upd, if_neg this]
      exact (congrFun (ja 12 (by omega)) i).trans (((hsf.2 i (by omega)).2).trans (hs1 i hi).2)
/-- the reference reads what Rd says -/
theorem ry_all : RdC n b (ryP l D cA ad fm d n nv0 b C og) := ⟨ry_v1, ry_v2, ry_v3, ry_v4, ry_a1, ry_a2, ry_a3, ry_d1, ry_d2, ry_d3, ry_d4⟩
end C67
