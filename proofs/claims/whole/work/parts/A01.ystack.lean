/-! the reference puts values: its stack; printed by wip/gen/g101.py -/
/-- the run from the loop's head on: v open at depth q, its parts ks still to come -/
def yPK (l : Launch) (D : va_G) (cA : Nat → ClassId) (ad : Nat → Nat) (fm : Value) (d : Nat) (C : wd_C) (Y : wd_Y) (og : Nat → Int64) (rd : Nat) (A : Nat → Int32) (nv : Nat) (V : VT) (ht : Nat → Nat) (v0 : Nat) (bt : Int32) (q0 : Nat) (f : Nat) : Prop :=
  ∀ (ks : List Nat) (v q : Nat) (Yb Y1 : wd_Y) (bf : Nat) (L : List Int32) (post : Option Value → am_W → Prop), q + f = 8 → q0 ≤ q → v < nv → (V.1 v = 6 ∨ V.1 v = 7) → (∀ a ∈ ks, a < nv ∧ ht a + q + 1 ≤ 8) → bY Y Yb → Yb.1 12 = nI (q + 1) → Yb.2.1 11 q = nI v → lkd (Y.2.1 5) (Yb.2.1 15 q) ks → bf ≤ 5 → Y1 = yE Yb A (bf, L) → (ks.foldl (wVl rd V f) (bf, L)).2.length + 1000 < 2147483648 →
  (∀ (Yb' Y2 : wd_Y), bY Y Yb' → Yb'.1 12 = nI q → (∀ j, j < q → Yb'.2.1 11 j = Yb.2.1 11 j ∧ Yb'.2.1 15 j = Yb.2.1 15 j) → Y2 = yE Yb' A (wPc rd (ks.foldl (wVl rd V f) (bf, L)) 5 (clT V v)) → am_Rn l D cA ad fm (d + 5) m_M_putValue (wd C Y og).length post (38, [some (.ref 19), some (.int (nI v0)), some (.int bt), none], [], wd C Y2 og)) →
  am_Rn l D cA ad fm (d + 5) m_M_putValue (wd C Y og).length post (38, [some (.ref 19), some (.int (nI v0)), some (.int bt), none], [], wd C Y1 og)
theorem wPc_bf (rd : Nat) (st : WS) (s : Nat) (t : List Int32) : (wPc rd st s t).1 = s := rfl
theorem wPc_len (rd bf : Nat) (L : List Int32) (s : Nat) (t : List Int32) : (wPc rd (bf, L) s t).2.length ≤ L.length + 1 + t.length := by
  have := gpL_1 rd bf s
  show (L ++ gpL rd bf s ++ t).length ≤ _
  simp only [List.length_append]
  omega
theorem updAt {f : Nat → Int32} {a : Nat} {x : Int32} : upd f a x a = x := by simp [upd]
theorem updNe {f : Nat → Int32} {a j : Nat} {x : Int32} (h : j ≠ a) : upd f a x j = f j := by simp [upd, h]
theorem yOp_o {Yb : wd_Y} {q v : Nat} {x : Int32} : (yOp Yb q v x).2.1 11 q = nI v := updAt
theorem yOp_n {Yb : wd_Y} {q v : Nat} {x : Int32} : (yOp Yb q v x).2.1 15 q = x := updAt
theorem yOp_lo {Yb : wd_Y} {q v j : Nat} {x : Int32} (h : j < q) : (yOp Yb q v x).2.1 11 j = Yb.2.1 11 j ∧ (yOp Yb q v x).2.1 15 j = Yb.2.1 15 j := ⟨updNe (by omega), updNe (by omega)⟩
theorem yNc_lo {Yb : wd_Y} {q j : Nat} {x : Int32} (h : j ≠ q) : (yNc Yb q x).2.1 11 j = Yb.2.1 11 j ∧ (yNc Yb q x).2.1 15 j = Yb.2.1 15 j := ⟨rfl, updNe h⟩
theorem yNc_at {Yb : wd_Y} {q : Nat} {x : Int32} : (yNc Yb q x).2.1 15 q = x := updAt
section C101
variable {l : Launch} {D : va_G} {cA : Nat → ClassId} {ad : Nat → Nat} {fm : Value}
set_option maxHeartbeats 4000000 in
set_option maxRecDepth 100000 in
theorem y_kids_p (d : Nat) (C : wd_C) (Y : wd_Y) (og : Nat → Int64) (rd : Nat) (A : Nat → Int32) (hr : Y.1 16 = nI rd) (hrd : rd ≤ 1) (nv u : Nat) (V : VT) (hY : vsY Y nv u V) (hby : ∀ w, w < nv → ∀ k, k < (V.2.2.2 w).length → ∃ j, j < 256 ∧ (V.2.2.2 w).getD k 0 = nI j) (ht : Nat → Nat) (hg : hG nv V ht) (hok : vok nv V) (v0 : Nat) (f : Nat) (IHf : ∀ f1, f = f1 + 1 → yPK l D cA ad fm d C Y og rd A nv V ht v0 (-1) 0 f1) : yPK l D cA ad fm d C Y og rd A nv V ht v0 (-1) 0 f := by
  intro ks
  induction ks with
  | nil =>
    intro v q Yb Y1 bf L post hqf hq0 hv h67 hks hB hd ho hlk hbf h1 hb K
    have hrb : Yb.1 16 = nI rd := (hB.1 16 (by decide)).trans hr
    have hYb := bY_vs hB hY
    have hnv := hY.1.2.1
    have hnc : Yb.2.1 15 q = -1 := hlk
    have hbL : L.length + 1000 < 2147483648 := hb
    have hv0 := hv
    refine am_steps_r ok_M_putValue 3 (q' := (bif decide ((Y1.1 12) ≤ 0) then 181 else 45, [some (.ref 19), some (.int (nI v0)), some (.int (-1)), none], [], wd C Y1 og)) rfl ?_
    rw [show (Y1.1 12 : Int32) = nI (q + 1) from ((yE_12 h1).trans hd)]
    refine am_br_r (fun h_1 => ?_) (fun h_1 => ?_)
    · skip
      have h_1 : (q + 1) ≤ 0 := (nI_leI (show (q + 1) < 2 ^ 31 by omega) (show 0 < 2 ^ 31 by omega)).mp h_1
      exact absurd h_1 (by omega)
    · skip
      have h_1 : ¬ (q + 1) ≤ 0 := fun z => h_1 ((nI_leI (show (q + 1) < 2 ^ 31 by omega) (show 0 < 2 ^ 31 by omega)).mpr z)
      refine am_steps_r ok_M_putValue 6 (q' := (55, [some (.ref 19), some (.int (nI v0)), some (.int (-1)), none], [.int ((Y1.1 12) - 1), .ref 36], wd C Y1 og)) rfl ?_
      rw [show (Y1.1 12 : Int32) = nI (q + 1) from ((yE_12 h1).trans hd)]
      rw [show ((nI (q + 1)) - 1 : Int32) = nI q from pk_sub (a := q + 1) (b := 1) (by omega)]
      refine am_iald_r ok_M_putValue rfl (w := wd C Y1 og) (f := Y1.2.1 15) rfl rfl (pk_in q 10 (by omega)) ?_
      rw [nI_clamp (show q < 2 ^ 31 by omega)]
      rw [show (Y1.2.1 15 q) = (-1) from (congrFun (ya h1 (by decide)) q).trans hnc]
      refine am_steps_r ok_M_putValue 6 (q' := (64, [some (.ref 19), some (.int (nI v0)), some (.int (-1)), some (.int (-1))], [.int (-1), .ref 19], wd C Y1 og)) rfl ?_
      refine am_callV_r (As := [.int (-1)]) (rest := []) ok_M_putValue rfl rfl ok_M_closesOut oi_M_closesOut lk_6_316 (Or.inl ⟨_, _, _, rfl, rfl, rfl⟩) rfl rfl (Nat.le_of_ble_eq_true rfl) (c_M_closesOut_p _ C Yb og rd A hrb hrd bf L (by omega) Y1 h1 nv u V hYb v q hv (by omega) h67 hd ho (by omega) ) ?_
      rintro v_ w_ ⟨rfl, Y_2, rfl, hY_3⟩ -
      refine am_eq_r (q' := (67, [some (.ref 19), some (.int (nI v0)), some (.int (-1)), some (.int (-1))], [], wd C Y_2 og)) rfl ?_
      refine am_steps_r ok_M_putValue 2 (q' := (38, [some (.ref 19), some (.int (nI v0)), some (.int (-1)), some (.int (-1))], [], wd C Y_2 og)) rfl ?_
      refine am_drop_r [3] (L' := [some (.ref 19), some (.int (nI v0)), some (.int (-1)), none]) rfl ?_
      exact K (yDp Yb q) Y_2 (bY_dp hB q) rfl (fun j hj => ⟨rfl, rfl⟩) hY_3
  | cons c r ih =>
    intro v q Yb Y1 bf L post hqf hq0 hv h67 hks hB hd ho hlk hbf h1 hb K
    have hrb : Yb.1 16 = nI rd := (hB.1 16 (by decide)).trans hr
    have hYb := bY_vs hB hY
    have hnv := hY.1.2.1
    obtain ⟨hnc, hlk2⟩ := hlk
    obtain ⟨hc1, hc2⟩ := hks c List.mem_cons_self
    have hb2 : (r.foldl (wVl rd V f) (wVl rd V f (bf, L) c)).2.length + 1000 < 2147483648 := hb
    have hb3 : (wVl rd V f (bf, L) c).2.length + 1000 < 2147483648 := by have := fold_le (F := wVl rd V f) (fun st v => wVl_le f st v) r (wVl rd V f (bf, L) c); omega
    have hbL : L.length + 1000 < 2147483648 := by have := wVl_le (rd := rd) (V := V) f (bf, L) c; have h9 : (bf, L).2.length = L.length := rfl; omega
    have hc9 : ¬ V.1 c = 9 := fun z => by have := ((hg c hc1).2.2.2.1 z).1; omega
    refine am_steps_r ok_M_putValue 3 (q' := (bif decide ((Y1.1 12) ≤ 0) then 181 else 45, [some (.ref 19), some (.int (nI v0)), some (.int (-1)), none], [], wd C Y1 og)) rfl ?_
    rw [show (Y1.1 12 : Int32) = nI (q + 1) from ((yE_12 h1).trans hd)]
    refine am_br_r (fun h_1 => ?_) (fun h_1 => ?_)
    · skip
      have h_1 : (q + 1) ≤ 0 := (nI_leI (show (q + 1) < 2 ^ 31 by omega) (show 0 < 2 ^ 31 by omega)).mp h_1
      exact absurd h_1 (by omega)
    · skip
      have h_1 : ¬ (q + 1) ≤ 0 := fun z => h_1 ((nI_leI (show (q + 1) < 2 ^ 31 by omega) (show 0 < 2 ^ 31 by omega)).mpr z)
      refine am_steps_r ok_M_putValue 6 (q' := (55, [some (.ref 19), some (.int (nI v0)), some (.int (-1)), none], [.int ((Y1.1 12) - 1), .ref 36], wd C Y1 og)) rfl ?_
      rw [show (Y1.1 12 : Int32) = nI (q + 1) from ((yE_12 h1).trans hd)]
      rw [show ((nI (q + 1)) - 1 : Int32) = nI q from pk_sub (a := q + 1) (b := 1) (by omega)]
      refine am_iald_r ok_M_putValue rfl (w := wd C Y1 og) (f := Y1.2.1 15) rfl rfl (pk_in q 10 (by omega)) ?_
      rw [nI_clamp (show q < 2 ^ 31 by omega)]
      rw [show (Y1.2.1 15 q) = (nI c) from (congrFun (ya h1 (by decide)) q).trans hnc]
      refine am_steps_r ok_M_putValue 4 (q' := (bif decide ((nI c) = (-1)) then 62 else 70, [some (.ref 19), some (.int (nI v0)), some (.int (-1)), some (.int (nI c))], [], wd C Y1 og)) rfl ?_
      refine am_br_r (fun h_2 => ?_) (fun h_2 => ?_)
      · skip
        exact absurd h_2 (nI_nm (show c < 2 ^ 31 by omega))
      · skip
        refine am_steps_r ok_M_putValue 9 (q' := (85, [some (.ref 19), some (.int (nI v0)), some (.int (-1)), some (.int (nI c))], [.int (nI c), .ref 26, .int ((Y1.1 12) - 1), .ref 36], wd C Y1 og)) rfl ?_
        rw [show (Y1.1 12 : Int32) = nI (q + 1) from ((yE_12 h1).trans hd)]
        rw [show ((nI (q + 1)) - 1 : Int32) = nI q from pk_sub (a := q + 1) (b := 1) (by omega)]
        refine am_iald_r ok_M_putValue rfl (w := wd C Y1 og) (f := Y1.2.1 5) rfl rfl (pk_in c 300 (by omega)) ?_
        rw [nI_clamp (show c < 2 ^ 31 by omega)]
        rw [show (Y1.2.1 5 c) = Y.2.1 5 c from (congrFun (ya h1 (by decide)) c).trans (congrFun (hB.2.1 5 (by decide) (by decide)) c)]
        refine am_iast_r ok_M_putValue rfl (w := wd C Y1 og) (f := Y1.2.1 15) rfl rfl (pk_in q 10 (by omega)) ?_
        rw [nI_clamp (show q < 2 ^ 31 by omega)]
        refine am_eq_r (q' := (87, [some (.ref 19), some (.int (nI v0)), some (.int (-1)), some (.int (nI c))], [], wd C (Y1.1, wd_u Y1.2.1 15 (upd (Y1.2.1 15) q (Y.2.1 5 c)), Y1.2.2) og)) rfl ?_
        obtain ⟨Yz_3, hEz_3⟩ : ∃ Z : wd_Y, Z = (Y1.1, wd_u Y1.2.1 15 (upd (Y1.2.1 15) q (Y.2.1 5 c)), Y1.2.2) := ⟨_, rfl⟩
        rw [← hEz_3]
        have h1z_3 : Yz_3 = yE (yNc Yb (q) (Y.2.1 5 c)) A (bf, L) := by rw [hEz_3, h1]; exact yE_nc
        obtain ⟨Bz_3, hNBz_3⟩ : ∃ Z : wd_Y, Z = yNc Yb (q) (Y.2.1 5 c) := ⟨_, rfl⟩
        rw [← hNBz_3] at h1z_3
        have hBz_3 : bY Y Bz_3 := by rw [hNBz_3]; exact bY_nc hB _ _
        have hrz_3 : Bz_3.1 16 = nI rd := (hBz_3.1 16 (by decide)).trans hr
        have hYz_3 := bY_vs hBz_3 hY
        have hdz_3 : Bz_3.1 12 = nI (q + 1) := by rw [hNBz_3]; exact hd
        refine am_eq_r (q' := (87, [some (.ref 19), some (.int (nI v0)), some (.int (-1)), some (.int (nI c))], [], wd C Yz_3 og)) rfl ?_
        refine am_steps_r ok_M_putValue 4 (q' := (bif decide ((Yz_3.1 12) = 1) then 95 else 143, [some (.ref 19), some (.int (nI v0)), some (.int (-1)), some (.int (nI c))], [], wd C Yz_3 og)) rfl ?_
        rw [show (Yz_3.1 12 : Int32) = nI (q + 1) from ((yE_12 h1z_3).trans hdz_3)]
        refine am_br_r (fun h_4 => ?_) (fun h_4 => ?_)
        · skip
          have h_4 : (q + 1) = 1 := (nI_eq (show (q + 1) < 2 ^ 31 by omega) (show 1 < 2 ^ 31 by omega)).mp h_4
          refine am_steps_r ok_M_putValue 5 (q' := (148, [some (.ref 19), some (.int (nI v0)), some (.int (-1)), some (.int (nI c))], [.int (nI c), .ref 22], wd C Yz_3 og)) rfl ?_
          refine am_iald_r ok_M_putValue rfl (w := wd C Yz_3 og) (f := Yz_3.2.1 2) rfl rfl (pk_in c 300 (by omega)) ?_
          rw [nI_clamp (show c < 2 ^ 31 by omega)]
          rw [show (Yz_3.2.1 2 c) = V.1 c from yq_2 hYz_3 h1z_3 (v := c) (by omega)]
          refine am_steps_r ok_M_putValue 2 (q' := (bif decide ((V.1 c) = 6) then 165 else 154, [some (.ref 19), some (.int (nI v0)), some (.int (-1)), some (.int (nI c))], [], wd C Yz_3 og)) rfl ?_
          refine am_br_r (fun h_5 => ?_) (fun h_5 => ?_)
          · skip
            refine am_steps_r ok_M_putValue 2 (q' := (167, [some (.ref 19), some (.int (nI v0)), some (.int (-1)), some (.int (nI c))], [.int (nI c), .ref 19], wd C Yz_3 og)) rfl ?_
            have h67c : V.1 c = 6 ∨ V.1 c = 7 := by first | exact Or.inl (by assumption) | exact Or.inr (by assumption)
            refine am_callV_r (As := [.int (nI c)]) (rest := []) ok_M_putValue rfl rfl ok_M_opensOut oi_M_opensOut lk_6_313 (Or.inl ⟨_, _, _, rfl, rfl, rfl⟩) rfl rfl (Nat.le_of_ble_eq_true rfl) (c_M_opensOut _ C Bz_3 og rd A hrz_3 hrd bf L (by omega) Yz_3 h1z_3 nv u V hYz_3 c (q + 1) (by omega) (by omega) h67c hdz_3 (by omega)) ?_
            rintro v_ w_ ⟨rfl, Y_6, rfl, hY_7⟩ -
            refine am_eq_r (q' := (170, [some (.ref 19), some (.int (nI v0)), some (.int (-1)), some (.int (nI c))], [], wd C Y_6 og)) rfl ?_
            refine am_steps_r ok_M_putValue 2 (q' := (38, [some (.ref 19), some (.int (nI v0)), some (.int (-1)), some (.int (nI c))], [], wd C Y_6 og)) rfl ?_
            refine am_drop_r [3] (L' := [some (.ref 19), some (.int (nI v0)), some (.int (-1)), none]) rfl ?_
            obtain ⟨f1, hf1⟩ : ∃ f1, f = f1 + 1 := ⟨f - 1, by omega⟩
            have hw67 := wVl_67 (rd := rd) (V := V) (f := f1) (st := (bf, L)) h67c
            have hob := opT_len (V := V) (v := c)
            have hgp := gpL_1 rd bf 4
            have hyr := hY.2 c hc1
            have hf67 : (V.1 c = 6 ∨ V.1 c = 7) → ¬ V.1 c = 9 := fun z => by rcases z with z | z <;> (rw [z]; decide)
            have hbk : ((V.2.2.1 c).foldl (wVl rd V f1) (4, L ++ gpL rd bf 4 ++ opT V c)).2.length + 1000 < 2147483648 := by
              have q9 := wPc_le (rd := rd) ((V.2.2.1 c).foldl (wVl rd V f1) (wPc rd (bf, L) 4 (opT V c))) 5 (clT V c)
              rw [hf1, hw67] at hb3
              have q8 : wPc rd (bf, L) 4 (opT V c) = (4, L ++ gpL rd bf 4 ++ opT V c) := rfl
              rw [q8] at q9 hb3
              omega
            refine IHf f1 hf1 (V.2.2.1 c) c (q + 1) _ Y_6 4 ((L ++ gpL rd bf 4 ++ opT V c)) post (by omega) (by omega) hc1 h67c (fun z hz => ⟨(hok.1 c hc1).1 z hz, by have := (hg c hc1).2.1 (hf67 h67c) z hz; omega⟩) (bY_op hBz_3 (q + 1) c (Bz_3.2.1 3 c)) rfl yOp_o (by rw [yOp_n, show Bz_3.2.1 3 c = Y.2.1 3 c from congrFun (hBz_3.2.1 3 (by decide) (by decide)) c]; exact hyr.2.2.2.2.1) (by omega) hY_7 hbk ?_
            intro Y3 Y4 a1 a2 a3 a4
            have hlo := a3 q (by omega)
            rw [(yOp_lo (show q < q + 1 by omega)).1, (yOp_lo (show q < q + 1 by omega)).2, hNBz_3] at hlo
            have a5 : Y4 = yE Y3 A (wVl rd V f (bf, L) c) := by rw [hf1, hw67]; exact a4
            have hbb := wVl_bf (rd := rd) (V := V) f (bf, L) c hbf
            obtain ⟨bc, Lc, hsc⟩ : ∃ b_ L_, wVl rd V f (bf, L) c = (b_, L_) := ⟨_, _, rfl⟩
            rw [hsc] at a5 hbb hb2
            refine ih v q Y3 Y4 bc Lc post hqf hq0 hv h67 (fun z hz => hks z (List.mem_cons_of_mem _ hz)) a1 a2 (by rw [hlo.1]; exact ho) (by rw [hlo.2, yNc_at]; exact hlk2) hbb a5 hb2 ?_
            rw [← hsc]
            exact fun Y5 Y6 e1 e2 e3 e4 => K Y5 Y6 e1 e2 (fun j hj => by rw [(e3 j hj).1, (e3 j hj).2, (a3 j (by omega)).1, (a3 j (by omega)).2, (yOp_lo (show j < q + 1 by omega)).1, (yOp_lo (show j < q + 1 by omega)).2, hNBz_3]; exact yNc_lo (by omega)) e4
          · skip
            refine am_steps_r ok_M_putValue 3 (q' := (159, [some (.ref 19), some (.int (nI v0)), some (.int (-1)), some (.int (nI c))], [.int (nI c), .ref 22], wd C Yz_3 og)) rfl ?_
            refine am_iald_r ok_M_putValue rfl (w := wd C Yz_3 og) (f := Yz_3.2.1 2) rfl rfl (pk_in c 300 (by omega)) ?_
            rw [nI_clamp (show c < 2 ^ 31 by omega)]
            rw [show (Yz_3.2.1 2 c) = V.1 c from yq_2 hYz_3 h1z_3 (v := c) (by omega)]
            refine am_steps_r ok_M_putValue 2 (q' := (bif decide ((V.1 c) = 7) then 165 else 173, [some (.ref 19), some (.int (nI v0)), some (.int (-1)), some (.int (nI c))], [], wd C Yz_3 og)) rfl ?_
            refine am_br_r (fun h_8 => ?_) (fun h_8 => ?_)
            · skip
              refine am_steps_r ok_M_putValue 2 (q' := (167, [some (.ref 19), some (.int (nI v0)), some (.int (-1)), some (.int (nI c))], [.int (nI c), .ref 19], wd C Yz_3 og)) rfl ?_
              have h67c : V.1 c = 6 ∨ V.1 c = 7 := by first | exact Or.inl (by assumption) | exact Or.inr (by assumption)
              refine am_callV_r (As := [.int (nI c)]) (rest := []) ok_M_putValue rfl rfl ok_M_opensOut oi_M_opensOut lk_6_313 (Or.inl ⟨_, _, _, rfl, rfl, rfl⟩) rfl rfl (Nat.le_of_ble_eq_true rfl) (c_M_opensOut _ C Bz_3 og rd A hrz_3 hrd bf L (by omega) Yz_3 h1z_3 nv u V hYz_3 c (q + 1) (by omega) (by omega) h67c hdz_3 (by omega)) ?_
              rintro v_ w_ ⟨rfl, Y_9, rfl, hY_10⟩ -
              refine am_eq_r (q' := (170, [some (.ref 19), some (.int (nI v0)), some (.int (-1)), some (.int (nI c))], [], wd C Y_9 og)) rfl ?_
              refine am_steps_r ok_M_putValue 2 (q' := (38, [some (.ref 19), some (.int (nI v0)), some (.int (-1)), some (.int (nI c))], [], wd C Y_9 og)) rfl ?_
              refine am_drop_r [3] (L' := [some (.ref 19), some (.int (nI v0)), some (.int (-1)), none]) rfl ?_
              obtain ⟨f1, hf1⟩ : ∃ f1, f = f1 + 1 := ⟨f - 1, by omega⟩
              have hw67 := wVl_67 (rd := rd) (V := V) (f := f1) (st := (bf, L)) h67c
              have hob := opT_len (V := V) (v := c)
              have hgp := gpL_1 rd bf 4
              have hyr := hY.2 c hc1
              have hf67 : (V.1 c = 6 ∨ V.1 c = 7) → ¬ V.1 c = 9 := fun z => by rcases z with z | z <;> (rw [z]; decide)
              have hbk : ((V.2.2.1 c).foldl (wVl rd V f1) (4, L ++ gpL rd bf 4 ++ opT V c)).2.length + 1000 < 2147483648 := by
                have q9 := wPc_le (rd := rd) ((V.2.2.1 c).foldl (wVl rd V f1) (wPc rd (bf, L) 4 (opT V c))) 5 (clT V c)
                rw [hf1, hw67] at hb3
                have q8 : wPc rd (bf, L) 4 (opT V c) = (4, L ++ gpL rd bf 4 ++ opT V c) := rfl
                rw [q8] at q9 hb3
                omega
              refine IHf f1 hf1 (V.2.2.1 c) c (q + 1) _ Y_9 4 ((L ++ gpL rd bf 4 ++ opT V c)) post (by omega) (by omega) hc1 h67c (fun z hz => ⟨(hok.1 c hc1).1 z hz, by have := (hg c hc1).2.1 (hf67 h67c) z hz; omega⟩) (bY_op hBz_3 (q + 1) c (Bz_3.2.1 3 c)) rfl yOp_o (by rw [yOp_n, show Bz_3.2.1 3 c = Y.2.1 3 c from congrFun (hBz_3.2.1 3 (by decide) (by decide)) c]; exact hyr.2.2.2.2.1) (by omega) hY_10 hbk ?_
              intro Y3 Y4 a1 a2 a3 a4
              have hlo := a3 q (by omega)
              rw [(yOp_lo (show q < q + 1 by omega)).1, (yOp_lo (show q < q + 1 by omega)).2, hNBz_3] at hlo
              have a5 : Y4 = yE Y3 A (wVl rd V f (bf, L) c) := by rw [hf1, hw67]; exact a4
              have hbb := wVl_bf (rd := rd) (V := V) f (bf, L) c hbf
              obtain ⟨bc, Lc, hsc⟩ : ∃ b_ L_, wVl rd V f (bf, L) c = (b_, L_) := ⟨_, _, rfl⟩
              rw [hsc] at a5 hbb hb2
              refine ih v q Y3 Y4 bc Lc post hqf hq0 hv h67 (fun z hz => hks z (List.mem_cons_of_mem _ hz)) a1 a2 (by rw [hlo.1]; exact ho) (by rw [hlo.2, yNc_at]; exact hlk2) hbb a5 hb2 ?_
              rw [← hsc]
              exact fun Y5 Y6 e1 e2 e3 e4 => K Y5 Y6 e1 e2 (fun j hj => by rw [(e3 j hj).1, (e3 j hj).2, (a3 j (by omega)).1, (a3 j (by omega)).2, (yOp_lo (show j < q + 1 by omega)).1, (yOp_lo (show j < q + 1 by omega)).2, hNBz_3]; exact yNc_lo (by omega)) e4
            · skip
              refine am_steps_r ok_M_putValue 2 (q' := (175, [some (.ref 19), some (.int (nI v0)), some (.int (-1)), some (.int (nI c))], [.int (nI c), .ref 19], wd C Yz_3 og)) rfl ?_
              obtain ⟨f1, hf1⟩ : ∃ f1, f = f1 + 1 := ⟨f - 1, by omega⟩
              refine am_callV_r (As := [.int (nI c)]) (rest := []) ok_M_putValue rfl rfl ok_M_putScalar oi_M_putScalar lk_6_310 (Or.inl ⟨_, _, _, rfl, rfl, rfl⟩) rfl rfl (Nat.le_of_ble_eq_true rfl) (c_M_putScalar _ C Bz_3 og rd A hrz_3 hrd bf L (by omega) Yz_3 h1z_3 nv u V hYz_3 hby c (by omega) (hg c (by omega)).2.2.2.2 (by assumption) (by assumption) (by assumption) f1 (by rw [← hf1]; omega)) ?_
              rintro v_ w_ ⟨rfl, Y_11, rfl, hY_12⟩ -
              rw [← hf1] at hY_12
              have hbbn_13 := wVl_bf (rd := rd) (V := V) f (bf, L) c (show bf ≤ 5 by omega)
              obtain ⟨bn_13, Ln_13, hsn_13⟩ : ∃ b_ L_, wVl rd V f (bf, L) c = (b_, L_) := ⟨_, _, rfl⟩
              rw [hsn_13] at hY_12 hbbn_13
              have hb5n_13 : bn_13 ≤ 5 := hbbn_13
              refine am_eq_r (q' := (178, [some (.ref 19), some (.int (nI v0)), some (.int (-1)), some (.int (nI c))], [], wd C Y_11 og)) rfl ?_
              refine am_steps_r ok_M_putValue 1 (q' := (38, [some (.ref 19), some (.int (nI v0)), some (.int (-1)), some (.int (nI c))], [], wd C Y_11 og)) rfl ?_
              refine am_drop_r [3] (L' := [some (.ref 19), some (.int (nI v0)), some (.int (-1)), none]) rfl ?_
              refine ih v q Bz_3 Y_11 bn_13 Ln_13 post hqf hq0 hv h67 (fun z hz => hks z (List.mem_cons_of_mem _ hz)) hBz_3 hdz_3 (by rw [hNBz_3]; exact ho) (by rw [hNBz_3, yNc_at]; exact hlk2) (by omega) hY_12 (by rw [← hsn_13]; exact hb2) ?_
              rw [← hsn_13]
              exact fun Y3 Y4 a1 a2 a3 a4 => K Y3 Y4 a1 a2 (fun j hj => by rw [(a3 j hj).1, (a3 j hj).2, hNBz_3]; exact yNc_lo (by omega)) a4
        · skip
          have h_4 : ¬ (q + 1) = 1 := fun z => h_4 ((nI_eq (show (q + 1) < 2 ^ 31 by omega) (show 1 < 2 ^ 31 by omega)).mpr z)
          refine am_steps_r ok_M_putValue 3 (q' := (148, [some (.ref 19), some (.int (nI v0)), some (.int (-1)), some (.int (nI c))], [.int (nI c), .ref 22], wd C Yz_3 og)) rfl ?_
          refine am_iald_r ok_M_putValue rfl (w := wd C Yz_3 og) (f := Yz_3.2.1 2) rfl rfl (pk_in c 300 (by omega)) ?_
          rw [nI_clamp (show c < 2 ^ 31 by omega)]
          rw [show (Yz_3.2.1 2 c) = V.1 c from yq_2 hYz_3 h1z_3 (v := c) (by omega)]
          refine am_steps_r ok_M_putValue 2 (q' := (bif decide ((V.1 c) = 6) then 165 else 154, [some (.ref 19), some (.int (nI v0)), some (.int (-1)), some (.int (nI c))], [], wd C Yz_3 og)) rfl ?_
          refine am_br_r (fun h_14 => ?_) (fun h_14 => ?_)
          · skip
            refine am_steps_r ok_M_putValue 2 (q' := (167, [some (.ref 19), some (.int (nI v0)), some (.int (-1)), some (.int (nI c))], [.int (nI c), .ref 19], wd C Yz_3 og)) rfl ?_
            have h67c : V.1 c = 6 ∨ V.1 c = 7 := by first | exact Or.inl (by assumption) | exact Or.inr (by assumption)
            refine am_callV_r (As := [.int (nI c)]) (rest := []) ok_M_putValue rfl rfl ok_M_opensOut oi_M_opensOut lk_6_313 (Or.inl ⟨_, _, _, rfl, rfl, rfl⟩) rfl rfl (Nat.le_of_ble_eq_true rfl) (c_M_opensOut _ C Bz_3 og rd A hrz_3 hrd bf L (by omega) Yz_3 h1z_3 nv u V hYz_3 c (q + 1) (by omega) (by omega) h67c hdz_3 (by omega)) ?_
            rintro v_ w_ ⟨rfl, Y_15, rfl, hY_16⟩ -
            refine am_eq_r (q' := (170, [some (.ref 19), some (.int (nI v0)), some (.int (-1)), some (.int (nI c))], [], wd C Y_15 og)) rfl ?_
            refine am_steps_r ok_M_putValue 2 (q' := (38, [some (.ref 19), some (.int (nI v0)), some (.int (-1)), some (.int (nI c))], [], wd C Y_15 og)) rfl ?_
            refine am_drop_r [3] (L' := [some (.ref 19), some (.int (nI v0)), some (.int (-1)), none]) rfl ?_
            obtain ⟨f1, hf1⟩ : ∃ f1, f = f1 + 1 := ⟨f - 1, by omega⟩
            have hw67 := wVl_67 (rd := rd) (V := V) (f := f1) (st := (bf, L)) h67c
            have hob := opT_len (V := V) (v := c)
            have hgp := gpL_1 rd bf 4
            have hyr := hY.2 c hc1
            have hf67 : (V.1 c = 6 ∨ V.1 c = 7) → ¬ V.1 c = 9 := fun z => by rcases z with z | z <;> (rw [z]; decide)
            have hbk : ((V.2.2.1 c).foldl (wVl rd V f1) (4, L ++ gpL rd bf 4 ++ opT V c)).2.length + 1000 < 2147483648 := by
              have q9 := wPc_le (rd := rd) ((V.2.2.1 c).foldl (wVl rd V f1) (wPc rd (bf, L) 4 (opT V c))) 5 (clT V c)
              rw [hf1, hw67] at hb3
              have q8 : wPc rd (bf, L) 4 (opT V c) = (4, L ++ gpL rd bf 4 ++ opT V c) := rfl
              rw [q8] at q9 hb3
              omega
            refine IHf f1 hf1 (V.2.2.1 c) c (q + 1) _ Y_15 4 ((L ++ gpL rd bf 4 ++ opT V c)) post (by omega) (by omega) hc1 h67c (fun z hz => ⟨(hok.1 c hc1).1 z hz, by have := (hg c hc1).2.1 (hf67 h67c) z hz; omega⟩) (bY_op hBz_3 (q + 1) c (Bz_3.2.1 3 c)) rfl yOp_o (by rw [yOp_n, show Bz_3.2.1 3 c = Y.2.1 3 c from congrFun (hBz_3.2.1 3 (by decide) (by decide)) c]; exact hyr.2.2.2.2.1) (by omega) hY_16 hbk ?_
            intro Y3 Y4 a1 a2 a3 a4
            have hlo := a3 q (by omega)
            rw [(yOp_lo (show q < q + 1 by omega)).1, (yOp_lo (show q < q + 1 by omega)).2, hNBz_3] at hlo
            have a5 : Y4 = yE Y3 A (wVl rd V f (bf, L) c) := by rw [hf1, hw67]; exact a4
            have hbb := wVl_bf (rd := rd) (V := V) f (bf, L) c hbf
            obtain ⟨bc, Lc, hsc⟩ : ∃ b_ L_, wVl rd V f (bf, L) c = (b_, L_) := ⟨_, _, rfl⟩
            rw [hsc] at a5 hbb hb2
            refine ih v q Y3 Y4 bc Lc post hqf hq0 hv h67 (fun z hz => hks z (List.mem_cons_of_mem _ hz)) a1 a2 (by rw [hlo.1]; exact ho) (by rw [hlo.2, yNc_at]; exact hlk2) hbb a5 hb2 ?_
            rw [← hsc]
            exact fun Y5 Y6 e1 e2 e3 e4 => K Y5 Y6 e1 e2 (fun j hj => by rw [(e3 j hj).1, (e3 j hj).2, (a3 j (by omega)).1, (a3 j (by omega)).2, (yOp_lo (show j < q + 1 by omega)).1, (yOp_lo (show j < q + 1 by omega)).2, hNBz_3]; exact yNc_lo (by omega)) e4
          · skip
            refine am_steps_r ok_M_putValue 3 (q' := (159, [some (.ref 19), some (.int (nI v0)), some (.int (-1)), some (.int (nI c))], [.int (nI c), .ref 22], wd C Yz_3 og)) rfl ?_
            refine am_iald_r ok_M_putValue rfl (w := wd C Yz_3 og) (f := Yz_3.2.1 2) rfl rfl (pk_in c 300 (by omega)) ?_
            rw [nI_clamp (show c < 2 ^ 31 by omega)]
            rw [show (Yz_3.2.1 2 c) = V.1 c from yq_2 hYz_3 h1z_3 (v := c) (by omega)]
            refine am_steps_r ok_M_putValue 2 (q' := (bif decide ((V.1 c) = 7) then 165 else 173, [some (.ref 19), some (.int (nI v0)), some (.int (-1)), some (.int (nI c))], [], wd C Yz_3 og)) rfl ?_
            refine am_br_r (fun h_17 => ?_) (fun h_17 => ?_)
            · skip
              refine am_steps_r ok_M_putValue 2 (q' := (167, [some (.ref 19), some (.int (nI v0)), some (.int (-1)), some (.int (nI c))], [.int (nI c), .ref 19], wd C Yz_3 og)) rfl ?_
              have h67c : V.1 c = 6 ∨ V.1 c = 7 := by first | exact Or.inl (by assumption) | exact Or.inr (by assumption)
              refine am_callV_r (As := [.int (nI c)]) (rest := []) ok_M_putValue rfl rfl ok_M_opensOut oi_M_opensOut lk_6_313 (Or.inl ⟨_, _, _, rfl, rfl, rfl⟩) rfl rfl (Nat.le_of_ble_eq_true rfl) (c_M_opensOut _ C Bz_3 og rd A hrz_3 hrd bf L (by omega) Yz_3 h1z_3 nv u V hYz_3 c (q + 1) (by omega) (by omega) h67c hdz_3 (by omega)) ?_
              rintro v_ w_ ⟨rfl, Y_18, rfl, hY_19⟩ -
              refine am_eq_r (q' := (170, [some (.ref 19), some (.int (nI v0)), some (.int (-1)), some (.int (nI c))], [], wd C Y_18 og)) rfl ?_
              refine am_steps_r ok_M_putValue 2 (q' := (38, [some (.ref 19), some (.int (nI v0)), some (.int (-1)), some (.int (nI c))], [], wd C Y_18 og)) rfl ?_
              refine am_drop_r [3] (L' := [some (.ref 19), some (.int (nI v0)), some (.int (-1)), none]) rfl ?_
              obtain ⟨f1, hf1⟩ : ∃ f1, f = f1 + 1 := ⟨f - 1, by omega⟩
              have hw67 := wVl_67 (rd := rd) (V := V) (f := f1) (st := (bf, L)) h67c
              have hob := opT_len (V := V) (v := c)
              have hgp := gpL_1 rd bf 4
              have hyr := hY.2 c hc1
              have hf67 : (V.1 c = 6 ∨ V.1 c = 7) → ¬ V.1 c = 9 := fun z => by rcases z with z | z <;> (rw [z]; decide)
              have hbk : ((V.2.2.1 c).foldl (wVl rd V f1) (4, L ++ gpL rd bf 4 ++ opT V c)).2.length + 1000 < 2147483648 := by
                have q9 := wPc_le (rd := rd) ((V.2.2.1 c).foldl (wVl rd V f1) (wPc rd (bf, L) 4 (opT V c))) 5 (clT V c)
                rw [hf1, hw67] at hb3
                have q8 : wPc rd (bf, L) 4 (opT V c) = (4, L ++ gpL rd bf 4 ++ opT V c) := rfl
                rw [q8] at q9 hb3
                omega
              refine IHf f1 hf1 (V.2.2.1 c) c (q + 1) _ Y_18 4 ((L ++ gpL rd bf 4 ++ opT V c)) post (by omega) (by omega) hc1 h67c (fun z hz => ⟨(hok.1 c hc1).1 z hz, by have := (hg c hc1).2.1 (hf67 h67c) z hz; omega⟩) (bY_op hBz_3 (q + 1) c (Bz_3.2.1 3 c)) rfl yOp_o (by rw [yOp_n, show Bz_3.2.1 3 c = Y.2.1 3 c from congrFun (hBz_3.2.1 3 (by decide) (by decide)) c]; exact hyr.2.2.2.2.1) (by omega) hY_19 hbk ?_
              intro Y3 Y4 a1 a2 a3 a4
              have hlo := a3 q (by omega)
              rw [(yOp_lo (show q < q + 1 by omega)).1, (yOp_lo (show q < q + 1 by omega)).2, hNBz_3] at hlo
              have a5 : Y4 = yE Y3 A (wVl rd V f (bf, L) c) := by rw [hf1, hw67]; exact a4
              have hbb := wVl_bf (rd := rd) (V := V) f (bf, L) c hbf
              obtain ⟨bc, Lc, hsc⟩ : ∃ b_ L_, wVl rd V f (bf, L) c = (b_, L_) := ⟨_, _, rfl⟩
              rw [hsc] at a5 hbb hb2
              refine ih v q Y3 Y4 bc Lc post hqf hq0 hv h67 (fun z hz => hks z (List.mem_cons_of_mem _ hz)) a1 a2 (by rw [hlo.1]; exact ho) (by rw [hlo.2, yNc_at]; exact hlk2) hbb a5 hb2 ?_
              rw [← hsc]
              exact fun Y5 Y6 e1 e2 e3 e4 => K Y5 Y6 e1 e2 (fun j hj => by rw [(e3 j hj).1, (e3 j hj).2, (a3 j (by omega)).1, (a3 j (by omega)).2, (yOp_lo (show j < q + 1 by omega)).1, (yOp_lo (show j < q + 1 by omega)).2, hNBz_3]; exact yNc_lo (by omega)) e4
            · skip
              refine am_steps_r ok_M_putValue 2 (q' := (175, [some (.ref 19), some (.int (nI v0)), some (.int (-1)), some (.int (nI c))], [.int (nI c), .ref 19], wd C Yz_3 og)) rfl ?_
              obtain ⟨f1, hf1⟩ : ∃ f1, f = f1 + 1 := ⟨f - 1, by omega⟩
              refine am_callV_r (As := [.int (nI c)]) (rest := []) ok_M_putValue rfl rfl ok_M_putScalar oi_M_putScalar lk_6_310 (Or.inl ⟨_, _, _, rfl, rfl, rfl⟩) rfl rfl (Nat.le_of_ble_eq_true rfl) (c_M_putScalar _ C Bz_3 og rd A hrz_3 hrd bf L (by omega) Yz_3 h1z_3 nv u V hYz_3 hby c (by omega) (hg c (by omega)).2.2.2.2 (by assumption) (by assumption) (by assumption) f1 (by rw [← hf1]; omega)) ?_
              rintro v_ w_ ⟨rfl, Y_20, rfl, hY_21⟩ -
              rw [← hf1] at hY_21
              have hbbn_22 := wVl_bf (rd := rd) (V := V) f (bf, L) c (show bf ≤ 5 by omega)
              obtain ⟨bn_22, Ln_22, hsn_22⟩ : ∃ b_ L_, wVl rd V f (bf, L) c = (b_, L_) := ⟨_, _, rfl⟩
              rw [hsn_22] at hY_21 hbbn_22
              have hb5n_22 : bn_22 ≤ 5 := hbbn_22
              refine am_eq_r (q' := (178, [some (.ref 19), some (.int (nI v0)), some (.int (-1)), some (.int (nI c))], [], wd C Y_20 og)) rfl ?_
              refine am_steps_r ok_M_putValue 1 (q' := (38, [some (.ref 19), some (.int (nI v0)), some (.int (-1)), some (.int (nI c))], [], wd C Y_20 og)) rfl ?_
              refine am_drop_r [3] (L' := [some (.ref 19), some (.int (nI v0)), some (.int (-1)), none]) rfl ?_
              refine ih v q Bz_3 Y_20 bn_22 Ln_22 post hqf hq0 hv h67 (fun z hz => hks z (List.mem_cons_of_mem _ hz)) hBz_3 hdz_3 (by rw [hNBz_3]; exact ho) (by rw [hNBz_3, yNc_at]; exact hlk2) (by omega) hY_21 (by rw [← hsn_22]; exact hb2) ?_
              rw [← hsn_22]
              exact fun Y3 Y4 a1 a2 a3 a4 => K Y3 Y4 a1 a2 (fun j hj => by rw [(a3 j hj).1, (a3 j hj).2, hNBz_3]; exact yNc_lo (by omega)) a4
set_option maxHeartbeats 4000000 in
set_option maxRecDepth 100000 in
theorem y_kids_m (d : Nat) (C : wd_C) (Y : wd_Y) (og : Nat → Int64) (rd : Nat) (A : Nat → Int32) (hr : Y.1 16 = nI rd) (hrd : rd ≤ 1) (nv u : Nat) (V : VT) (hY : vsY Y nv u V) (hby : ∀ w, w < nv → ∀ k, k < (V.2.2.2 w).length → ∃ j, j < 256 ∧ (V.2.2.2 w).getD k 0 = nI j) (ht : Nat → Nat) (hg : hG nv V ht) (hok : vok nv V) (v0 : Nat) (m : Nat) (hm : m < 1000000) (f : Nat) (IHf : ∀ f1, f = f1 + 1 → yPK l D cA ad fm d C Y og rd A nv V ht v0 (nI m) 1 f1) : yPK l D cA ad fm d C Y og rd A nv V ht v0 (nI m) 1 f := by
  intro ks
  induction ks with
  | nil =>
    intro v q Yb Y1 bf L post hqf hq0 hv h67 hks hB hd ho hlk hbf h1 hb K
    have hrb : Yb.1 16 = nI rd := (hB.1 16 (by decide)).trans hr
    have hYb := bY_vs hB hY
    have hnv := hY.1.2.1
    have hnc : Yb.2.1 15 q = -1 := hlk
    have hbL : L.length + 1000 < 2147483648 := hb
    have hv0 := hv
    refine am_steps_r ok_M_putValue 3 (q' := (bif decide ((Y1.1 12) ≤ 0) then 181 else 45, [some (.ref 19), some (.int (nI v0)), some (.int (nI m)), none], [], wd C Y1 og)) rfl ?_
    rw [show (Y1.1 12 : Int32) = nI (q + 1) from ((yE_12 h1).trans hd)]
    refine am_br_r (fun h_1 => ?_) (fun h_1 => ?_)
    · skip
      have h_1 : (q + 1) ≤ 0 := (nI_leI (show (q + 1) < 2 ^ 31 by omega) (show 0 < 2 ^ 31 by omega)).mp h_1
      exact absurd h_1 (by omega)
    · skip
      have h_1 : ¬ (q + 1) ≤ 0 := fun z => h_1 ((nI_leI (show (q + 1) < 2 ^ 31 by omega) (show 0 < 2 ^ 31 by omega)).mpr z)
      refine am_steps_r ok_M_putValue 6 (q' := (55, [some (.ref 19), some (.int (nI v0)), some (.int (nI m)), none], [.int ((Y1.1 12) - 1), .ref 36], wd C Y1 og)) rfl ?_
      rw [show (Y1.1 12 : Int32) = nI (q + 1) from ((yE_12 h1).trans hd)]
      rw [show ((nI (q + 1)) - 1 : Int32) = nI q from pk_sub (a := q + 1) (b := 1) (by omega)]
      refine am_iald_r ok_M_putValue rfl (w := wd C Y1 og) (f := Y1.2.1 15) rfl rfl (pk_in q 10 (by omega)) ?_
      rw [nI_clamp (show q < 2 ^ 31 by omega)]
      rw [show (Y1.2.1 15 q) = (-1) from (congrFun (ya h1 (by decide)) q).trans hnc]
      refine am_steps_r ok_M_putValue 6 (q' := (64, [some (.ref 19), some (.int (nI v0)), some (.int (nI m)), some (.int (-1))], [.int (nI m), .ref 19], wd C Y1 og)) rfl ?_
      refine am_callV_r (As := [.int (nI m)]) (rest := []) ok_M_putValue rfl rfl ok_M_closesOut oi_M_closesOut lk_6_316 (Or.inl ⟨_, _, _, rfl, rfl, rfl⟩) rfl rfl (Nat.le_of_ble_eq_true rfl) (c_M_closesOut_m _ C Yb og rd A hrb hrd bf L (by omega) Y1 h1 nv u V hYb v q hv (by omega) h67 hd ho (by omega) m hm (by omega)) ?_
      rintro v_ w_ ⟨rfl, Y_2, rfl, hY_3⟩ -
      refine am_eq_r (q' := (67, [some (.ref 19), some (.int (nI v0)), some (.int (nI m)), some (.int (-1))], [], wd C Y_2 og)) rfl ?_
      refine am_steps_r ok_M_putValue 2 (q' := (38, [some (.ref 19), some (.int (nI v0)), some (.int (nI m)), some (.int (-1))], [], wd C Y_2 og)) rfl ?_
      refine am_drop_r [3] (L' := [some (.ref 19), some (.int (nI v0)), some (.int (nI m)), none]) rfl ?_
      exact K (yDp Yb q) Y_2 (bY_dp hB q) rfl (fun j hj => ⟨rfl, rfl⟩) hY_3
  | cons c r ih =>
    intro v q Yb Y1 bf L post hqf hq0 hv h67 hks hB hd ho hlk hbf h1 hb K
    have hrb : Yb.1 16 = nI rd := (hB.1 16 (by decide)).trans hr
    have hYb := bY_vs hB hY
    have hnv := hY.1.2.1
    obtain ⟨hnc, hlk2⟩ := hlk
    obtain ⟨hc1, hc2⟩ := hks c List.mem_cons_self
    have hb2 : (r.foldl (wVl rd V f) (wVl rd V f (bf, L) c)).2.length + 1000 < 2147483648 := hb
    have hb3 : (wVl rd V f (bf, L) c).2.length + 1000 < 2147483648 := by have := fold_le (F := wVl rd V f) (fun st v => wVl_le f st v) r (wVl rd V f (bf, L) c); omega
    have hbL : L.length + 1000 < 2147483648 := by have := wVl_le (rd := rd) (V := V) f (bf, L) c; have h9 : (bf, L).2.length = L.length := rfl; omega
    have hc9 : ¬ V.1 c = 9 := fun z => by have := ((hg c hc1).2.2.2.1 z).1; omega
    refine am_steps_r ok_M_putValue 3 (q' := (bif decide ((Y1.1 12) ≤ 0) then 181 else 45, [some (.ref 19), some (.int (nI v0)), some (.int (nI m)), none], [], wd C Y1 og)) rfl ?_
    rw [show (Y1.1 12 : Int32) = nI (q + 1) from ((yE_12 h1).trans hd)]
    refine am_br_r (fun h_1 => ?_) (fun h_1 => ?_)
    · skip
      have h_1 : (q + 1) ≤ 0 := (nI_leI (show (q + 1) < 2 ^ 31 by omega) (show 0 < 2 ^ 31 by omega)).mp h_1
      exact absurd h_1 (by omega)
    · skip
      have h_1 : ¬ (q + 1) ≤ 0 := fun z => h_1 ((nI_leI (show (q + 1) < 2 ^ 31 by omega) (show 0 < 2 ^ 31 by omega)).mpr z)
      refine am_steps_r ok_M_putValue 6 (q' := (55, [some (.ref 19), some (.int (nI v0)), some (.int (nI m)), none], [.int ((Y1.1 12) - 1), .ref 36], wd C Y1 og)) rfl ?_
      rw [show (Y1.1 12 : Int32) = nI (q + 1) from ((yE_12 h1).trans hd)]
      rw [show ((nI (q + 1)) - 1 : Int32) = nI q from pk_sub (a := q + 1) (b := 1) (by omega)]
      refine am_iald_r ok_M_putValue rfl (w := wd C Y1 og) (f := Y1.2.1 15) rfl rfl (pk_in q 10 (by omega)) ?_
      rw [nI_clamp (show q < 2 ^ 31 by omega)]
      rw [show (Y1.2.1 15 q) = (nI c) from (congrFun (ya h1 (by decide)) q).trans hnc]
      refine am_steps_r ok_M_putValue 4 (q' := (bif decide ((nI c) = (-1)) then 62 else 70, [some (.ref 19), some (.int (nI v0)), some (.int (nI m)), some (.int (nI c))], [], wd C Y1 og)) rfl ?_
      refine am_br_r (fun h_2 => ?_) (fun h_2 => ?_)
      · skip
        exact absurd h_2 (nI_nm (show c < 2 ^ 31 by omega))
      · skip
        refine am_steps_r ok_M_putValue 9 (q' := (85, [some (.ref 19), some (.int (nI v0)), some (.int (nI m)), some (.int (nI c))], [.int (nI c), .ref 26, .int ((Y1.1 12) - 1), .ref 36], wd C Y1 og)) rfl ?_
        rw [show (Y1.1 12 : Int32) = nI (q + 1) from ((yE_12 h1).trans hd)]
        rw [show ((nI (q + 1)) - 1 : Int32) = nI q from pk_sub (a := q + 1) (b := 1) (by omega)]
        refine am_iald_r ok_M_putValue rfl (w := wd C Y1 og) (f := Y1.2.1 5) rfl rfl (pk_in c 300 (by omega)) ?_
        rw [nI_clamp (show c < 2 ^ 31 by omega)]
        rw [show (Y1.2.1 5 c) = Y.2.1 5 c from (congrFun (ya h1 (by decide)) c).trans (congrFun (hB.2.1 5 (by decide) (by decide)) c)]
        refine am_iast_r ok_M_putValue rfl (w := wd C Y1 og) (f := Y1.2.1 15) rfl rfl (pk_in q 10 (by omega)) ?_
        rw [nI_clamp (show q < 2 ^ 31 by omega)]
        refine am_eq_r (q' := (87, [some (.ref 19), some (.int (nI v0)), some (.int (nI m)), some (.int (nI c))], [], wd C (Y1.1, wd_u Y1.2.1 15 (upd (Y1.2.1 15) q (Y.2.1 5 c)), Y1.2.2) og)) rfl ?_
        obtain ⟨Yz_3, hEz_3⟩ : ∃ Z : wd_Y, Z = (Y1.1, wd_u Y1.2.1 15 (upd (Y1.2.1 15) q (Y.2.1 5 c)), Y1.2.2) := ⟨_, rfl⟩
        rw [← hEz_3]
        have h1z_3 : Yz_3 = yE (yNc Yb (q) (Y.2.1 5 c)) A (bf, L) := by rw [hEz_3, h1]; exact yE_nc
        obtain ⟨Bz_3, hNBz_3⟩ : ∃ Z : wd_Y, Z = yNc Yb (q) (Y.2.1 5 c) := ⟨_, rfl⟩
        rw [← hNBz_3] at h1z_3
        have hBz_3 : bY Y Bz_3 := by rw [hNBz_3]; exact bY_nc hB _ _
        have hrz_3 : Bz_3.1 16 = nI rd := (hBz_3.1 16 (by decide)).trans hr
        have hYz_3 := bY_vs hBz_3 hY
        have hdz_3 : Bz_3.1 12 = nI (q + 1) := by rw [hNBz_3]; exact hd
        refine am_eq_r (q' := (87, [some (.ref 19), some (.int (nI v0)), some (.int (nI m)), some (.int (nI c))], [], wd C Yz_3 og)) rfl ?_
        refine am_steps_r ok_M_putValue 4 (q' := (bif decide ((Yz_3.1 12) = 1) then 95 else 143, [some (.ref 19), some (.int (nI v0)), some (.int (nI m)), some (.int (nI c))], [], wd C Yz_3 og)) rfl ?_
        rw [show (Yz_3.1 12 : Int32) = nI (q + 1) from ((yE_12 h1z_3).trans hdz_3)]
        refine am_br_r (fun h_4 => ?_) (fun h_4 => ?_)
        · skip
          have h_4 : (q + 1) = 1 := (nI_eq (show (q + 1) < 2 ^ 31 by omega) (show 1 < 2 ^ 31 by omega)).mp h_4
          exfalso; omega
        · skip
          have h_4 : ¬ (q + 1) = 1 := fun z => h_4 ((nI_eq (show (q + 1) < 2 ^ 31 by omega) (show 1 < 2 ^ 31 by omega)).mpr z)
          refine am_steps_r ok_M_putValue 3 (q' := (148, [some (.ref 19), some (.int (nI v0)), some (.int (nI m)), some (.int (nI c))], [.int (nI c), .ref 22], wd C Yz_3 og)) rfl ?_
          refine am_iald_r ok_M_putValue rfl (w := wd C Yz_3 og) (f := Yz_3.2.1 2) rfl rfl (pk_in c 300 (by omega)) ?_
          rw [nI_clamp (show c < 2 ^ 31 by omega)]
          rw [show (Yz_3.2.1 2 c) = V.1 c from yq_2 hYz_3 h1z_3 (v := c) (by omega)]
          refine am_steps_r ok_M_putValue 2 (q' := (bif decide ((V.1 c) = 6) then 165 else 154, [some (.ref 19), some (.int (nI v0)), some (.int (nI m)), some (.int (nI c))], [], wd C Yz_3 og)) rfl ?_
          refine am_br_r (fun h_5 => ?_) (fun h_5 => ?_)
          · skip
            refine am_steps_r ok_M_putValue 2 (q' := (167, [some (.ref 19), some (.int (nI v0)), some (.int (nI m)), some (.int (nI c))], [.int (nI c), .ref 19], wd C Yz_3 og)) rfl ?_
            have h67c : V.1 c = 6 ∨ V.1 c = 7 := by first | exact Or.inl (by assumption) | exact Or.inr (by assumption)
            refine am_callV_r (As := [.int (nI c)]) (rest := []) ok_M_putValue rfl rfl ok_M_opensOut oi_M_opensOut lk_6_313 (Or.inl ⟨_, _, _, rfl, rfl, rfl⟩) rfl rfl (Nat.le_of_ble_eq_true rfl) (c_M_opensOut _ C Bz_3 og rd A hrz_3 hrd bf L (by omega) Yz_3 h1z_3 nv u V hYz_3 c (q + 1) (by omega) (by omega) h67c hdz_3 (by omega)) ?_
            rintro v_ w_ ⟨rfl, Y_6, rfl, hY_7⟩ -
            refine am_eq_r (q' := (170, [some (.ref 19), some (.int (nI v0)), some (.int (nI m)), some (.int (nI c))], [], wd C Y_6 og)) rfl ?_
            refine am_steps_r ok_M_putValue 2 (q' := (38, [some (.ref 19), some (.int (nI v0)), some (.int (nI m)), some (.int (nI c))], [], wd C Y_6 og)) rfl ?_
            refine am_drop_r [3] (L' := [some (.ref 19), some (.int (nI v0)), some (.int (nI m)), none]) rfl ?_
            obtain ⟨f1, hf1⟩ : ∃ f1, f = f1 + 1 := ⟨f - 1, by omega⟩
            have hw67 := wVl_67 (rd := rd) (V := V) (f := f1) (st := (bf, L)) h67c
            have hob := opT_len (V := V) (v := c)
            have hgp := gpL_1 rd bf 4
            have hyr := hY.2 c hc1
            have hf67 : (V.1 c = 6 ∨ V.1 c = 7) → ¬ V.1 c = 9 := fun z => by rcases z with z | z <;> (rw [z]; decide)
            have hbk : ((V.2.2.1 c).foldl (wVl rd V f1) (4, L ++ gpL rd bf 4 ++ opT V c)).2.length + 1000 < 2147483648 := by
              have q9 := wPc_le (rd := rd) ((V.2.2.1 c).foldl (wVl rd V f1) (wPc rd (bf, L) 4 (opT V c))) 5 (clT V c)
              rw [hf1, hw67] at hb3
              have q8 : wPc rd (bf, L) 4 (opT V c) = (4, L ++ gpL rd bf 4 ++ opT V c) := rfl
              rw [q8] at q9 hb3
              omega
            refine IHf f1 hf1 (V.2.2.1 c) c (q + 1) _ Y_6 4 ((L ++ gpL rd bf 4 ++ opT V c)) post (by omega) (by omega) hc1 h67c (fun z hz => ⟨(hok.1 c hc1).1 z hz, by have := (hg c hc1).2.1 (hf67 h67c) z hz; omega⟩) (bY_op hBz_3 (q + 1) c (Bz_3.2.1 3 c)) rfl yOp_o (by rw [yOp_n, show Bz_3.2.1 3 c = Y.2.1 3 c from congrFun (hBz_3.2.1 3 (by decide) (by decide)) c]; exact hyr.2.2.2.2.1) (by omega) hY_7 hbk ?_
            intro Y3 Y4 a1 a2 a3 a4
            have hlo := a3 q (by omega)
            rw [(yOp_lo (show q < q + 1 by omega)).1, (yOp_lo (show q < q + 1 by omega)).2, hNBz_3] at hlo
            have a5 : Y4 = yE Y3 A (wVl rd V f (bf, L) c) := by rw [hf1, hw67]; exact a4
            have hbb := wVl_bf (rd := rd) (V := V) f (bf, L) c hbf
            obtain ⟨bc, Lc, hsc⟩ : ∃ b_ L_, wVl rd V f (bf, L) c = (b_, L_) := ⟨_, _, rfl⟩
            rw [hsc] at a5 hbb hb2
            refine ih v q Y3 Y4 bc Lc post hqf hq0 hv h67 (fun z hz => hks z (List.mem_cons_of_mem _ hz)) a1 a2 (by rw [hlo.1]; exact ho) (by rw [hlo.2, yNc_at]; exact hlk2) hbb a5 hb2 ?_
            rw [← hsc]
            exact fun Y5 Y6 e1 e2 e3 e4 => K Y5 Y6 e1 e2 (fun j hj => by rw [(e3 j hj).1, (e3 j hj).2, (a3 j (by omega)).1, (a3 j (by omega)).2, (yOp_lo (show j < q + 1 by omega)).1, (yOp_lo (show j < q + 1 by omega)).2, hNBz_3]; exact yNc_lo (by omega)) e4
          · skip
            refine am_steps_r ok_M_putValue 3 (q' := (159, [some (.ref 19), some (.int (nI v0)), some (.int (nI m)), some (.int (nI c))], [.int (nI c), .ref 22], wd C Yz_3 og)) rfl ?_
            refine am_iald_r ok_M_putValue rfl (w := wd C Yz_3 og) (f := Yz_3.2.1 2) rfl rfl (pk_in c 300 (by omega)) ?_
            rw [nI_clamp (show c < 2 ^ 31 by omega)]
            rw [show (Yz_3.2.1 2 c) = V.1 c from yq_2 hYz_3 h1z_3 (v := c) (by omega)]
            refine am_steps_r ok_M_putValue 2 (q' := (bif decide ((V.1 c) = 7) then 165 else 173, [some (.ref 19), some (.int (nI v0)), some (.int (nI m)), some (.int (nI c))], [], wd C Yz_3 og)) rfl ?_
            refine am_br_r (fun h_8 => ?_) (fun h_8 => ?_)
            · skip
              refine am_steps_r ok_M_putValue 2 (q' := (167, [some (.ref 19), some (.int (nI v0)), some (.int (nI m)), some (.int (nI c))], [.int (nI c), .ref 19], wd C Yz_3 og)) rfl ?_
              have h67c : V.1 c = 6 ∨ V.1 c = 7 := by first | exact Or.inl (by assumption) | exact Or.inr (by assumption)
              refine am_callV_r (As := [.int (nI c)]) (rest := []) ok_M_putValue rfl rfl ok_M_opensOut oi_M_opensOut lk_6_313 (Or.inl ⟨_, _, _, rfl, rfl, rfl⟩) rfl rfl (Nat.le_of_ble_eq_true rfl) (c_M_opensOut _ C Bz_3 og rd A hrz_3 hrd bf L (by omega) Yz_3 h1z_3 nv u V hYz_3 c (q + 1) (by omega) (by omega) h67c hdz_3 (by omega)) ?_
              rintro v_ w_ ⟨rfl, Y_9, rfl, hY_10⟩ -
              refine am_eq_r (q' := (170, [some (.ref 19), some (.int (nI v0)), some (.int (nI m)), some (.int (nI c))], [], wd C Y_9 og)) rfl ?_
              refine am_steps_r ok_M_putValue 2 (q' := (38, [some (.ref 19), some (.int (nI v0)), some (.int (nI m)), some (.int (nI c))], [], wd C Y_9 og)) rfl ?_
              refine am_drop_r [3] (L' := [some (.ref 19), some (.int (nI v0)), some (.int (nI m)), none]) rfl ?_
              obtain ⟨f1, hf1⟩ : ∃ f1, f = f1 + 1 := ⟨f - 1, by omega⟩
              have hw67 := wVl_67 (rd := rd) (V := V) (f := f1) (st := (bf, L)) h67c
              have hob := opT_len (V := V) (v := c)
              have hgp := gpL_1 rd bf 4
              have hyr := hY.2 c hc1
              have hf67 : (V.1 c = 6 ∨ V.1 c = 7) → ¬ V.1 c = 9 := fun z => by rcases z with z | z <;> (rw [z]; decide)
              have hbk : ((V.2.2.1 c).foldl (wVl rd V f1) (4, L ++ gpL rd bf 4 ++ opT V c)).2.length + 1000 < 2147483648 := by
                have q9 := wPc_le (rd := rd) ((V.2.2.1 c).foldl (wVl rd V f1) (wPc rd (bf, L) 4 (opT V c))) 5 (clT V c)
                rw [hf1, hw67] at hb3
                have q8 : wPc rd (bf, L) 4 (opT V c) = (4, L ++ gpL rd bf 4 ++ opT V c) := rfl
                rw [q8] at q9 hb3
                omega
              refine IHf f1 hf1 (V.2.2.1 c) c (q + 1) _ Y_9 4 ((L ++ gpL rd bf 4 ++ opT V c)) post (by omega) (by omega) hc1 h67c (fun z hz => ⟨(hok.1 c hc1).1 z hz, by have := (hg c hc1).2.1 (hf67 h67c) z hz; omega⟩) (bY_op hBz_3 (q + 1) c (Bz_3.2.1 3 c)) rfl yOp_o (by rw [yOp_n, show Bz_3.2.1 3 c = Y.2.1 3 c from congrFun (hBz_3.2.1 3 (by decide) (by decide)) c]; exact hyr.2.2.2.2.1) (by omega) hY_10 hbk ?_
              intro Y3 Y4 a1 a2 a3 a4
              have hlo := a3 q (by omega)
              rw [(yOp_lo (show q < q + 1 by omega)).1, (yOp_lo (show q < q + 1 by omega)).2, hNBz_3] at hlo
              have a5 : Y4 = yE Y3 A (wVl rd V f (bf, L) c) := by rw [hf1, hw67]; exact a4
              have hbb := wVl_bf (rd := rd) (V := V) f (bf, L) c hbf
              obtain ⟨bc, Lc, hsc⟩ : ∃ b_ L_, wVl rd V f (bf, L) c = (b_, L_) := ⟨_, _, rfl⟩
              rw [hsc] at a5 hbb hb2
              refine ih v q Y3 Y4 bc Lc post hqf hq0 hv h67 (fun z hz => hks z (List.mem_cons_of_mem _ hz)) a1 a2 (by rw [hlo.1]; exact ho) (by rw [hlo.2, yNc_at]; exact hlk2) hbb a5 hb2 ?_
              rw [← hsc]
              exact fun Y5 Y6 e1 e2 e3 e4 => K Y5 Y6 e1 e2 (fun j hj => by rw [(e3 j hj).1, (e3 j hj).2, (a3 j (by omega)).1, (a3 j (by omega)).2, (yOp_lo (show j < q + 1 by omega)).1, (yOp_lo (show j < q + 1 by omega)).2, hNBz_3]; exact yNc_lo (by omega)) e4
            · skip
              refine am_steps_r ok_M_putValue 2 (q' := (175, [some (.ref 19), some (.int (nI v0)), some (.int (nI m)), some (.int (nI c))], [.int (nI c), .ref 19], wd C Yz_3 og)) rfl ?_
              obtain ⟨f1, hf1⟩ : ∃ f1, f = f1 + 1 := ⟨f - 1, by omega⟩
              refine am_callV_r (As := [.int (nI c)]) (rest := []) ok_M_putValue rfl rfl ok_M_putScalar oi_M_putScalar lk_6_310 (Or.inl ⟨_, _, _, rfl, rfl, rfl⟩) rfl rfl (Nat.le_of_ble_eq_true rfl) (c_M_putScalar _ C Bz_3 og rd A hrz_3 hrd bf L (by omega) Yz_3 h1z_3 nv u V hYz_3 hby c (by omega) (hg c (by omega)).2.2.2.2 (by assumption) (by assumption) (by assumption) f1 (by rw [← hf1]; omega)) ?_
              rintro v_ w_ ⟨rfl, Y_11, rfl, hY_12⟩ -
              rw [← hf1] at hY_12
              have hbbn_13 := wVl_bf (rd := rd) (V := V) f (bf, L) c (show bf ≤ 5 by omega)
              obtain ⟨bn_13, Ln_13, hsn_13⟩ : ∃ b_ L_, wVl rd V f (bf, L) c = (b_, L_) := ⟨_, _, rfl⟩
              rw [hsn_13] at hY_12 hbbn_13
              have hb5n_13 : bn_13 ≤ 5 := hbbn_13
              refine am_eq_r (q' := (178, [some (.ref 19), some (.int (nI v0)), some (.int (nI m)), some (.int (nI c))], [], wd C Y_11 og)) rfl ?_
              refine am_steps_r ok_M_putValue 1 (q' := (38, [some (.ref 19), some (.int (nI v0)), some (.int (nI m)), some (.int (nI c))], [], wd C Y_11 og)) rfl ?_
              refine am_drop_r [3] (L' := [some (.ref 19), some (.int (nI v0)), some (.int (nI m)), none]) rfl ?_
              refine ih v q Bz_3 Y_11 bn_13 Ln_13 post hqf hq0 hv h67 (fun z hz => hks z (List.mem_cons_of_mem _ hz)) hBz_3 hdz_3 (by rw [hNBz_3]; exact ho) (by rw [hNBz_3, yNc_at]; exact hlk2) (by omega) hY_12 (by rw [← hsn_13]; exact hb2) ?_
              rw [← hsn_13]
              exact fun Y3 Y4 a1 a2 a3 a4 => K Y3 Y4 a1 a2 (fun j hj => by rw [(a3 j hj).1, (a3 j hj).2, hNBz_3]; exact yNc_lo (by omega)) a4
theorem y_all_p (d : Nat) (C : wd_C) (Y : wd_Y) (og : Nat → Int64) (rd : Nat) (A : Nat → Int32) (hr : Y.1 16 = nI rd) (hrd : rd ≤ 1) (nv u : Nat) (V : VT) (hY : vsY Y nv u V) (hby : ∀ w, w < nv → ∀ k, k < (V.2.2.2 w).length → ∃ j, j < 256 ∧ (V.2.2.2 w).getD k 0 = nI j) (ht : Nat → Nat) (hg : hG nv V ht) (hok : vok nv V) (v0 : Nat) : ∀ f : Nat, yPK l D cA ad fm d C Y og rd A nv V ht v0 (-1) 0 f
  | 0 => y_kids_p d C Y og rd A hr hrd nv u V hY hby ht hg hok v0 0 (fun f1 h => by omega)
  | f + 1 => y_kids_p d C Y og rd A hr hrd nv u V hY hby ht hg hok v0 (f + 1) (fun f1 h => by
    have e : f1 = f := by omega
    subst e
    exact y_all_p d C Y og rd A hr hrd nv u V hY hby ht hg hok v0 f1)
theorem y_all_m (d : Nat) (C : wd_C) (Y : wd_Y) (og : Nat → Int64) (rd : Nat) (A : Nat → Int32) (hr : Y.1 16 = nI rd) (hrd : rd ≤ 1) (nv u : Nat) (V : VT) (hY : vsY Y nv u V) (hby : ∀ w, w < nv → ∀ k, k < (V.2.2.2 w).length → ∃ j, j < 256 ∧ (V.2.2.2 w).getD k 0 = nI j) (ht : Nat → Nat) (hg : hG nv V ht) (hok : vok nv V) (v0 : Nat) (m : Nat) (hm : m < 1000000) : ∀ f : Nat, yPK l D cA ad fm d C Y og rd A nv V ht v0 (nI m) 1 f
  | 0 => y_kids_m d C Y og rd A hr hrd nv u V hY hby ht hg hok v0 m hm 0 (fun f1 h => by omega)
  | f + 1 => y_kids_m d C Y og rd A hr hrd nv u V hY hby ht hg hok v0 m hm (f + 1) (fun f1 h => by
    have e : f1 = f := by omega
    subst e
    exact y_all_m d C Y og rd A hr hrd nv u V hY hby ht hg hok v0 m hm f1)
end C101
