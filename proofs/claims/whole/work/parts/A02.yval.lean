/-! the reference puts a value; printed by wip/gen/g102.py -/
def oddsOf : List Nat → List Nat
  | _ :: x :: r => x :: oddsOf r
  | _ => []
theorem oddsOf_mem : ∀ {ks : List Nat} {k : Nat}, k ∈ oddsOf ks → k ∈ ks
  | [], k, h => by simp [oddsOf] at h
  | [a], k, h => by simp [oddsOf] at h
  | a :: c :: r, k, h => by
    simp only [oddsOf, List.mem_cons] at h
    rcases h with h | h
    · simp [h]
    · have := oddsOf_mem h
      simp [this]
theorem odds_keys : ∀ {ks : List Nat}, ks.Nodup → ∀ a, a ∈ oddsOf ks → a ∉ keysOf ks
  | [], _, a, h => by simp [oddsOf] at h
  | [b], _, a, h => by simp [oddsOf] at h
  | b :: c :: r, hn, a, h => by
    obtain ⟨n1, n2⟩ := List.nodup_cons.mp hn
    obtain ⟨n3, n4⟩ := List.nodup_cons.mp n2
    simp only [oddsOf, List.mem_cons] at h
    simp only [keysOf, List.mem_cons, not_or]
    rcases h with h | h
    · subst h
      exact ⟨fun z => n1 (by rw [z]; simp), fun z => n3 (keysOf_mem z)⟩
    · exact ⟨fun z => n1 (by rw [← z]; simp [oddsOf_mem h]), odds_keys n4 a h⟩
theorem bY_rf (Y : wd_Y) : bY Y Y := ⟨fun _ _ => rfl, fun _ _ _ => rfl, rfl⟩
section C102
variable {l : Launch} {D : va_G} {cA : Nat → ClassId} {ad : Nat → Nat} {fm : Value}
set_option maxHeartbeats 4000000 in
set_option maxRecDepth 100000 in
theorem y_top_n (d : Nat) (C : wd_C) (Y : wd_Y) (og : Nat → Int64) (rd : Nat) (A : Nat → Int32) (hr : Y.1 16 = nI rd) (hrd : rd ≤ 1) (nv u : Nat) (V : VT) (hY : vsY Y nv u V) (hby : ∀ w, w < nv → ∀ k, k < (V.2.2.2 w).length → ∃ j, j < 256 ∧ (V.2.2.2 w).getD k 0 = nI j) (ht : Nat → Nat) (hg : hG nv V ht) (hok : vok nv V) (v0 : Nat) (hv0 : v0 < nv) (h7 : V.1 v0 = 7) (m : Nat) (hm : m < 1000000) (me : Nat) (hev : (V.2.2.1 v0).length = 2 * me) (hpr : prF (isLn V) (V.2.2.1 v0) = none) (hlk0 : oN ((prF (isLn V) (V.2.2.1 v0)).map (fun z => z.1)) = -1) (f : Nat) (hf8 : f = 8) : ∀ (n : Nat) (ks : List Nat) (Yb Y1 : wd_Y) (bf : Nat) (L : List Int32) (post : Option Value → am_W → Prop), ks.length = 2 * n → (∀ a ∈ ks, a < nv ∧ ht a + 1 ≤ 8) → (∀ a ∈ keysOf ks, V.1 a = 4) → (∀ a ∈ oddsOf ks, True) → bY Y Yb → Yb.1 12 = nI (0 + 1) → Yb.2.1 11 0 = nI v0 → lkd (Y.2.1 5) (Yb.2.1 15 0) ks → bf ≤ 5 → Y1 = yE Yb A (bf, L) → (wDk rd V f none m (bf, L) ks).2.length + 1000 < 2147483648 → (∀ (Yb2 Y2 : wd_Y), bY Y Yb2 → Y2 = yE Yb2 A (wPc rd (if (none : Option Nat) = none then wLn rd (wDk rd V f none m (bf, L) ks) m else wDk rd V f none m (bf, L) ks) 5 [62, 62]) → post none (wd C Y2 og)) → am_Rn l D cA ad fm (d + 5) m_M_putValue (wd C Y og).length post (38, [some (.ref 19), some (.int (nI v0)), some (.int (nI m)), none], [], wd C Y1 og) := by
  intro n
  induction n with
  | zero =>
    intro ks Yb Y1 bf L post hlen hks hk4s hxs0 hB hd ho hlk hbf h1 hb hpo
    have hk0 : ks = [] := List.eq_nil_of_length_eq_zero (by omega)
    subst hk0
    have hrb : Yb.1 16 = nI rd := (hB.1 16 (by decide)).trans hr
    have hYb := bY_vs hB hY
    have hnv := hY.1.2.1
    have hnc : Yb.2.1 15 0 = -1 := hlk
    have hbL : L.length + 1000 < 2147483648 := hb
    rw [show wDk rd V f none m (bf, L) [] = (bf, L) by unfold wDk; rfl] at hpo
    refine am_steps_r ok_M_putValue 3 (q' := (bif decide ((Y1.1 12) ≤ 0) then 181 else 45, [some (.ref 19), some (.int (nI v0)), some (.int (nI m)), none], [], wd C Y1 og)) rfl ?_
    rw [show (Y1.1 12 : Int32) = nI (0 + 1) from ((yE_12 h1).trans hd)]
    refine am_br_r (fun h_1 => ?_) (fun h_1 => ?_)
    · skip
      have h_1 : (0 + 1) ≤ 0 := (nI_leI (show (0 + 1) < 2 ^ 31 by omega) (show 0 < 2 ^ 31 by omega)).mp h_1
      exact absurd h_1 (by omega)
    · skip
      have h_1 : ¬ (0 + 1) ≤ 0 := fun z => h_1 ((nI_leI (show (0 + 1) < 2 ^ 31 by omega) (show 0 < 2 ^ 31 by omega)).mpr z)
      refine am_steps_r ok_M_putValue 6 (q' := (55, [some (.ref 19), some (.int (nI v0)), some (.int (nI m)), none], [.int ((Y1.1 12) - 1), .ref 36], wd C Y1 og)) rfl ?_
      rw [show (Y1.1 12 : Int32) = nI (0 + 1) from ((yE_12 h1).trans hd)]
      rw [show ((nI (0 + 1)) - 1 : Int32) = nI 0 from pk_sub (a := 0 + 1) (b := 1) (by omega)]
      refine am_iald_r ok_M_putValue rfl (w := wd C Y1 og) (f := Y1.2.1 15) rfl rfl (pk_in 0 10 (by omega)) ?_
      rw [nI_clamp (show 0 < 2 ^ 31 by omega)]
      rw [show (Y1.2.1 15 0) = (-1) from (congrFun (ya h1 (by decide)) 0).trans hnc]
      refine am_steps_r ok_M_putValue 6 (q' := (64, [some (.ref 19), some (.int (nI v0)), some (.int (nI m)), some (.int (-1))], [.int (nI m), .ref 19], wd C Y1 og)) rfl ?_
      refine am_callV_r (As := [.int (nI m)]) (rest := []) ok_M_putValue rfl rfl ok_M_closesOut oi_M_closesOut lk_6_316 (Or.inl ⟨_, _, _, rfl, rfl, rfl⟩) rfl rfl (Nat.le_of_ble_eq_true rfl) (c_M_closesOut_n _ C Yb og rd A hrb hrd bf L (by omega) Y1 h1 nv u V hYb v0 hv0 h7 hd ho (by omega) m hm hok me hev hpr) ?_
      rintro v_ w_ ⟨rfl, Y_2, rfl, hY_3⟩ -
      have hd0 : (yDp Yb 0).1 12 = nI 0 := rfl
      refine am_eq_r (q' := (67, [some (.ref 19), some (.int (nI v0)), some (.int (nI m)), some (.int (-1))], [], wd C Y_2 og)) rfl ?_
      refine am_steps_r ok_M_putValue 2 (q' := (38, [some (.ref 19), some (.int (nI v0)), some (.int (nI m)), some (.int (-1))], [], wd C Y_2 og)) rfl ?_
      refine am_steps_r ok_M_putValue 3 (q' := (bif decide ((Y_2.1 12) ≤ 0) then 181 else 45, [some (.ref 19), some (.int (nI v0)), some (.int (nI m)), some (.int (-1))], [], wd C Y_2 og)) rfl ?_
      rw [show (Y_2.1 12 : Int32) = nI 0 from ((yE_12 hY_3).trans hd0)]
      refine am_br_r (fun h_4 => ?_) (fun h_4 => ?_)
      · skip
        have h_4 : 0 ≤ 0 := (nI_leI (show 0 < 2 ^ 31 by omega) (show 0 < 2 ^ 31 by omega)).mp h_4
        refine am_vret_r ok_M_putValue rfl rfl rfl ?_
        exact hpo _ _ (bY_dp hB 0) (by rw [show ([62, 62] : List Int32) = clT V v0 by rw [clT, if_neg (by rw [h7]; decide)], if_pos rfl]; exact hY_3)
      · skip
        have h_4 : ¬ 0 ≤ 0 := fun z => h_4 ((nI_leI (show 0 < 2 ^ 31 by omega) (show 0 < 2 ^ 31 by omega)).mpr z)
        exfalso; omega
  | succ n ih =>
    intro ks Yb Y1 bf L post hlen hks hk4s hxs0 hB hd ho hlk hbf h1 hb hpo
    rcases ks with _ | ⟨k, _ | ⟨x, r⟩⟩
    · simp at hlen
    · simp at hlen; omega
    have hrb : Yb.1 16 = nI rd := (hB.1 16 (by decide)).trans hr
    have hYb := bY_vs hB hY
    have hnv := hY.1.2.1
    obtain ⟨hnc, hlk2⟩ := hlk
    obtain ⟨hkx, hlk3⟩ := hlk2
    obtain ⟨hk1, hk2⟩ := hks k List.mem_cons_self
    obtain ⟨hx1, hx2⟩ := hks x (List.mem_cons_of_mem _ List.mem_cons_self)
    have hk4 : V.1 k = 4 := hk4s k List.mem_cons_self
    have hk9 : ¬ V.1 k = 9 := by rw [hk4]; decide
    have hk6 : ¬ V.1 k = 6 := by rw [hk4]; decide
    have hk7 : ¬ V.1 k = 7 := by rw [hk4]; decide
    have hx9 : ¬ V.1 x = 9 := fun z => by have := ((hg x hx1).2.2.2.1 z).1; omega
    rw [wDk] at hb
    have hbw : ¬ (none : Option Nat) = some k → (wDk rd V f none m (wVl rd V f (wVl rd V f (bf, L) k) x) r).2.length + 1000 < 2147483648 := fun z => by rw [if_neg z] at hb; exact hb
    have hbl : (none : Option Nat) = some k → (wDk rd V f none m (wLn rd (bf, L) m) r).2.length + 1000 < 2147483648 := fun z => by rw [if_pos z] at hb; exact hb
    have hbv : ¬ (none : Option Nat) = some k → (wVl rd V f (wVl rd V f (bf, L) k) x).2.length + 1000 < 2147483648 := fun z => by have q1 := hbw z; have := wDk_le (rd := rd) (V := V) (f := f) (lk := none) (m := m) _ r (wVl rd V f (wVl rd V f (bf, L) k) x) (Nat.le_refl _); omega
    have hbL : L.length + 1000 < 2147483648 := by
      by_cases z : (none : Option Nat) = some k
      · have q1 := hbl z; have q2 := wDk_le (rd := rd) (V := V) (f := f) (lk := none) (m := m) _ r (wLn rd (bf, L) m) (Nat.le_refl _); have q3 := wLn_le (rd := rd) (bf, L) m; have h9 : (bf, L).2.length = L.length := rfl; omega
      · have q1 := hbv z; have q2 := wVl_le (rd := rd) (V := V) f (wVl rd V f (bf, L) k) x; have q3 := wVl_le (rd := rd) (V := V) f (bf, L) k; have h9 : (bf, L).2.length = L.length := rfl; omega
    have hbk1 : ¬ (none : Option Nat) = some k → (wVl rd V f (bf, L) k).2.length + 1000 < 2147483648 := fun z => by have q1 := hbv z; have q2 := wVl_le (rd := rd) (V := V) f (wVl rd V f (bf, L) k) x; omega
    have hbk2 := hbk1 (by simp)
    refine am_steps_r ok_M_putValue 3 (q' := (bif decide ((Y1.1 12) ≤ 0) then 181 else 45, [some (.ref 19), some (.int (nI v0)), some (.int (nI m)), none], [], wd C Y1 og)) rfl ?_
    rw [show (Y1.1 12 : Int32) = nI (0 + 1) from ((yE_12 h1).trans hd)]
    refine am_br_r (fun h_1 => ?_) (fun h_1 => ?_)
    · skip
      have h_1 : (0 + 1) ≤ 0 := (nI_leI (show (0 + 1) < 2 ^ 31 by omega) (show 0 < 2 ^ 31 by omega)).mp h_1
      exact absurd h_1 (by omega)
    · skip
      have h_1 : ¬ (0 + 1) ≤ 0 := fun z => h_1 ((nI_leI (show (0 + 1) < 2 ^ 31 by omega) (show 0 < 2 ^ 31 by omega)).mpr z)
      refine am_steps_r ok_M_putValue 6 (q' := (55, [some (.ref 19), some (.int (nI v0)), some (.int (nI m)), none], [.int ((Y1.1 12) - 1), .ref 36], wd C Y1 og)) rfl ?_
      rw [show (Y1.1 12 : Int32) = nI (0 + 1) from ((yE_12 h1).trans hd)]
      rw [show ((nI (0 + 1)) - 1 : Int32) = nI 0 from pk_sub (a := 0 + 1) (b := 1) (by omega)]
      refine am_iald_r ok_M_putValue rfl (w := wd C Y1 og) (f := Y1.2.1 15) rfl rfl (pk_in 0 10 (by omega)) ?_
      rw [nI_clamp (show 0 < 2 ^ 31 by omega)]
      rw [show (Y1.2.1 15 0) = (nI k) from (congrFun (ya h1 (by decide)) 0).trans hnc]
      refine am_steps_r ok_M_putValue 4 (q' := (bif decide ((nI k) = (-1)) then 62 else 70, [some (.ref 19), some (.int (nI v0)), some (.int (nI m)), some (.int (nI k))], [], wd C Y1 og)) rfl ?_
      refine am_br_r (fun h_2 => ?_) (fun h_2 => ?_)
      · skip
        exact absurd h_2 (nI_nm (show k < 2 ^ 31 by omega))
      · skip
        refine am_steps_r ok_M_putValue 9 (q' := (85, [some (.ref 19), some (.int (nI v0)), some (.int (nI m)), some (.int (nI k))], [.int (nI k), .ref 26, .int ((Y1.1 12) - 1), .ref 36], wd C Y1 og)) rfl ?_
        rw [show (Y1.1 12 : Int32) = nI (0 + 1) from ((yE_12 h1).trans hd)]
        rw [show ((nI (0 + 1)) - 1 : Int32) = nI 0 from pk_sub (a := 0 + 1) (b := 1) (by omega)]
        refine am_iald_r ok_M_putValue rfl (w := wd C Y1 og) (f := Y1.2.1 5) rfl rfl (pk_in k 300 (by omega)) ?_
        rw [nI_clamp (show k < 2 ^ 31 by omega)]
        rw [show (Y1.2.1 5 k) = Y.2.1 5 k from (congrFun (ya h1 (by decide)) k).trans (congrFun (hB.2.1 5 (by decide) (by decide)) k)]
        rw [hkx]
        refine am_iast_r ok_M_putValue rfl (w := wd C Y1 og) (f := Y1.2.1 15) rfl rfl (pk_in 0 10 (by omega)) ?_
        rw [nI_clamp (show 0 < 2 ^ 31 by omega)]
        refine am_eq_r (q' := (87, [some (.ref 19), some (.int (nI v0)), some (.int (nI m)), some (.int (nI k))], [], wd C (Y1.1, wd_u Y1.2.1 15 (upd (Y1.2.1 15) 0 (nI x)), Y1.2.2) og)) rfl ?_
        obtain ⟨Yz_3, hEz_3⟩ : ∃ Z : wd_Y, Z = (Y1.1, wd_u Y1.2.1 15 (upd (Y1.2.1 15) 0 (nI x)), Y1.2.2) := ⟨_, rfl⟩
        rw [← hEz_3]
        have h1z_3 : Yz_3 = yE (yNc Yb 0 (nI x)) A (bf, L) := by rw [hEz_3, h1]; exact yE_nc
        obtain ⟨Bz_3, hNBz_3⟩ : ∃ Z : wd_Y, Z = yNc Yb 0 (nI x) := ⟨_, rfl⟩
        rw [← hNBz_3] at h1z_3
        have hBz_3 : bY Y Bz_3 := by rw [hNBz_3]; exact bY_nc hB _ _
        have hrz_3 : Bz_3.1 16 = nI rd := (hBz_3.1 16 (by decide)).trans hr
        have hYz_3 := bY_vs hBz_3 hY
        have hdz_3 : Bz_3.1 12 = nI (0 + 1) := by rw [hNBz_3]; exact hd
        have hoz_3 : Bz_3.2.1 11 0 = nI v0 := by rw [hNBz_3]; exact ho
        have hnz_3 : Bz_3.2.1 15 0 = (nI x) := by rw [hNBz_3]; exact yNc_at
        refine am_eq_r (q' := (87, [some (.ref 19), some (.int (nI v0)), some (.int (nI m)), some (.int (nI k))], [], wd C Yz_3 og)) rfl ?_
        refine am_steps_r ok_M_putValue 4 (q' := (bif decide ((Yz_3.1 12) = 1) then 95 else 143, [some (.ref 19), some (.int (nI v0)), some (.int (nI m)), some (.int (nI k))], [], wd C Yz_3 og)) rfl ?_
        rw [show (Yz_3.1 12 : Int32) = nI (0 + 1) from ((yE_12 h1z_3).trans hdz_3)]
        refine am_br_r (fun h_4 => ?_) (fun h_4 => ?_)
        · skip
          have h_4 : (0 + 1) = 1 := (nI_eq (show (0 + 1) < 2 ^ 31 by omega) (show 1 < 2 ^ 31 by omega)).mp h_4
          refine am_steps_r ok_M_putValue 2 (q' := (bif decide ((nI m) < 0) then 143 else 99, [some (.ref 19), some (.int (nI v0)), some (.int (nI m)), some (.int (nI k))], [], wd C Yz_3 og)) rfl ?_
          refine am_br_r (fun h_5 => ?_) (fun h_5 => ?_)
          · skip
            have h_5 : m < 0 := (nI_ltI (show m < 2 ^ 31 by omega) (show 0 < 2 ^ 31 by omega)).mp h_5
            exact absurd h_5 (Nat.not_lt_zero _)
          · skip
            have h_5 : ¬ m < 0 := fun z => h_5 ((nI_ltI (show m < 2 ^ 31 by omega) (show 0 < 2 ^ 31 by omega)).mpr z)
            refine am_steps_r ok_M_putValue 3 (q' := (104, [some (.ref 19), some (.int (nI v0)), some (.int (nI m)), some (.int (nI k))], [.int (nI k), .ref 22], wd C Yz_3 og)) rfl ?_
            refine am_iald_r ok_M_putValue rfl (w := wd C Yz_3 og) (f := Yz_3.2.1 2) rfl rfl (pk_in k 300 (by omega)) ?_
            rw [nI_clamp (show k < 2 ^ 31 by omega)]
            rw [show (Yz_3.2.1 2 k) = V.1 k from yq_2 hYz_3 h1z_3 (v := k) (by omega)]
            refine am_steps_r ok_M_putValue 2 (q' := (bif decide ((V.1 k) = 4) then 109 else 143, [some (.ref 19), some (.int (nI v0)), some (.int (nI m)), some (.int (nI k))], [], wd C Yz_3 og)) rfl ?_
            refine am_br_r (fun h_6 => ?_) (fun h_6 => ?_)
            · skip
              refine am_steps_r ok_M_putValue 3 (q' := (112, [some (.ref 19), some (.int (nI v0)), some (.int (nI m)), some (.int (nI k))], [.int (nI v0), .ref 19, .int (nI k)], wd C Yz_3 og)) rfl ?_
              refine am_callV_r (As := [.int (nI v0)]) (rest := [.int (nI k)]) ok_M_putValue rfl rfl ok_M_keyOfLength oi_M_keyOfLength lk_6_319 (Or.inl ⟨_, _, _, rfl, rfl, rfl⟩) rfl rfl (Nat.le_of_ble_eq_true rfl) (c_M_keyOfLength _ C Yz_3 og nv u V (ys1 hYz_3 h1z_3) hok v0 hv0 me hev) ?_
              rintro v_ w_ ⟨rfl, rfl⟩ -
              rw [hlk0]
              refine am_eq_r (q' := (115, [some (.ref 19), some (.int (nI v0)), some (.int (nI m)), some (.int (nI k))], [.int (-1), .int (nI k)], wd C Yz_3 og)) rfl ?_
              refine am_steps_r ok_M_putValue 1 (q' := (bif decide ((nI k) = (-1)) then 118 else 143, [some (.ref 19), some (.int (nI v0)), some (.int (nI m)), some (.int (nI k))], [], wd C Yz_3 og)) rfl ?_
              refine am_br_r (fun h_7 => ?_) (fun h_7 => ?_)
              · skip
                exact absurd h_7 (nI_nm (show k < 2 ^ 31 by omega))
              · skip
                refine am_steps_r ok_M_putValue 3 (q' := (148, [some (.ref 19), some (.int (nI v0)), some (.int (nI m)), some (.int (nI k))], [.int (nI k), .ref 22], wd C Yz_3 og)) rfl ?_
                refine am_iald_r ok_M_putValue rfl (w := wd C Yz_3 og) (f := Yz_3.2.1 2) rfl rfl (pk_in k 300 (by omega)) ?_
                rw [nI_clamp (show k < 2 ^ 31 by omega)]
                rw [show (Yz_3.2.1 2 k) = V.1 k from yq_2 hYz_3 h1z_3 (v := k) (by omega)]
                refine am_steps_r ok_M_putValue 2 (q' := (bif decide ((V.1 k) = 6) then 165 else 154, [some (.ref 19), some (.int (nI v0)), some (.int (nI m)), some (.int (nI k))], [], wd C Yz_3 og)) rfl ?_
                refine am_br_r (fun h_8 => ?_) (fun h_8 => ?_)
                · skip
                  exact absurd ((show (V.1 k) = 4 by assumption).symm.trans (show (V.1 k) = 6 by assumption)) (by decide)
                · skip
                  refine am_steps_r ok_M_putValue 3 (q' := (159, [some (.ref 19), some (.int (nI v0)), some (.int (nI m)), some (.int (nI k))], [.int (nI k), .ref 22], wd C Yz_3 og)) rfl ?_
                  refine am_iald_r ok_M_putValue rfl (w := wd C Yz_3 og) (f := Yz_3.2.1 2) rfl rfl (pk_in k 300 (by omega)) ?_
                  rw [nI_clamp (show k < 2 ^ 31 by omega)]
                  rw [show (Yz_3.2.1 2 k) = V.1 k from yq_2 hYz_3 h1z_3 (v := k) (by omega)]
                  refine am_steps_r ok_M_putValue 2 (q' := (bif decide ((V.1 k) = 7) then 165 else 173, [some (.ref 19), some (.int (nI v0)), some (.int (nI m)), some (.int (nI k))], [], wd C Yz_3 og)) rfl ?_
                  refine am_br_r (fun h_9 => ?_) (fun h_9 => ?_)
                  · skip
                    exact absurd ((show (V.1 k) = 4 by assumption).symm.trans (show (V.1 k) = 7 by assumption)) (by decide)
                  · skip
                    refine am_steps_r ok_M_putValue 2 (q' := (175, [some (.ref 19), some (.int (nI v0)), some (.int (nI m)), some (.int (nI k))], [.int (nI k), .ref 19], wd C Yz_3 og)) rfl ?_
                    obtain ⟨f1, hf1⟩ : ∃ f1, f = f1 + 1 := ⟨f - 1, by omega⟩
                    refine am_callV_r (As := [.int (nI k)]) (rest := []) ok_M_putValue rfl rfl ok_M_putScalar oi_M_putScalar lk_6_310 (Or.inl ⟨_, _, _, rfl, rfl, rfl⟩) rfl rfl (Nat.le_of_ble_eq_true rfl) (c_M_putScalar _ C Bz_3 og rd A hrz_3 hrd bf L (by omega) Yz_3 h1z_3 nv u V hYz_3 hby k (by omega) (hg k (by omega)).2.2.2.2 (by assumption) (by assumption) (by assumption) f1 (by rw [← hf1]; omega)) ?_
                    rintro v_ w_ ⟨rfl, Y_10, rfl, hY_11⟩ -
                    rw [← hf1] at hY_11
                    have hbbn_12 := wVl_bf (rd := rd) (V := V) f (bf, L) k (show bf ≤ 5 by omega)
                    obtain ⟨bn_12, Ln_12, hsn_12⟩ : ∃ b_ L_, wVl rd V f (bf, L) k = (b_, L_) := ⟨_, _, rfl⟩
                    rw [hsn_12] at hY_11 hbbn_12
                    have hb5n_12 : bn_12 ≤ 5 := hbbn_12
                    refine am_eq_r (q' := (178, [some (.ref 19), some (.int (nI v0)), some (.int (nI m)), some (.int (nI k))], [], wd C Y_10 og)) rfl ?_
                    refine am_steps_r ok_M_putValue 1 (q' := (38, [some (.ref 19), some (.int (nI v0)), some (.int (nI m)), some (.int (nI k))], [], wd C Y_10 og)) rfl ?_
                    refine am_drop_r [3] (L' := [some (.ref 19), some (.int (nI v0)), some (.int (nI m)), none]) rfl ?_
                    have hlx : wVl rd V f (bf, L) k = (bn_12, Ln_12) := hsn_12
                    have hbx : (wVl rd V f (bn_12, Ln_12) x).2.length + 1000 < 2147483648 := by rw [← hlx]; exact hbv (by simp)
                    have hbX : Ln_12.length + 1000 < 2147483648 := by have := wVl_le (rd := rd) (V := V) f (bn_12, Ln_12) x; have h9 : (bn_12, Ln_12).2.length = Ln_12.length := rfl; omega
                    refine am_steps_r ok_M_putValue 3 (q' := (bif decide ((Y_10.1 12) ≤ 0) then 181 else 45, [some (.ref 19), some (.int (nI v0)), some (.int (nI m)), none], [], wd C Y_10 og)) rfl ?_
                    rw [show (Y_10.1 12 : Int32) = nI (0 + 1) from ((yE_12 hY_11).trans hdz_3)]
                    refine am_br_r (fun h_13 => ?_) (fun h_13 => ?_)
                    · skip
                      have h_13 : (0 + 1) ≤ 0 := (nI_leI (show (0 + 1) < 2 ^ 31 by omega) (show 0 < 2 ^ 31 by omega)).mp h_13
                      exact absurd h_13 (by omega)
                    · skip
                      have h_13 : ¬ (0 + 1) ≤ 0 := fun z => h_13 ((nI_leI (show (0 + 1) < 2 ^ 31 by omega) (show 0 < 2 ^ 31 by omega)).mpr z)
                      refine am_steps_r ok_M_putValue 6 (q' := (55, [some (.ref 19), some (.int (nI v0)), some (.int (nI m)), none], [.int ((Y_10.1 12) - 1), .ref 36], wd C Y_10 og)) rfl ?_
                      rw [show (Y_10.1 12 : Int32) = nI (0 + 1) from ((yE_12 hY_11).trans hdz_3)]
                      rw [show ((nI (0 + 1)) - 1 : Int32) = nI 0 from pk_sub (a := 0 + 1) (b := 1) (by omega)]
                      refine am_iald_r ok_M_putValue rfl (w := wd C Y_10 og) (f := Y_10.2.1 15) rfl rfl (pk_in 0 10 (by omega)) ?_
                      rw [nI_clamp (show 0 < 2 ^ 31 by omega)]
                      rw [show (Y_10.2.1 15 0) = (nI x) from (congrFun (ya hY_11 (by decide)) 0).trans hnz_3]
                      refine am_steps_r ok_M_putValue 4 (q' := (bif decide ((nI x) = (-1)) then 62 else 70, [some (.ref 19), some (.int (nI v0)), some (.int (nI m)), some (.int (nI x))], [], wd C Y_10 og)) rfl ?_
                      refine am_br_r (fun h_14 => ?_) (fun h_14 => ?_)
                      · skip
                        exact absurd h_14 (nI_nm (show x < 2 ^ 31 by omega))
                      · skip
                        refine am_steps_r ok_M_putValue 9 (q' := (85, [some (.ref 19), some (.int (nI v0)), some (.int (nI m)), some (.int (nI x))], [.int (nI x), .ref 26, .int ((Y_10.1 12) - 1), .ref 36], wd C Y_10 og)) rfl ?_
                        rw [show (Y_10.1 12 : Int32) = nI (0 + 1) from ((yE_12 hY_11).trans hdz_3)]
                        rw [show ((nI (0 + 1)) - 1 : Int32) = nI 0 from pk_sub (a := 0 + 1) (b := 1) (by omega)]
                        refine am_iald_r ok_M_putValue rfl (w := wd C Y_10 og) (f := Y_10.2.1 5) rfl rfl (pk_in x 300 (by omega)) ?_
                        rw [nI_clamp (show x < 2 ^ 31 by omega)]
                        rw [show (Y_10.2.1 5 x) = Y.2.1 5 x from (congrFun (ya hY_11 (by decide)) x).trans (congrFun (hBz_3.2.1 5 (by decide) (by decide)) x)]
                        refine am_iast_r ok_M_putValue rfl (w := wd C Y_10 og) (f := Y_10.2.1 15) rfl rfl (pk_in 0 10 (by omega)) ?_
                        rw [nI_clamp (show 0 < 2 ^ 31 by omega)]
                        refine am_eq_r (q' := (87, [some (.ref 19), some (.int (nI v0)), some (.int (nI m)), some (.int (nI x))], [], wd C (Y_10.1, wd_u Y_10.2.1 15 (upd (Y_10.2.1 15) 0 (Y.2.1 5 x)), Y_10.2.2) og)) rfl ?_
                        obtain ⟨Yz_15, hEz_15⟩ : ∃ Z : wd_Y, Z = (Y_10.1, wd_u Y_10.2.1 15 (upd (Y_10.2.1 15) 0 (Y.2.1 5 x)), Y_10.2.2) := ⟨_, rfl⟩
                        rw [← hEz_15]
                        have h1z_15 : Yz_15 = yE (yNc Bz_3 0 (Y.2.1 5 x)) A (bn_12, Ln_12) := by rw [hEz_15, hY_11]; exact yE_nc
                        obtain ⟨Bz_15, hNBz_15⟩ : ∃ Z : wd_Y, Z = yNc Bz_3 0 (Y.2.1 5 x) := ⟨_, rfl⟩
                        rw [← hNBz_15] at h1z_15
                        have hBz_15 : bY Y Bz_15 := by rw [hNBz_15]; exact bY_nc hBz_3 _ _
                        have hrz_15 : Bz_15.1 16 = nI rd := (hBz_15.1 16 (by decide)).trans hr
                        have hYz_15 := bY_vs hBz_15 hY
                        have hdz_15 : Bz_15.1 12 = nI (0 + 1) := by rw [hNBz_15]; exact hdz_3
                        have hoz_15 : Bz_15.2.1 11 0 = nI v0 := by rw [hNBz_15]; exact hoz_3
                        have hnz_15 : Bz_15.2.1 15 0 = (Y.2.1 5 x) := by rw [hNBz_15]; exact yNc_at
                        refine am_eq_r (q' := (87, [some (.ref 19), some (.int (nI v0)), some (.int (nI m)), some (.int (nI x))], [], wd C Yz_15 og)) rfl ?_
                        refine am_steps_r ok_M_putValue 4 (q' := (bif decide ((Yz_15.1 12) = 1) then 95 else 143, [some (.ref 19), some (.int (nI v0)), some (.int (nI m)), some (.int (nI x))], [], wd C Yz_15 og)) rfl ?_
                        rw [show (Yz_15.1 12 : Int32) = nI (0 + 1) from ((yE_12 h1z_15).trans hdz_15)]
                        refine am_br_r (fun h_16 => ?_) (fun h_16 => ?_)
                        · skip
                          have h_16 : (0 + 1) = 1 := (nI_eq (show (0 + 1) < 2 ^ 31 by omega) (show 1 < 2 ^ 31 by omega)).mp h_16
                          refine am_steps_r ok_M_putValue 2 (q' := (bif decide ((nI m) < 0) then 143 else 99, [some (.ref 19), some (.int (nI v0)), some (.int (nI m)), some (.int (nI x))], [], wd C Yz_15 og)) rfl ?_
                          refine am_br_r (fun h_17 => ?_) (fun h_17 => ?_)
                          · skip
                            have h_17 : m < 0 := (nI_ltI (show m < 2 ^ 31 by omega) (show 0 < 2 ^ 31 by omega)).mp h_17
                            exact absurd h_17 (Nat.not_lt_zero _)
                          · skip
                            have h_17 : ¬ m < 0 := fun z => h_17 ((nI_ltI (show m < 2 ^ 31 by omega) (show 0 < 2 ^ 31 by omega)).mpr z)
                            refine am_steps_r ok_M_putValue 3 (q' := (104, [some (.ref 19), some (.int (nI v0)), some (.int (nI m)), some (.int (nI x))], [.int (nI x), .ref 22], wd C Yz_15 og)) rfl ?_
                            refine am_iald_r ok_M_putValue rfl (w := wd C Yz_15 og) (f := Yz_15.2.1 2) rfl rfl (pk_in x 300 (by omega)) ?_
                            rw [nI_clamp (show x < 2 ^ 31 by omega)]
                            rw [show (Yz_15.2.1 2 x) = V.1 x from yq_2 hYz_15 h1z_15 (v := x) (by omega)]
                            refine am_steps_r ok_M_putValue 2 (q' := (bif decide ((V.1 x) = 4) then 109 else 143, [some (.ref 19), some (.int (nI v0)), some (.int (nI m)), some (.int (nI x))], [], wd C Yz_15 og)) rfl ?_
                            refine am_br_r (fun h_18 => ?_) (fun h_18 => ?_)
                            · skip
                              refine am_steps_r ok_M_putValue 3 (q' := (112, [some (.ref 19), some (.int (nI v0)), some (.int (nI m)), some (.int (nI x))], [.int (nI v0), .ref 19, .int (nI x)], wd C Yz_15 og)) rfl ?_
                              refine am_callV_r (As := [.int (nI v0)]) (rest := [.int (nI x)]) ok_M_putValue rfl rfl ok_M_keyOfLength oi_M_keyOfLength lk_6_319 (Or.inl ⟨_, _, _, rfl, rfl, rfl⟩) rfl rfl (Nat.le_of_ble_eq_true rfl) (c_M_keyOfLength _ C Yz_15 og nv u V (ys1 hYz_15 h1z_15) hok v0 hv0 me hev) ?_
                              rintro v_ w_ ⟨rfl, rfl⟩ -
                              rw [hlk0]
                              refine am_eq_r (q' := (115, [some (.ref 19), some (.int (nI v0)), some (.int (nI m)), some (.int (nI x))], [.int (-1), .int (nI x)], wd C Yz_15 og)) rfl ?_
                              refine am_steps_r ok_M_putValue 1 (q' := (bif decide ((nI x) = (-1)) then 118 else 143, [some (.ref 19), some (.int (nI v0)), some (.int (nI m)), some (.int (nI x))], [], wd C Yz_15 og)) rfl ?_
                              refine am_br_r (fun h_19 => ?_) (fun h_19 => ?_)
                              · skip
                                exact absurd h_19 (nI_nm (show x < 2 ^ 31 by omega))
                              · skip
                                refine am_steps_r ok_M_putValue 3 (q' := (148, [some (.ref 19), some (.int (nI v0)), some (.int (nI m)), some (.int (nI x))], [.int (nI x), .ref 22], wd C Yz_15 og)) rfl ?_
                                refine am_iald_r ok_M_putValue rfl (w := wd C Yz_15 og) (f := Yz_15.2.1 2) rfl rfl (pk_in x 300 (by omega)) ?_
                                rw [nI_clamp (show x < 2 ^ 31 by omega)]
                                rw [show (Yz_15.2.1 2 x) = V.1 x from yq_2 hYz_15 h1z_15 (v := x) (by omega)]
                                refine am_steps_r ok_M_putValue 2 (q' := (bif decide ((V.1 x) = 6) then 165 else 154, [some (.ref 19), some (.int (nI v0)), some (.int (nI m)), some (.int (nI x))], [], wd C Yz_15 og)) rfl ?_
                                refine am_br_r (fun h_20 => ?_) (fun h_20 => ?_)
                                · skip
                                  exact absurd ((show (V.1 x) = 4 by assumption).symm.trans (show (V.1 x) = 6 by assumption)) (by decide)
                                · skip
                                  refine am_steps_r ok_M_putValue 3 (q' := (159, [some (.ref 19), some (.int (nI v0)), some (.int (nI m)), some (.int (nI x))], [.int (nI x), .ref 22], wd C Yz_15 og)) rfl ?_
                                  refine am_iald_r ok_M_putValue rfl (w := wd C Yz_15 og) (f := Yz_15.2.1 2) rfl rfl (pk_in x 300 (by omega)) ?_
                                  rw [nI_clamp (show x < 2 ^ 31 by omega)]
                                  rw [show (Yz_15.2.1 2 x) = V.1 x from yq_2 hYz_15 h1z_15 (v := x) (by omega)]
                                  refine am_steps_r ok_M_putValue 2 (q' := (bif decide ((V.1 x) = 7) then 165 else 173, [some (.ref 19), some (.int (nI v0)), some (.int (nI m)), some (.int (nI x))], [], wd C Yz_15 og)) rfl ?_
                                  refine am_br_r (fun h_21 => ?_) (fun h_21 => ?_)
                                  · skip
                                    exact absurd ((show (V.1 x) = 4 by assumption).symm.trans (show (V.1 x) = 7 by assumption)) (by decide)
                                  · skip
                                    refine am_steps_r ok_M_putValue 2 (q' := (175, [some (.ref 19), some (.int (nI v0)), some (.int (nI m)), some (.int (nI x))], [.int (nI x), .ref 19], wd C Yz_15 og)) rfl ?_
                                    obtain ⟨f1, hf1⟩ : ∃ f1, f = f1 + 1 := ⟨f - 1, by omega⟩
                                    refine am_callV_r (As := [.int (nI x)]) (rest := []) ok_M_putValue rfl rfl ok_M_putScalar oi_M_putScalar lk_6_310 (Or.inl ⟨_, _, _, rfl, rfl, rfl⟩) rfl rfl (Nat.le_of_ble_eq_true rfl) (c_M_putScalar _ C Bz_15 og rd A hrz_15 hrd bn_12 Ln_12 (by omega) Yz_15 h1z_15 nv u V hYz_15 hby x (by omega) (hg x (by omega)).2.2.2.2 (by assumption) (by assumption) (by assumption) f1 (by rw [← hf1]; omega)) ?_
                                    rintro v_ w_ ⟨rfl, Y_22, rfl, hY_23⟩ -
                                    rw [← hf1] at hY_23
                                    have hbbn_24 := wVl_bf (rd := rd) (V := V) f (bn_12, Ln_12) x (show bn_12 ≤ 5 by omega)
                                    obtain ⟨bn_24, Ln_24, hsn_24⟩ : ∃ b_ L_, wVl rd V f (bn_12, Ln_12) x = (b_, L_) := ⟨_, _, rfl⟩
                                    rw [hsn_24] at hY_23 hbbn_24
                                    have hb5n_24 : bn_24 ≤ 5 := hbbn_24
                                    refine am_eq_r (q' := (178, [some (.ref 19), some (.int (nI v0)), some (.int (nI m)), some (.int (nI x))], [], wd C Y_22 og)) rfl ?_
                                    refine am_steps_r ok_M_putValue 1 (q' := (38, [some (.ref 19), some (.int (nI v0)), some (.int (nI m)), some (.int (nI x))], [], wd C Y_22 og)) rfl ?_
                                    refine am_drop_r [3] (L' := [some (.ref 19), some (.int (nI v0)), some (.int (nI m)), none]) rfl ?_
                                    have e2 : wVl rd V f (wVl rd V f (bf, L) k) x = (bn_24, Ln_24) := by rw [hlx]; exact hsn_24
                                    exact ih r Bz_15 Y_22 bn_24 Ln_24 post (by simp only [List.length_cons] at hlen; omega) (fun z hz => hks z (List.mem_cons_of_mem _ (List.mem_cons_of_mem _ hz))) (fun z hz => hk4s z (List.mem_cons_of_mem _ hz)) (fun z hz => hxs0 z (List.mem_cons_of_mem _ hz)) hBz_15 hdz_15 hoz_15 (by rw [hnz_15]; exact hlk3) (by omega) hY_23 (by rw [← e2]; exact hbw (by simp)) (by rw [wDk, if_neg (show ¬ (none : Option Nat) = some k by simp), e2] at hpo; exact hpo)
                            · skip
                              refine am_steps_r ok_M_putValue 3 (q' := (148, [some (.ref 19), some (.int (nI v0)), some (.int (nI m)), some (.int (nI x))], [.int (nI x), .ref 22], wd C Yz_15 og)) rfl ?_
                              refine am_iald_r ok_M_putValue rfl (w := wd C Yz_15 og) (f := Yz_15.2.1 2) rfl rfl (pk_in x 300 (by omega)) ?_
                              rw [nI_clamp (show x < 2 ^ 31 by omega)]
                              rw [show (Yz_15.2.1 2 x) = V.1 x from yq_2 hYz_15 h1z_15 (v := x) (by omega)]
                              refine am_steps_r ok_M_putValue 2 (q' := (bif decide ((V.1 x) = 6) then 165 else 154, [some (.ref 19), some (.int (nI v0)), some (.int (nI m)), some (.int (nI x))], [], wd C Yz_15 og)) rfl ?_
                              refine am_br_r (fun h_25 => ?_) (fun h_25 => ?_)
                              · skip
                                refine am_steps_r ok_M_putValue 2 (q' := (167, [some (.ref 19), some (.int (nI v0)), some (.int (nI m)), some (.int (nI x))], [.int (nI x), .ref 19], wd C Yz_15 og)) rfl ?_
                                have h67c : V.1 x = 6 ∨ V.1 x = 7 := by first | exact Or.inl (by assumption) | exact Or.inr (by assumption)
                                refine am_callV_r (As := [.int (nI x)]) (rest := []) ok_M_putValue rfl rfl ok_M_opensOut oi_M_opensOut lk_6_313 (Or.inl ⟨_, _, _, rfl, rfl, rfl⟩) rfl rfl (Nat.le_of_ble_eq_true rfl) (c_M_opensOut _ C Bz_15 og rd A hrz_15 hrd bn_12 Ln_12 (by omega) Yz_15 h1z_15 nv u V hYz_15 x (0 + 1) (by omega) (by omega) h67c hdz_15 (by omega)) ?_
                                rintro v_ w_ ⟨rfl, Y_26, rfl, hY_27⟩ -
                                refine am_eq_r (q' := (170, [some (.ref 19), some (.int (nI v0)), some (.int (nI m)), some (.int (nI x))], [], wd C Y_26 og)) rfl ?_
                                refine am_steps_r ok_M_putValue 2 (q' := (38, [some (.ref 19), some (.int (nI v0)), some (.int (nI m)), some (.int (nI x))], [], wd C Y_26 og)) rfl ?_
                                refine am_drop_r [3] (L' := [some (.ref 19), some (.int (nI v0)), some (.int (nI m)), none]) rfl ?_
                                obtain ⟨f1, hf1⟩ : ∃ f1, f = f1 + 1 := ⟨f - 1, by omega⟩
                                have hw67 := wVl_67 (rd := rd) (V := V) (f := f1) (st := (bn_12, Ln_12)) h67c
                                have hob := opT_len (V := V) (v := x)
                                have hgp := gpL_1 rd bn_12 4
                                have hyr := hY.2 x hx1
                                have hf67 : (V.1 x = 6 ∨ V.1 x = 7) → ¬ V.1 x = 9 := fun z => by rcases z with z | z <;> (rw [z]; decide)
                                have hbk : ((V.2.2.1 x).foldl (wVl rd V f1) (4, Ln_12 ++ gpL rd bn_12 4 ++ opT V x)).2.length + 1000 < 2147483648 := by
                                  have q9 := wPc_le (rd := rd) ((V.2.2.1 x).foldl (wVl rd V f1) (wPc rd (bn_12, Ln_12) 4 (opT V x))) 5 (clT V x)
                                  rw [hf1, hw67] at hbx
                                  have q8 : wPc rd (bn_12, Ln_12) 4 (opT V x) = (4, Ln_12 ++ gpL rd bn_12 4 ++ opT V x) := rfl
                                  rw [q8] at q9 hbx
                                  omega
                                refine y_all_m d C Y og rd A hr hrd nv u V hY hby ht hg hok v0 m hm f1 (V.2.2.1 x) x (0 + 1) _ Y_26 4 ((Ln_12 ++ gpL rd bn_12 4 ++ opT V x)) post (by omega) (by omega) hx1 h67c (fun z hz => ⟨(hok.1 x hx1).1 z hz, by have := (hg x hx1).2.1 (hf67 h67c) z hz; omega⟩) (bY_op hBz_15 (0 + 1) x (Bz_15.2.1 3 x)) rfl yOp_o (by rw [yOp_n, show Bz_15.2.1 3 x = Y.2.1 3 x from congrFun (hBz_15.2.1 3 (by decide) (by decide)) x]; exact hyr.2.2.2.2.1) (by omega) hY_27 hbk ?_
                                intro Y3 Y4 a1 a2 a3 a4
                                have hlo := a3 0 (by omega)
                                rw [(yOp_lo (show 0 < 0 + 1 by omega)).1, (yOp_lo (show 0 < 0 + 1 by omega)).2, hoz_15, hnz_15] at hlo
                                have a5 : Y4 = yE Y3 A (wVl rd V f (bn_12, Ln_12) x) := by rw [hf1, hw67]; exact a4
                                have hbb := wVl_bf (rd := rd) (V := V) f (bn_12, Ln_12) x (by omega)
                                obtain ⟨bc, Lc, hsc⟩ : ∃ b_ L_, wVl rd V f (bn_12, Ln_12) x = (b_, L_) := ⟨_, _, rfl⟩
                                rw [hsc] at a5 hbb
                                have e2 : wVl rd V f (wVl rd V f (bf, L) k) x = (bc, Lc) := by rw [hlx]; exact hsc
                                exact ih r Y3 Y4 bc Lc post (by simp only [List.length_cons] at hlen; omega) (fun z hz => hks z (List.mem_cons_of_mem _ (List.mem_cons_of_mem _ hz))) (fun z hz => hk4s z (List.mem_cons_of_mem _ hz)) (fun z hz => hxs0 z (List.mem_cons_of_mem _ hz)) a1 a2 hlo.1 (by rw [hlo.2]; exact hlk3) hbb a5 (by rw [← e2]; exact hbw (by simp)) (by rw [wDk, if_neg (show ¬ (none : Option Nat) = some k by simp), e2] at hpo; exact hpo)
                              · skip
                                refine am_steps_r ok_M_putValue 3 (q' := (159, [some (.ref 19), some (.int (nI v0)), some (.int (nI m)), some (.int (nI x))], [.int (nI x), .ref 22], wd C Yz_15 og)) rfl ?_
                                refine am_iald_r ok_M_putValue rfl (w := wd C Yz_15 og) (f := Yz_15.2.1 2) rfl rfl (pk_in x 300 (by omega)) ?_
                                rw [nI_clamp (show x < 2 ^ 31 by omega)]
                                rw [show (Yz_15.2.1 2 x) = V.1 x from yq_2 hYz_15 h1z_15 (v := x) (by omega)]
                                refine am_steps_r ok_M_putValue 2 (q' := (bif decide ((V.1 x) = 7) then 165 else 173, [some (.ref 19), some (.int (nI v0)), some (.int (nI m)), some (.int (nI x))], [], wd C Yz_15 og)) rfl ?_
                                refine am_br_r (fun h_28 => ?_) (fun h_28 => ?_)
                                · skip
                                  refine am_steps_r ok_M_putValue 2 (q' := (167, [some (.ref 19), some (.int (nI v0)), some (.int (nI m)), some (.int (nI x))], [.int (nI x), .ref 19], wd C Yz_15 og)) rfl ?_
                                  have h67c : V.1 x = 6 ∨ V.1 x = 7 := by first | exact Or.inl (by assumption) | exact Or.inr (by assumption)
                                  refine am_callV_r (As := [.int (nI x)]) (rest := []) ok_M_putValue rfl rfl ok_M_opensOut oi_M_opensOut lk_6_313 (Or.inl ⟨_, _, _, rfl, rfl, rfl⟩) rfl rfl (Nat.le_of_ble_eq_true rfl) (c_M_opensOut _ C Bz_15 og rd A hrz_15 hrd bn_12 Ln_12 (by omega) Yz_15 h1z_15 nv u V hYz_15 x (0 + 1) (by omega) (by omega) h67c hdz_15 (by omega)) ?_
                                  rintro v_ w_ ⟨rfl, Y_29, rfl, hY_30⟩ -
                                  refine am_eq_r (q' := (170, [some (.ref 19), some (.int (nI v0)), some (.int (nI m)), some (.int (nI x))], [], wd C Y_29 og)) rfl ?_
                                  refine am_steps_r ok_M_putValue 2 (q' := (38, [some (.ref 19), some (.int (nI v0)), some (.int (nI m)), some (.int (nI x))], [], wd C Y_29 og)) rfl ?_
                                  refine am_drop_r [3] (L' := [some (.ref 19), some (.int (nI v0)), some (.int (nI m)), none]) rfl ?_
                                  obtain ⟨f1, hf1⟩ : ∃ f1, f = f1 + 1 := ⟨f - 1, by omega⟩
                                  have hw67 := wVl_67 (rd := rd) (V := V) (f := f1) (st := (bn_12, Ln_12)) h67c
                                  have hob := opT_len (V := V) (v := x)
                                  have hgp := gpL_1 rd bn_12 4
                                  have hyr := hY.2 x hx1
                                  have hf67 : (V.1 x = 6 ∨ V.1 x = 7) → ¬ V.1 x = 9 := fun z => by rcases z with z | z <;> (rw [z]; decide)
                                  have hbk : ((V.2.2.1 x).foldl (wVl rd V f1) (4, Ln_12 ++ gpL rd bn_12 4 ++ opT V x)).2.length + 1000 < 2147483648 := by
                                    have q9 := wPc_le (rd := rd) ((V.2.2.1 x).foldl (wVl rd V f1) (wPc rd (bn_12, Ln_12) 4 (opT V x))) 5 (clT V x)
                                    rw [hf1, hw67] at hbx
                                    have q8 : wPc rd (bn_12, Ln_12) 4 (opT V x) = (4, Ln_12 ++ gpL rd bn_12 4 ++ opT V x) := rfl
                                    rw [q8] at q9 hbx
                                    omega
                                  refine y_all_m d C Y og rd A hr hrd nv u V hY hby ht hg hok v0 m hm f1 (V.2.2.1 x) x (0 + 1) _ Y_29 4 ((Ln_12 ++ gpL rd bn_12 4 ++ opT V x)) post (by omega) (by omega) hx1 h67c (fun z hz => ⟨(hok.1 x hx1).1 z hz, by have := (hg x hx1).2.1 (hf67 h67c) z hz; omega⟩) (bY_op hBz_15 (0 + 1) x (Bz_15.2.1 3 x)) rfl yOp_o (by rw [yOp_n, show Bz_15.2.1 3 x = Y.2.1 3 x from congrFun (hBz_15.2.1 3 (by decide) (by decide)) x]; exact hyr.2.2.2.2.1) (by omega) hY_30 hbk ?_
                                  intro Y3 Y4 a1 a2 a3 a4
                                  have hlo := a3 0 (by omega)
                                  rw [(yOp_lo (show 0 < 0 + 1 by omega)).1, (yOp_lo (show 0 < 0 + 1 by omega)).2, hoz_15, hnz_15] at hlo
                                  have a5 : Y4 = yE Y3 A (wVl rd V f (bn_12, Ln_12) x) := by rw [hf1, hw67]; exact a4
                                  have hbb := wVl_bf (rd := rd) (V := V) f (bn_12, Ln_12) x (by omega)
                                  obtain ⟨bc, Lc, hsc⟩ : ∃ b_ L_, wVl rd V f (bn_12, Ln_12) x = (b_, L_) := ⟨_, _, rfl⟩
                                  rw [hsc] at a5 hbb
                                  have e2 : wVl rd V f (wVl rd V f (bf, L) k) x = (bc, Lc) := by rw [hlx]; exact hsc
                                  exact ih r Y3 Y4 bc Lc post (by simp only [List.length_cons] at hlen; omega) (fun z hz => hks z (List.mem_cons_of_mem _ (List.mem_cons_of_mem _ hz))) (fun z hz => hk4s z (List.mem_cons_of_mem _ hz)) (fun z hz => hxs0 z (List.mem_cons_of_mem _ hz)) a1 a2 hlo.1 (by rw [hlo.2]; exact hlk3) hbb a5 (by rw [← e2]; exact hbw (by simp)) (by rw [wDk, if_neg (show ¬ (none : Option Nat) = some k by simp), e2] at hpo; exact hpo)
                                · skip
                                  refine am_steps_r ok_M_putValue 2 (q' := (175, [some (.ref 19), some (.int (nI v0)), some (.int (nI m)), some (.int (nI x))], [.int (nI x), .ref 19], wd C Yz_15 og)) rfl ?_
                                  obtain ⟨f1, hf1⟩ : ∃ f1, f = f1 + 1 := ⟨f - 1, by omega⟩
                                  refine am_callV_r (As := [.int (nI x)]) (rest := []) ok_M_putValue rfl rfl ok_M_putScalar oi_M_putScalar lk_6_310 (Or.inl ⟨_, _, _, rfl, rfl, rfl⟩) rfl rfl (Nat.le_of_ble_eq_true rfl) (c_M_putScalar _ C Bz_15 og rd A hrz_15 hrd bn_12 Ln_12 (by omega) Yz_15 h1z_15 nv u V hYz_15 hby x (by omega) (hg x (by omega)).2.2.2.2 (by assumption) (by assumption) (by assumption) f1 (by rw [← hf1]; omega)) ?_
                                  rintro v_ w_ ⟨rfl, Y_31, rfl, hY_32⟩ -
                                  rw [← hf1] at hY_32
                                  have hbbn_33 := wVl_bf (rd := rd) (V := V) f (bn_12, Ln_12) x (show bn_12 ≤ 5 by omega)
                                  obtain ⟨bn_33, Ln_33, hsn_33⟩ : ∃ b_ L_, wVl rd V f (bn_12, Ln_12) x = (b_, L_) := ⟨_, _, rfl⟩
                                  rw [hsn_33] at hY_32 hbbn_33
                                  have hb5n_33 : bn_33 ≤ 5 := hbbn_33
                                  refine am_eq_r (q' := (178, [some (.ref 19), some (.int (nI v0)), some (.int (nI m)), some (.int (nI x))], [], wd C Y_31 og)) rfl ?_
                                  refine am_steps_r ok_M_putValue 1 (q' := (38, [some (.ref 19), some (.int (nI v0)), some (.int (nI m)), some (.int (nI x))], [], wd C Y_31 og)) rfl ?_
                                  refine am_drop_r [3] (L' := [some (.ref 19), some (.int (nI v0)), some (.int (nI m)), none]) rfl ?_
                                  have e2 : wVl rd V f (wVl rd V f (bf, L) k) x = (bn_33, Ln_33) := by rw [hlx]; exact hsn_33
                                  exact ih r Bz_15 Y_31 bn_33 Ln_33 post (by simp only [List.length_cons] at hlen; omega) (fun z hz => hks z (List.mem_cons_of_mem _ (List.mem_cons_of_mem _ hz))) (fun z hz => hk4s z (List.mem_cons_of_mem _ hz)) (fun z hz => hxs0 z (List.mem_cons_of_mem _ hz)) hBz_15 hdz_15 hoz_15 (by rw [hnz_15]; exact hlk3) (by omega) hY_32 (by rw [← e2]; exact hbw (by simp)) (by rw [wDk, if_neg (show ¬ (none : Option Nat) = some k by simp), e2] at hpo; exact hpo)
                        · skip
                          have h_16 : ¬ (0 + 1) = 1 := fun z => h_16 ((nI_eq (show (0 + 1) < 2 ^ 31 by omega) (show 1 < 2 ^ 31 by omega)).mpr z)
                          exfalso; omega
            · skip
              exact absurd hk4 h_6
        · skip
          have h_4 : ¬ (0 + 1) = 1 := fun z => h_4 ((nI_eq (show (0 + 1) < 2 ^ 31 by omega) (show 1 < 2 ^ 31 by omega)).mpr z)
          exfalso; omega
set_option maxHeartbeats 4000000 in
set_option maxRecDepth 100000 in
theorem y_top_t (d : Nat) (C : wd_C) (Y : wd_Y) (og : Nat → Int64) (rd : Nat) (A : Nat → Int32) (hr : Y.1 16 = nI rd) (hrd : rd ≤ 1) (nv u : Nat) (V : VT) (hY : vsY Y nv u V) (hby : ∀ w, w < nv → ∀ k, k < (V.2.2.2 w).length → ∃ j, j < 256 ∧ (V.2.2.2 w).getD k 0 = nI j) (ht : Nat → Nat) (hg : hG nv V ht) (hok : vok nv V) (v0 : Nat) (hv0 : v0 < nv) (h7 : V.1 v0 = 7) (m : Nat) (hm : m < 1000000) (me : Nat) (hev : (V.2.2.1 v0).length = 2 * me) (t : Nat) (ht9 : t < nv) (hpr : ∃ tv, prF (isLn V) (V.2.2.1 v0) = some tv) (hprn : ∀ tv, prF (isLn V) (V.2.2.1 v0) = some tv → tv.2 < nv) (hlk0 : oN ((prF (isLn V) (V.2.2.1 v0)).map (fun z => z.1)) = nI t) (f : Nat) (hf8 : f = 8) : ∀ (n : Nat) (ks : List Nat) (Yb Y1 : wd_Y) (bf : Nat) (L : List Int32) (post : Option Value → am_W → Prop), ks.length = 2 * n → (∀ a ∈ ks, a < nv ∧ ht a + 1 ≤ 8) → (∀ a ∈ keysOf ks, V.1 a = 4) → (∀ a ∈ oddsOf ks, ¬ (some t) = some a) → bY Y Yb → Yb.1 12 = nI (0 + 1) → Yb.2.1 11 0 = nI v0 → lkd (Y.2.1 5) (Yb.2.1 15 0) ks → bf ≤ 5 → Y1 = yE Yb A (bf, L) → (wDk rd V f (some t) m (bf, L) ks).2.length + 1000 < 2147483648 → (∀ (Yb2 Y2 : wd_Y), bY Y Yb2 → Y2 = yE Yb2 A (wPc rd (if (some t) = none then wLn rd (wDk rd V f (some t) m (bf, L) ks) m else wDk rd V f (some t) m (bf, L) ks) 5 [62, 62]) → post none (wd C Y2 og)) → am_Rn l D cA ad fm (d + 5) m_M_putValue (wd C Y og).length post (38, [some (.ref 19), some (.int (nI v0)), some (.int (nI m)), none], [], wd C Y1 og) := by
  intro n
  induction n with
  | zero =>
    intro ks Yb Y1 bf L post hlen hks hk4s hxs0 hB hd ho hlk hbf h1 hb hpo
    have hk0 : ks = [] := List.eq_nil_of_length_eq_zero (by omega)
    subst hk0
    have hrb : Yb.1 16 = nI rd := (hB.1 16 (by decide)).trans hr
    have hYb := bY_vs hB hY
    have hnv := hY.1.2.1
    have hnc : Yb.2.1 15 0 = -1 := hlk
    have hbL : L.length + 1000 < 2147483648 := hb
    rw [show wDk rd V f (some t) m (bf, L) [] = (bf, L) by unfold wDk; rfl] at hpo
    refine am_steps_r ok_M_putValue 3 (q' := (bif decide ((Y1.1 12) ≤ 0) then 181 else 45, [some (.ref 19), some (.int (nI v0)), some (.int (nI m)), none], [], wd C Y1 og)) rfl ?_
    rw [show (Y1.1 12 : Int32) = nI (0 + 1) from ((yE_12 h1).trans hd)]
    refine am_br_r (fun h_1 => ?_) (fun h_1 => ?_)
    · skip
      have h_1 : (0 + 1) ≤ 0 := (nI_leI (show (0 + 1) < 2 ^ 31 by omega) (show 0 < 2 ^ 31 by omega)).mp h_1
      exact absurd h_1 (by omega)
    · skip
      have h_1 : ¬ (0 + 1) ≤ 0 := fun z => h_1 ((nI_leI (show (0 + 1) < 2 ^ 31 by omega) (show 0 < 2 ^ 31 by omega)).mpr z)
      refine am_steps_r ok_M_putValue 6 (q' := (55, [some (.ref 19), some (.int (nI v0)), some (.int (nI m)), none], [.int ((Y1.1 12) - 1), .ref 36], wd C Y1 og)) rfl ?_
      rw [show (Y1.1 12 : Int32) = nI (0 + 1) from ((yE_12 h1).trans hd)]
      rw [show ((nI (0 + 1)) - 1 : Int32) = nI 0 from pk_sub (a := 0 + 1) (b := 1) (by omega)]
      refine am_iald_r ok_M_putValue rfl (w := wd C Y1 og) (f := Y1.2.1 15) rfl rfl (pk_in 0 10 (by omega)) ?_
      rw [nI_clamp (show 0 < 2 ^ 31 by omega)]
      rw [show (Y1.2.1 15 0) = (-1) from (congrFun (ya h1 (by decide)) 0).trans hnc]
      refine am_steps_r ok_M_putValue 6 (q' := (64, [some (.ref 19), some (.int (nI v0)), some (.int (nI m)), some (.int (-1))], [.int (nI m), .ref 19], wd C Y1 og)) rfl ?_
      refine am_callV_r (As := [.int (nI m)]) (rest := []) ok_M_putValue rfl rfl ok_M_closesOut oi_M_closesOut lk_6_316 (Or.inl ⟨_, _, _, rfl, rfl, rfl⟩) rfl rfl (Nat.le_of_ble_eq_true rfl) (c_M_closesOut_t _ C Yb og rd A hrb hrd bf L (by omega) Y1 h1 nv u V hYb v0 hv0 h7 hd ho (by omega) m hm hok me hev hpr hprn) ?_
      rintro v_ w_ ⟨rfl, Y_2, rfl, hY_3⟩ -
      have hd0 : (yDp Yb 0).1 12 = nI 0 := rfl
      refine am_eq_r (q' := (67, [some (.ref 19), some (.int (nI v0)), some (.int (nI m)), some (.int (-1))], [], wd C Y_2 og)) rfl ?_
      refine am_steps_r ok_M_putValue 2 (q' := (38, [some (.ref 19), some (.int (nI v0)), some (.int (nI m)), some (.int (-1))], [], wd C Y_2 og)) rfl ?_
      refine am_steps_r ok_M_putValue 3 (q' := (bif decide ((Y_2.1 12) ≤ 0) then 181 else 45, [some (.ref 19), some (.int (nI v0)), some (.int (nI m)), some (.int (-1))], [], wd C Y_2 og)) rfl ?_
      rw [show (Y_2.1 12 : Int32) = nI 0 from ((yE_12 hY_3).trans hd0)]
      refine am_br_r (fun h_4 => ?_) (fun h_4 => ?_)
      · skip
        have h_4 : 0 ≤ 0 := (nI_leI (show 0 < 2 ^ 31 by omega) (show 0 < 2 ^ 31 by omega)).mp h_4
        refine am_vret_r ok_M_putValue rfl rfl rfl ?_
        exact hpo _ _ (bY_dp hB 0) (by rw [show ([62, 62] : List Int32) = clT V v0 by rw [clT, if_neg (by rw [h7]; decide)], if_neg (by simp)]; exact hY_3)
      · skip
        have h_4 : ¬ 0 ≤ 0 := fun z => h_4 ((nI_leI (show 0 < 2 ^ 31 by omega) (show 0 < 2 ^ 31 by omega)).mpr z)
        exfalso; omega
  | succ n ih =>
    intro ks Yb Y1 bf L post hlen hks hk4s hxs0 hB hd ho hlk hbf h1 hb hpo
    rcases ks with _ | ⟨k, _ | ⟨x, r⟩⟩
    · simp at hlen
    · simp at hlen; omega
    have hrb : Yb.1 16 = nI rd := (hB.1 16 (by decide)).trans hr
    have hYb := bY_vs hB hY
    have hnv := hY.1.2.1
    obtain ⟨hnc, hlk2⟩ := hlk
    obtain ⟨hkx, hlk3⟩ := hlk2
    obtain ⟨hk1, hk2⟩ := hks k List.mem_cons_self
    obtain ⟨hx1, hx2⟩ := hks x (List.mem_cons_of_mem _ List.mem_cons_self)
    have hk4 : V.1 k = 4 := hk4s k List.mem_cons_self
    have hk9 : ¬ V.1 k = 9 := by rw [hk4]; decide
    have hk6 : ¬ V.1 k = 6 := by rw [hk4]; decide
    have hk7 : ¬ V.1 k = 7 := by rw [hk4]; decide
    have hx9 : ¬ V.1 x = 9 := fun z => by have := ((hg x hx1).2.2.2.1 z).1; omega
    have hxs := hxs0 x List.mem_cons_self
    rw [wDk] at hb
    have hbw : ¬ (some t) = some k → (wDk rd V f (some t) m (wVl rd V f (wVl rd V f (bf, L) k) x) r).2.length + 1000 < 2147483648 := fun z => by rw [if_neg z] at hb; exact hb
    have hbl : (some t) = some k → (wDk rd V f (some t) m (wLn rd (bf, L) m) r).2.length + 1000 < 2147483648 := fun z => by rw [if_pos z] at hb; exact hb
    have hbv : ¬ (some t) = some k → (wVl rd V f (wVl rd V f (bf, L) k) x).2.length + 1000 < 2147483648 := fun z => by have q1 := hbw z; have := wDk_le (rd := rd) (V := V) (f := f) (lk := (some t)) (m := m) _ r (wVl rd V f (wVl rd V f (bf, L) k) x) (Nat.le_refl _); omega
    have hbL : L.length + 1000 < 2147483648 := by
      by_cases z : (some t) = some k
      · have q1 := hbl z; have q2 := wDk_le (rd := rd) (V := V) (f := f) (lk := (some t)) (m := m) _ r (wLn rd (bf, L) m) (Nat.le_refl _); have q3 := wLn_le (rd := rd) (bf, L) m; have h9 : (bf, L).2.length = L.length := rfl; omega
      · have q1 := hbv z; have q2 := wVl_le (rd := rd) (V := V) f (wVl rd V f (bf, L) k) x; have q3 := wVl_le (rd := rd) (V := V) f (bf, L) k; have h9 : (bf, L).2.length = L.length := rfl; omega
    have hbk1 : ¬ (some t) = some k → (wVl rd V f (bf, L) k).2.length + 1000 < 2147483648 := fun z => by have q1 := hbv z; have q2 := wVl_le (rd := rd) (V := V) f (wVl rd V f (bf, L) k) x; omega
    refine am_steps_r ok_M_putValue 3 (q' := (bif decide ((Y1.1 12) ≤ 0) then 181 else 45, [some (.ref 19), some (.int (nI v0)), some (.int (nI m)), none], [], wd C Y1 og)) rfl ?_
    rw [show (Y1.1 12 : Int32) = nI (0 + 1) from ((yE_12 h1).trans hd)]
    refine am_br_r (fun h_1 => ?_) (fun h_1 => ?_)
    · skip
      have h_1 : (0 + 1) ≤ 0 := (nI_leI (show (0 + 1) < 2 ^ 31 by omega) (show 0 < 2 ^ 31 by omega)).mp h_1
      exact absurd h_1 (by omega)
    · skip
      have h_1 : ¬ (0 + 1) ≤ 0 := fun z => h_1 ((nI_leI (show (0 + 1) < 2 ^ 31 by omega) (show 0 < 2 ^ 31 by omega)).mpr z)
      refine am_steps_r ok_M_putValue 6 (q' := (55, [some (.ref 19), some (.int (nI v0)), some (.int (nI m)), none], [.int ((Y1.1 12) - 1), .ref 36], wd C Y1 og)) rfl ?_
      rw [show (Y1.1 12 : Int32) = nI (0 + 1) from ((yE_12 h1).trans hd)]
      rw [show ((nI (0 + 1)) - 1 : Int32) = nI 0 from pk_sub (a := 0 + 1) (b := 1) (by omega)]
      refine am_iald_r ok_M_putValue rfl (w := wd C Y1 og) (f := Y1.2.1 15) rfl rfl (pk_in 0 10 (by omega)) ?_
      rw [nI_clamp (show 0 < 2 ^ 31 by omega)]
      rw [show (Y1.2.1 15 0) = (nI k) from (congrFun (ya h1 (by decide)) 0).trans hnc]
      refine am_steps_r ok_M_putValue 4 (q' := (bif decide ((nI k) = (-1)) then 62 else 70, [some (.ref 19), some (.int (nI v0)), some (.int (nI m)), some (.int (nI k))], [], wd C Y1 og)) rfl ?_
      refine am_br_r (fun h_2 => ?_) (fun h_2 => ?_)
      · skip
        exact absurd h_2 (nI_nm (show k < 2 ^ 31 by omega))
      · skip
        refine am_steps_r ok_M_putValue 9 (q' := (85, [some (.ref 19), some (.int (nI v0)), some (.int (nI m)), some (.int (nI k))], [.int (nI k), .ref 26, .int ((Y1.1 12) - 1), .ref 36], wd C Y1 og)) rfl ?_
        rw [show (Y1.1 12 : Int32) = nI (0 + 1) from ((yE_12 h1).trans hd)]
        rw [show ((nI (0 + 1)) - 1 : Int32) = nI 0 from pk_sub (a := 0 + 1) (b := 1) (by omega)]
        refine am_iald_r ok_M_putValue rfl (w := wd C Y1 og) (f := Y1.2.1 5) rfl rfl (pk_in k 300 (by omega)) ?_
        rw [nI_clamp (show k < 2 ^ 31 by omega)]
        rw [show (Y1.2.1 5 k) = Y.2.1 5 k from (congrFun (ya h1 (by decide)) k).trans (congrFun (hB.2.1 5 (by decide) (by decide)) k)]
        rw [hkx]
        refine am_iast_r ok_M_putValue rfl (w := wd C Y1 og) (f := Y1.2.1 15) rfl rfl (pk_in 0 10 (by omega)) ?_
        rw [nI_clamp (show 0 < 2 ^ 31 by omega)]
        refine am_eq_r (q' := (87, [some (.ref 19), some (.int (nI v0)), some (.int (nI m)), some (.int (nI k))], [], wd C (Y1.1, wd_u Y1.2.1 15 (upd (Y1.2.1 15) 0 (nI x)), Y1.2.2) og)) rfl ?_
        obtain ⟨Yz_3, hEz_3⟩ : ∃ Z : wd_Y, Z = (Y1.1, wd_u Y1.2.1 15 (upd (Y1.2.1 15) 0 (nI x)), Y1.2.2) := ⟨_, rfl⟩
        rw [← hEz_3]
        have h1z_3 : Yz_3 = yE (yNc Yb 0 (nI x)) A (bf, L) := by rw [hEz_3, h1]; exact yE_nc
        obtain ⟨Bz_3, hNBz_3⟩ : ∃ Z : wd_Y, Z = yNc Yb 0 (nI x) := ⟨_, rfl⟩
        rw [← hNBz_3] at h1z_3
        have hBz_3 : bY Y Bz_3 := by rw [hNBz_3]; exact bY_nc hB _ _
        have hrz_3 : Bz_3.1 16 = nI rd := (hBz_3.1 16 (by decide)).trans hr
        have hYz_3 := bY_vs hBz_3 hY
        have hdz_3 : Bz_3.1 12 = nI (0 + 1) := by rw [hNBz_3]; exact hd
        have hoz_3 : Bz_3.2.1 11 0 = nI v0 := by rw [hNBz_3]; exact ho
        have hnz_3 : Bz_3.2.1 15 0 = (nI x) := by rw [hNBz_3]; exact yNc_at
        refine am_eq_r (q' := (87, [some (.ref 19), some (.int (nI v0)), some (.int (nI m)), some (.int (nI k))], [], wd C Yz_3 og)) rfl ?_
        refine am_steps_r ok_M_putValue 4 (q' := (bif decide ((Yz_3.1 12) = 1) then 95 else 143, [some (.ref 19), some (.int (nI v0)), some (.int (nI m)), some (.int (nI k))], [], wd C Yz_3 og)) rfl ?_
        rw [show (Yz_3.1 12 : Int32) = nI (0 + 1) from ((yE_12 h1z_3).trans hdz_3)]
        refine am_br_r (fun h_4 => ?_) (fun h_4 => ?_)
        · skip
          have h_4 : (0 + 1) = 1 := (nI_eq (show (0 + 1) < 2 ^ 31 by omega) (show 1 < 2 ^ 31 by omega)).mp h_4
          refine am_steps_r ok_M_putValue 2 (q' := (bif decide ((nI m) < 0) then 143 else 99, [some (.ref 19), some (.int (nI v0)), some (.int (nI m)), some (.int (nI k))], [], wd C Yz_3 og)) rfl ?_
          refine am_br_r (fun h_5 => ?_) (fun h_5 => ?_)
          · skip
            have h_5 : m < 0 := (nI_ltI (show m < 2 ^ 31 by omega) (show 0 < 2 ^ 31 by omega)).mp h_5
            exact absurd h_5 (Nat.not_lt_zero _)
          · skip
            have h_5 : ¬ m < 0 := fun z => h_5 ((nI_ltI (show m < 2 ^ 31 by omega) (show 0 < 2 ^ 31 by omega)).mpr z)
            refine am_steps_r ok_M_putValue 3 (q' := (104, [some (.ref 19), some (.int (nI v0)), some (.int (nI m)), some (.int (nI k))], [.int (nI k), .ref 22], wd C Yz_3 og)) rfl ?_
            refine am_iald_r ok_M_putValue rfl (w := wd C Yz_3 og) (f := Yz_3.2.1 2) rfl rfl (pk_in k 300 (by omega)) ?_
            rw [nI_clamp (show k < 2 ^ 31 by omega)]
            rw [show (Yz_3.2.1 2 k) = V.1 k from yq_2 hYz_3 h1z_3 (v := k) (by omega)]
            refine am_steps_r ok_M_putValue 2 (q' := (bif decide ((V.1 k) = 4) then 109 else 143, [some (.ref 19), some (.int (nI v0)), some (.int (nI m)), some (.int (nI k))], [], wd C Yz_3 og)) rfl ?_
            refine am_br_r (fun h_6 => ?_) (fun h_6 => ?_)
            · skip
              refine am_steps_r ok_M_putValue 3 (q' := (112, [some (.ref 19), some (.int (nI v0)), some (.int (nI m)), some (.int (nI k))], [.int (nI v0), .ref 19, .int (nI k)], wd C Yz_3 og)) rfl ?_
              refine am_callV_r (As := [.int (nI v0)]) (rest := [.int (nI k)]) ok_M_putValue rfl rfl ok_M_keyOfLength oi_M_keyOfLength lk_6_319 (Or.inl ⟨_, _, _, rfl, rfl, rfl⟩) rfl rfl (Nat.le_of_ble_eq_true rfl) (c_M_keyOfLength _ C Yz_3 og nv u V (ys1 hYz_3 h1z_3) hok v0 hv0 me hev) ?_
              rintro v_ w_ ⟨rfl, rfl⟩ -
              rw [hlk0]
              refine am_eq_r (q' := (115, [some (.ref 19), some (.int (nI v0)), some (.int (nI m)), some (.int (nI k))], [.int (nI t), .int (nI k)], wd C Yz_3 og)) rfl ?_
              refine am_steps_r ok_M_putValue 1 (q' := (bif decide ((nI k) = (nI t)) then 118 else 143, [some (.ref 19), some (.int (nI v0)), some (.int (nI m)), some (.int (nI k))], [], wd C Yz_3 og)) rfl ?_
              refine am_br_r (fun h_7 => ?_) (fun h_7 => ?_)
              · skip
                have h_7 : k = t := (nI_eq (show k < 2 ^ 31 by omega) (show t < 2 ^ 31 by omega)).mp h_7
                have hkt : some t = some k := by rw [h_7]
                refine am_steps_r ok_M_putValue 2 (q' := (120, [some (.ref 19), some (.int (nI v0)), some (.int (nI m)), some (.int (nI k))], [.int (nI m), .ref 19], wd C Yz_3 og)) rfl ?_
                refine am_callV_r (As := [.int (nI m)]) (rest := []) ok_M_putValue rfl rfl ok_M_putLength oi_M_putLength lk_6_307 (Or.inl ⟨_, _, _, rfl, rfl, rfl⟩) rfl rfl (Nat.le_of_ble_eq_true rfl) (c_M_putLength _ C Bz_3 og rd A hrz_3 hrd bf L (by omega) Yz_3 h1z_3 m hm (by omega)) ?_
                rintro v_ w_ ⟨rfl, Y_8, rfl, hY_9⟩ -
                obtain ⟨bn_10, Ln_10, hsn_10⟩ : ∃ b_ L_, wLn rd (bf, L) m = (b_, L_) := ⟨_, _, rfl⟩
                rw [hsn_10] at hY_9
                have hb5n_10 : bn_10 ≤ 5 := by have : (wLn rd (bf, L) m).1 = 1 := rfl; rw [hsn_10] at this; simp at this; omega
                refine am_eq_r (q' := (123, [some (.ref 19), some (.int (nI v0)), some (.int (nI m)), some (.int (nI k))], [], wd C Y_8 og)) rfl ?_
                refine am_steps_r ok_M_putValue 8 (q' := (137, [some (.ref 19), some (.int (nI v0)), some (.int (nI m)), some (.int (nI k))], [.int (nI k), .ref 26, .ref 26, .int 0, .ref 36], wd C Y_8 og)) rfl ?_
                refine am_iald_r ok_M_putValue rfl (w := wd C Y_8 og) (f := Y_8.2.1 5) rfl rfl (pk_in k 300 (by omega)) ?_
                rw [nI_clamp (show k < 2 ^ 31 by omega)]
                rw [show (Y_8.2.1 5 k) = Y.2.1 5 k from (congrFun (ya hY_9 (by decide)) k).trans (congrFun (hBz_3.2.1 5 (by decide) (by decide)) k)]
                rw [hkx]
                refine am_iald_r ok_M_putValue rfl (w := wd C Y_8 og) (f := Y_8.2.1 5) rfl rfl (pk_in x 300 (by omega)) ?_
                rw [nI_clamp (show x < 2 ^ 31 by omega)]
                rw [show (Y_8.2.1 5 x) = Y.2.1 5 x from (congrFun (ya hY_9 (by decide)) x).trans (congrFun (hBz_3.2.1 5 (by decide) (by decide)) x)]
                refine am_iast_r ok_M_putValue rfl (w := wd C Y_8 og) (f := Y_8.2.1 15) rfl rfl (pk_in 0 10 (by omega)) ?_
                refine am_eq_r (q' := (140, [some (.ref 19), some (.int (nI v0)), some (.int (nI m)), some (.int (nI k))], [], wd C (Y_8.1, wd_u Y_8.2.1 15 (upd (Y_8.2.1 15) 0 (Y.2.1 5 x)), Y_8.2.2) og)) rfl ?_
                obtain ⟨Yz_11, hEz_11⟩ : ∃ Z : wd_Y, Z = (Y_8.1, wd_u Y_8.2.1 15 (upd (Y_8.2.1 15) 0 (Y.2.1 5 x)), Y_8.2.2) := ⟨_, rfl⟩
                rw [← hEz_11]
                have h1z_11 : Yz_11 = yE (yNc Bz_3 0 (Y.2.1 5 x)) A (bn_10, Ln_10) := by rw [hEz_11, hY_9]; exact yE_nc
                obtain ⟨Bz_11, hNBz_11⟩ : ∃ Z : wd_Y, Z = yNc Bz_3 0 (Y.2.1 5 x) := ⟨_, rfl⟩
                rw [← hNBz_11] at h1z_11
                have hBz_11 : bY Y Bz_11 := by rw [hNBz_11]; exact bY_nc hBz_3 _ _
                have hrz_11 : Bz_11.1 16 = nI rd := (hBz_11.1 16 (by decide)).trans hr
                have hYz_11 := bY_vs hBz_11 hY
                have hdz_11 : Bz_11.1 12 = nI (0 + 1) := by rw [hNBz_11]; exact hdz_3
                have hoz_11 : Bz_11.2.1 11 0 = nI v0 := by rw [hNBz_11]; exact hoz_3
                have hnz_11 : Bz_11.2.1 15 0 = (Y.2.1 5 x) := by rw [hNBz_11]; exact yNc_at
                refine am_eq_r (q' := (140, [some (.ref 19), some (.int (nI v0)), some (.int (nI m)), some (.int (nI k))], [], wd C Yz_11 og)) rfl ?_
                refine am_steps_r ok_M_putValue 2 (q' := (38, [some (.ref 19), some (.int (nI v0)), some (.int (nI m)), some (.int (nI k))], [], wd C Yz_11 og)) rfl ?_
                refine am_drop_r [3] (L' := [some (.ref 19), some (.int (nI v0)), some (.int (nI m)), none]) rfl ?_
                exact ih r Bz_11 Yz_11 bn_10 Ln_10 post (by simp only [List.length_cons] at hlen; omega) (fun z hz => hks z (List.mem_cons_of_mem _ (List.mem_cons_of_mem _ hz))) (fun z hz => hk4s z (List.mem_cons_of_mem _ hz)) (fun z hz => hxs0 z (List.mem_cons_of_mem _ hz)) hBz_11 hdz_11 hoz_11 (by rw [hnz_11]; exact hlk3) (by omega) h1z_11 (by rw [← hsn_10]; exact hbl hkt) (by rw [← hsn_10]; rw [wDk, if_pos hkt] at hpo; exact hpo)
              · skip
                have h_7 : ¬ k = t := fun z => h_7 ((nI_eq (show k < 2 ^ 31 by omega) (show t < 2 ^ 31 by omega)).mpr z)
                have hkt : ¬ some t = some k := fun z => h_7 (Option.some.inj z).symm
                have hbk2 := hbk1 hkt
                refine am_steps_r ok_M_putValue 3 (q' := (148, [some (.ref 19), some (.int (nI v0)), some (.int (nI m)), some (.int (nI k))], [.int (nI k), .ref 22], wd C Yz_3 og)) rfl ?_
                refine am_iald_r ok_M_putValue rfl (w := wd C Yz_3 og) (f := Yz_3.2.1 2) rfl rfl (pk_in k 300 (by omega)) ?_
                rw [nI_clamp (show k < 2 ^ 31 by omega)]
                rw [show (Yz_3.2.1 2 k) = V.1 k from yq_2 hYz_3 h1z_3 (v := k) (by omega)]
                refine am_steps_r ok_M_putValue 2 (q' := (bif decide ((V.1 k) = 6) then 165 else 154, [some (.ref 19), some (.int (nI v0)), some (.int (nI m)), some (.int (nI k))], [], wd C Yz_3 og)) rfl ?_
                refine am_br_r (fun h_12 => ?_) (fun h_12 => ?_)
                · skip
                  exact absurd ((show (V.1 k) = 4 by assumption).symm.trans (show (V.1 k) = 6 by assumption)) (by decide)
                · skip
                  refine am_steps_r ok_M_putValue 3 (q' := (159, [some (.ref 19), some (.int (nI v0)), some (.int (nI m)), some (.int (nI k))], [.int (nI k), .ref 22], wd C Yz_3 og)) rfl ?_
                  refine am_iald_r ok_M_putValue rfl (w := wd C Yz_3 og) (f := Yz_3.2.1 2) rfl rfl (pk_in k 300 (by omega)) ?_
                  rw [nI_clamp (show k < 2 ^ 31 by omega)]
                  rw [show (Yz_3.2.1 2 k) = V.1 k from yq_2 hYz_3 h1z_3 (v := k) (by omega)]
                  refine am_steps_r ok_M_putValue 2 (q' := (bif decide ((V.1 k) = 7) then 165 else 173, [some (.ref 19), some (.int (nI v0)), some (.int (nI m)), some (.int (nI k))], [], wd C Yz_3 og)) rfl ?_
                  refine am_br_r (fun h_13 => ?_) (fun h_13 => ?_)
                  · skip
                    exact absurd ((show (V.1 k) = 4 by assumption).symm.trans (show (V.1 k) = 7 by assumption)) (by decide)
                  · skip
                    refine am_steps_r ok_M_putValue 2 (q' := (175, [some (.ref 19), some (.int (nI v0)), some (.int (nI m)), some (.int (nI k))], [.int (nI k), .ref 19], wd C Yz_3 og)) rfl ?_
                    obtain ⟨f1, hf1⟩ : ∃ f1, f = f1 + 1 := ⟨f - 1, by omega⟩
                    refine am_callV_r (As := [.int (nI k)]) (rest := []) ok_M_putValue rfl rfl ok_M_putScalar oi_M_putScalar lk_6_310 (Or.inl ⟨_, _, _, rfl, rfl, rfl⟩) rfl rfl (Nat.le_of_ble_eq_true rfl) (c_M_putScalar _ C Bz_3 og rd A hrz_3 hrd bf L (by omega) Yz_3 h1z_3 nv u V hYz_3 hby k (by omega) (hg k (by omega)).2.2.2.2 (by assumption) (by assumption) (by assumption) f1 (by rw [← hf1]; omega)) ?_
                    rintro v_ w_ ⟨rfl, Y_14, rfl, hY_15⟩ -
                    rw [← hf1] at hY_15
                    have hbbn_16 := wVl_bf (rd := rd) (V := V) f (bf, L) k (show bf ≤ 5 by omega)
                    obtain ⟨bn_16, Ln_16, hsn_16⟩ : ∃ b_ L_, wVl rd V f (bf, L) k = (b_, L_) := ⟨_, _, rfl⟩
                    rw [hsn_16] at hY_15 hbbn_16
                    have hb5n_16 : bn_16 ≤ 5 := hbbn_16
                    refine am_eq_r (q' := (178, [some (.ref 19), some (.int (nI v0)), some (.int (nI m)), some (.int (nI k))], [], wd C Y_14 og)) rfl ?_
                    refine am_steps_r ok_M_putValue 1 (q' := (38, [some (.ref 19), some (.int (nI v0)), some (.int (nI m)), some (.int (nI k))], [], wd C Y_14 og)) rfl ?_
                    refine am_drop_r [3] (L' := [some (.ref 19), some (.int (nI v0)), some (.int (nI m)), none]) rfl ?_
                    have hlx : wVl rd V f (bf, L) k = (bn_16, Ln_16) := hsn_16
                    have hbx : (wVl rd V f (bn_16, Ln_16) x).2.length + 1000 < 2147483648 := by rw [← hlx]; exact hbv hkt
                    have hbX : Ln_16.length + 1000 < 2147483648 := by have := wVl_le (rd := rd) (V := V) f (bn_16, Ln_16) x; have h9 : (bn_16, Ln_16).2.length = Ln_16.length := rfl; omega
                    refine am_steps_r ok_M_putValue 3 (q' := (bif decide ((Y_14.1 12) ≤ 0) then 181 else 45, [some (.ref 19), some (.int (nI v0)), some (.int (nI m)), none], [], wd C Y_14 og)) rfl ?_
                    rw [show (Y_14.1 12 : Int32) = nI (0 + 1) from ((yE_12 hY_15).trans hdz_3)]
                    refine am_br_r (fun h_17 => ?_) (fun h_17 => ?_)
                    · skip
                      have h_17 : (0 + 1) ≤ 0 := (nI_leI (show (0 + 1) < 2 ^ 31 by omega) (show 0 < 2 ^ 31 by omega)).mp h_17
                      exact absurd h_17 (by omega)
                    · skip
                      have h_17 : ¬ (0 + 1) ≤ 0 := fun z => h_17 ((nI_leI (show (0 + 1) < 2 ^ 31 by omega) (show 0 < 2 ^ 31 by omega)).mpr z)
                      refine am_steps_r ok_M_putValue 6 (q' := (55, [some (.ref 19), some (.int (nI v0)), some (.int (nI m)), none], [.int ((Y_14.1 12) - 1), .ref 36], wd C Y_14 og)) rfl ?_
                      rw [show (Y_14.1 12 : Int32) = nI (0 + 1) from ((yE_12 hY_15).trans hdz_3)]
                      rw [show ((nI (0 + 1)) - 1 : Int32) = nI 0 from pk_sub (a := 0 + 1) (b := 1) (by omega)]
                      refine am_iald_r ok_M_putValue rfl (w := wd C Y_14 og) (f := Y_14.2.1 15) rfl rfl (pk_in 0 10 (by omega)) ?_
                      rw [nI_clamp (show 0 < 2 ^ 31 by omega)]
                      rw [show (Y_14.2.1 15 0) = (nI x) from (congrFun (ya hY_15 (by decide)) 0).trans hnz_3]
                      refine am_steps_r ok_M_putValue 4 (q' := (bif decide ((nI x) = (-1)) then 62 else 70, [some (.ref 19), some (.int (nI v0)), some (.int (nI m)), some (.int (nI x))], [], wd C Y_14 og)) rfl ?_
                      refine am_br_r (fun h_18 => ?_) (fun h_18 => ?_)
                      · skip
                        exact absurd h_18 (nI_nm (show x < 2 ^ 31 by omega))
                      · skip
                        refine am_steps_r ok_M_putValue 9 (q' := (85, [some (.ref 19), some (.int (nI v0)), some (.int (nI m)), some (.int (nI x))], [.int (nI x), .ref 26, .int ((Y_14.1 12) - 1), .ref 36], wd C Y_14 og)) rfl ?_
                        rw [show (Y_14.1 12 : Int32) = nI (0 + 1) from ((yE_12 hY_15).trans hdz_3)]
                        rw [show ((nI (0 + 1)) - 1 : Int32) = nI 0 from pk_sub (a := 0 + 1) (b := 1) (by omega)]
                        refine am_iald_r ok_M_putValue rfl (w := wd C Y_14 og) (f := Y_14.2.1 5) rfl rfl (pk_in x 300 (by omega)) ?_
                        rw [nI_clamp (show x < 2 ^ 31 by omega)]
                        rw [show (Y_14.2.1 5 x) = Y.2.1 5 x from (congrFun (ya hY_15 (by decide)) x).trans (congrFun (hBz_3.2.1 5 (by decide) (by decide)) x)]
                        refine am_iast_r ok_M_putValue rfl (w := wd C Y_14 og) (f := Y_14.2.1 15) rfl rfl (pk_in 0 10 (by omega)) ?_
                        rw [nI_clamp (show 0 < 2 ^ 31 by omega)]
                        refine am_eq_r (q' := (87, [some (.ref 19), some (.int (nI v0)), some (.int (nI m)), some (.int (nI x))], [], wd C (Y_14.1, wd_u Y_14.2.1 15 (upd (Y_14.2.1 15) 0 (Y.2.1 5 x)), Y_14.2.2) og)) rfl ?_
                        obtain ⟨Yz_19, hEz_19⟩ : ∃ Z : wd_Y, Z = (Y_14.1, wd_u Y_14.2.1 15 (upd (Y_14.2.1 15) 0 (Y.2.1 5 x)), Y_14.2.2) := ⟨_, rfl⟩
                        rw [← hEz_19]
                        have h1z_19 : Yz_19 = yE (yNc Bz_3 0 (Y.2.1 5 x)) A (bn_16, Ln_16) := by rw [hEz_19, hY_15]; exact yE_nc
                        obtain ⟨Bz_19, hNBz_19⟩ : ∃ Z : wd_Y, Z = yNc Bz_3 0 (Y.2.1 5 x) := ⟨_, rfl⟩
                        rw [← hNBz_19] at h1z_19
                        have hBz_19 : bY Y Bz_19 := by rw [hNBz_19]; exact bY_nc hBz_3 _ _
                        have hrz_19 : Bz_19.1 16 = nI rd := (hBz_19.1 16 (by decide)).trans hr
                        have hYz_19 := bY_vs hBz_19 hY
                        have hdz_19 : Bz_19.1 12 = nI (0 + 1) := by rw [hNBz_19]; exact hdz_3
                        have hoz_19 : Bz_19.2.1 11 0 = nI v0 := by rw [hNBz_19]; exact hoz_3
                        have hnz_19 : Bz_19.2.1 15 0 = (Y.2.1 5 x) := by rw [hNBz_19]; exact yNc_at
                        refine am_eq_r (q' := (87, [some (.ref 19), some (.int (nI v0)), some (.int (nI m)), some (.int (nI x))], [], wd C Yz_19 og)) rfl ?_
                        refine am_steps_r ok_M_putValue 4 (q' := (bif decide ((Yz_19.1 12) = 1) then 95 else 143, [some (.ref 19), some (.int (nI v0)), some (.int (nI m)), some (.int (nI x))], [], wd C Yz_19 og)) rfl ?_
                        rw [show (Yz_19.1 12 : Int32) = nI (0 + 1) from ((yE_12 h1z_19).trans hdz_19)]
                        refine am_br_r (fun h_20 => ?_) (fun h_20 => ?_)
                        · skip
                          have h_20 : (0 + 1) = 1 := (nI_eq (show (0 + 1) < 2 ^ 31 by omega) (show 1 < 2 ^ 31 by omega)).mp h_20
                          refine am_steps_r ok_M_putValue 2 (q' := (bif decide ((nI m) < 0) then 143 else 99, [some (.ref 19), some (.int (nI v0)), some (.int (nI m)), some (.int (nI x))], [], wd C Yz_19 og)) rfl ?_
                          refine am_br_r (fun h_21 => ?_) (fun h_21 => ?_)
                          · skip
                            have h_21 : m < 0 := (nI_ltI (show m < 2 ^ 31 by omega) (show 0 < 2 ^ 31 by omega)).mp h_21
                            exact absurd h_21 (Nat.not_lt_zero _)
                          · skip
                            have h_21 : ¬ m < 0 := fun z => h_21 ((nI_ltI (show m < 2 ^ 31 by omega) (show 0 < 2 ^ 31 by omega)).mpr z)
                            refine am_steps_r ok_M_putValue 3 (q' := (104, [some (.ref 19), some (.int (nI v0)), some (.int (nI m)), some (.int (nI x))], [.int (nI x), .ref 22], wd C Yz_19 og)) rfl ?_
                            refine am_iald_r ok_M_putValue rfl (w := wd C Yz_19 og) (f := Yz_19.2.1 2) rfl rfl (pk_in x 300 (by omega)) ?_
                            rw [nI_clamp (show x < 2 ^ 31 by omega)]
                            rw [show (Yz_19.2.1 2 x) = V.1 x from yq_2 hYz_19 h1z_19 (v := x) (by omega)]
                            refine am_steps_r ok_M_putValue 2 (q' := (bif decide ((V.1 x) = 4) then 109 else 143, [some (.ref 19), some (.int (nI v0)), some (.int (nI m)), some (.int (nI x))], [], wd C Yz_19 og)) rfl ?_
                            refine am_br_r (fun h_22 => ?_) (fun h_22 => ?_)
                            · skip
                              refine am_steps_r ok_M_putValue 3 (q' := (112, [some (.ref 19), some (.int (nI v0)), some (.int (nI m)), some (.int (nI x))], [.int (nI v0), .ref 19, .int (nI x)], wd C Yz_19 og)) rfl ?_
                              refine am_callV_r (As := [.int (nI v0)]) (rest := [.int (nI x)]) ok_M_putValue rfl rfl ok_M_keyOfLength oi_M_keyOfLength lk_6_319 (Or.inl ⟨_, _, _, rfl, rfl, rfl⟩) rfl rfl (Nat.le_of_ble_eq_true rfl) (c_M_keyOfLength _ C Yz_19 og nv u V (ys1 hYz_19 h1z_19) hok v0 hv0 me hev) ?_
                              rintro v_ w_ ⟨rfl, rfl⟩ -
                              rw [hlk0]
                              refine am_eq_r (q' := (115, [some (.ref 19), some (.int (nI v0)), some (.int (nI m)), some (.int (nI x))], [.int (nI t), .int (nI x)], wd C Yz_19 og)) rfl ?_
                              refine am_steps_r ok_M_putValue 1 (q' := (bif decide ((nI x) = (nI t)) then 118 else 143, [some (.ref 19), some (.int (nI v0)), some (.int (nI m)), some (.int (nI x))], [], wd C Yz_19 og)) rfl ?_
                              refine am_br_r (fun h_23 => ?_) (fun h_23 => ?_)
                              · skip
                                have h_23 : x = t := (nI_eq (show x < 2 ^ 31 by omega) (show t < 2 ^ 31 by omega)).mp h_23
                                exact absurd (by rw [h_23]) (hxs)
                              · skip
                                have h_23 : ¬ x = t := fun z => h_23 ((nI_eq (show x < 2 ^ 31 by omega) (show t < 2 ^ 31 by omega)).mpr z)
                                refine am_steps_r ok_M_putValue 3 (q' := (148, [some (.ref 19), some (.int (nI v0)), some (.int (nI m)), some (.int (nI x))], [.int (nI x), .ref 22], wd C Yz_19 og)) rfl ?_
                                refine am_iald_r ok_M_putValue rfl (w := wd C Yz_19 og) (f := Yz_19.2.1 2) rfl rfl (pk_in x 300 (by omega)) ?_
                                rw [nI_clamp (show x < 2 ^ 31 by omega)]
                                rw [show (Yz_19.2.1 2 x) = V.1 x from yq_2 hYz_19 h1z_19 (v := x) (by omega)]
                                refine am_steps_r ok_M_putValue 2 (q' := (bif decide ((V.1 x) = 6) then 165 else 154, [some (.ref 19), some (.int (nI v0)), some (.int (nI m)), some (.int (nI x))], [], wd C Yz_19 og)) rfl ?_
                                refine am_br_r (fun h_24 => ?_) (fun h_24 => ?_)
                                · skip
                                  exact absurd ((show (V.1 x) = 4 by assumption).symm.trans (show (V.1 x) = 6 by assumption)) (by decide)
                                · skip
                                  refine am_steps_r ok_M_putValue 3 (q' := (159, [some (.ref 19), some (.int (nI v0)), some (.int (nI m)), some (.int (nI x))], [.int (nI x), .ref 22], wd C Yz_19 og)) rfl ?_
                                  refine am_iald_r ok_M_putValue rfl (w := wd C Yz_19 og) (f := Yz_19.2.1 2) rfl rfl (pk_in x 300 (by omega)) ?_
                                  rw [nI_clamp (show x < 2 ^ 31 by omega)]
                                  rw [show (Yz_19.2.1 2 x) = V.1 x from yq_2 hYz_19 h1z_19 (v := x) (by omega)]
                                  refine am_steps_r ok_M_putValue 2 (q' := (bif decide ((V.1 x) = 7) then 165 else 173, [some (.ref 19), some (.int (nI v0)), some (.int (nI m)), some (.int (nI x))], [], wd C Yz_19 og)) rfl ?_
                                  refine am_br_r (fun h_25 => ?_) (fun h_25 => ?_)
                                  · skip
                                    exact absurd ((show (V.1 x) = 4 by assumption).symm.trans (show (V.1 x) = 7 by assumption)) (by decide)
                                  · skip
                                    refine am_steps_r ok_M_putValue 2 (q' := (175, [some (.ref 19), some (.int (nI v0)), some (.int (nI m)), some (.int (nI x))], [.int (nI x), .ref 19], wd C Yz_19 og)) rfl ?_
                                    obtain ⟨f1, hf1⟩ : ∃ f1, f = f1 + 1 := ⟨f - 1, by omega⟩
                                    refine am_callV_r (As := [.int (nI x)]) (rest := []) ok_M_putValue rfl rfl ok_M_putScalar oi_M_putScalar lk_6_310 (Or.inl ⟨_, _, _, rfl, rfl, rfl⟩) rfl rfl (Nat.le_of_ble_eq_true rfl) (c_M_putScalar _ C Bz_19 og rd A hrz_19 hrd bn_16 Ln_16 (by omega) Yz_19 h1z_19 nv u V hYz_19 hby x (by omega) (hg x (by omega)).2.2.2.2 (by assumption) (by assumption) (by assumption) f1 (by rw [← hf1]; omega)) ?_
                                    rintro v_ w_ ⟨rfl, Y_26, rfl, hY_27⟩ -
                                    rw [← hf1] at hY_27
                                    have hbbn_28 := wVl_bf (rd := rd) (V := V) f (bn_16, Ln_16) x (show bn_16 ≤ 5 by omega)
                                    obtain ⟨bn_28, Ln_28, hsn_28⟩ : ∃ b_ L_, wVl rd V f (bn_16, Ln_16) x = (b_, L_) := ⟨_, _, rfl⟩
                                    rw [hsn_28] at hY_27 hbbn_28
                                    have hb5n_28 : bn_28 ≤ 5 := hbbn_28
                                    refine am_eq_r (q' := (178, [some (.ref 19), some (.int (nI v0)), some (.int (nI m)), some (.int (nI x))], [], wd C Y_26 og)) rfl ?_
                                    refine am_steps_r ok_M_putValue 1 (q' := (38, [some (.ref 19), some (.int (nI v0)), some (.int (nI m)), some (.int (nI x))], [], wd C Y_26 og)) rfl ?_
                                    refine am_drop_r [3] (L' := [some (.ref 19), some (.int (nI v0)), some (.int (nI m)), none]) rfl ?_
                                    have e2 : wVl rd V f (wVl rd V f (bf, L) k) x = (bn_28, Ln_28) := by rw [hlx]; exact hsn_28
                                    exact ih r Bz_19 Y_26 bn_28 Ln_28 post (by simp only [List.length_cons] at hlen; omega) (fun z hz => hks z (List.mem_cons_of_mem _ (List.mem_cons_of_mem _ hz))) (fun z hz => hk4s z (List.mem_cons_of_mem _ hz)) (fun z hz => hxs0 z (List.mem_cons_of_mem _ hz)) hBz_19 hdz_19 hoz_19 (by rw [hnz_19]; exact hlk3) (by omega) hY_27 (by rw [← e2]; exact hbw hkt) (by rw [wDk, if_neg hkt, e2] at hpo; exact hpo)
                            · skip
                              refine am_steps_r ok_M_putValue 3 (q' := (148, [some (.ref 19), some (.int (nI v0)), some (.int (nI m)), some (.int (nI x))], [.int (nI x), .ref 22], wd C Yz_19 og)) rfl ?_
                              refine am_iald_r ok_M_putValue rfl (w := wd C Yz_19 og) (f := Yz_19.2.1 2) rfl rfl (pk_in x 300 (by omega)) ?_
                              rw [nI_clamp (show x < 2 ^ 31 by omega)]
                              rw [show (Yz_19.2.1 2 x) = V.1 x from yq_2 hYz_19 h1z_19 (v := x) (by omega)]
                              refine am_steps_r ok_M_putValue 2 (q' := (bif decide ((V.1 x) = 6) then 165 else 154, [some (.ref 19), some (.int (nI v0)), some (.int (nI m)), some (.int (nI x))], [], wd C Yz_19 og)) rfl ?_
                              refine am_br_r (fun h_29 => ?_) (fun h_29 => ?_)
                              · skip
                                refine am_steps_r ok_M_putValue 2 (q' := (167, [some (.ref 19), some (.int (nI v0)), some (.int (nI m)), some (.int (nI x))], [.int (nI x), .ref 19], wd C Yz_19 og)) rfl ?_
                                have h67c : V.1 x = 6 ∨ V.1 x = 7 := by first | exact Or.inl (by assumption) | exact Or.inr (by assumption)
                                refine am_callV_r (As := [.int (nI x)]) (rest := []) ok_M_putValue rfl rfl ok_M_opensOut oi_M_opensOut lk_6_313 (Or.inl ⟨_, _, _, rfl, rfl, rfl⟩) rfl rfl (Nat.le_of_ble_eq_true rfl) (c_M_opensOut _ C Bz_19 og rd A hrz_19 hrd bn_16 Ln_16 (by omega) Yz_19 h1z_19 nv u V hYz_19 x (0 + 1) (by omega) (by omega) h67c hdz_19 (by omega)) ?_
                                rintro v_ w_ ⟨rfl, Y_30, rfl, hY_31⟩ -
                                refine am_eq_r (q' := (170, [some (.ref 19), some (.int (nI v0)), some (.int (nI m)), some (.int (nI x))], [], wd C Y_30 og)) rfl ?_
                                refine am_steps_r ok_M_putValue 2 (q' := (38, [some (.ref 19), some (.int (nI v0)), some (.int (nI m)), some (.int (nI x))], [], wd C Y_30 og)) rfl ?_
                                refine am_drop_r [3] (L' := [some (.ref 19), some (.int (nI v0)), some (.int (nI m)), none]) rfl ?_
                                obtain ⟨f1, hf1⟩ : ∃ f1, f = f1 + 1 := ⟨f - 1, by omega⟩
                                have hw67 := wVl_67 (rd := rd) (V := V) (f := f1) (st := (bn_16, Ln_16)) h67c
                                have hob := opT_len (V := V) (v := x)
                                have hgp := gpL_1 rd bn_16 4
                                have hyr := hY.2 x hx1
                                have hf67 : (V.1 x = 6 ∨ V.1 x = 7) → ¬ V.1 x = 9 := fun z => by rcases z with z | z <;> (rw [z]; decide)
                                have hbk : ((V.2.2.1 x).foldl (wVl rd V f1) (4, Ln_16 ++ gpL rd bn_16 4 ++ opT V x)).2.length + 1000 < 2147483648 := by
                                  have q9 := wPc_le (rd := rd) ((V.2.2.1 x).foldl (wVl rd V f1) (wPc rd (bn_16, Ln_16) 4 (opT V x))) 5 (clT V x)
                                  rw [hf1, hw67] at hbx
                                  have q8 : wPc rd (bn_16, Ln_16) 4 (opT V x) = (4, Ln_16 ++ gpL rd bn_16 4 ++ opT V x) := rfl
                                  rw [q8] at q9 hbx
                                  omega
                                refine y_all_m d C Y og rd A hr hrd nv u V hY hby ht hg hok v0 m hm f1 (V.2.2.1 x) x (0 + 1) _ Y_30 4 ((Ln_16 ++ gpL rd bn_16 4 ++ opT V x)) post (by omega) (by omega) hx1 h67c (fun z hz => ⟨(hok.1 x hx1).1 z hz, by have := (hg x hx1).2.1 (hf67 h67c) z hz; omega⟩) (bY_op hBz_19 (0 + 1) x (Bz_19.2.1 3 x)) rfl yOp_o (by rw [yOp_n, show Bz_19.2.1 3 x = Y.2.1 3 x from congrFun (hBz_19.2.1 3 (by decide) (by decide)) x]; exact hyr.2.2.2.2.1) (by omega) hY_31 hbk ?_
                                intro Y3 Y4 a1 a2 a3 a4
                                have hlo := a3 0 (by omega)
                                rw [(yOp_lo (show 0 < 0 + 1 by omega)).1, (yOp_lo (show 0 < 0 + 1 by omega)).2, hoz_19, hnz_19] at hlo
                                have a5 : Y4 = yE Y3 A (wVl rd V f (bn_16, Ln_16) x) := by rw [hf1, hw67]; exact a4
                                have hbb := wVl_bf (rd := rd) (V := V) f (bn_16, Ln_16) x (by omega)
                                obtain ⟨bc, Lc, hsc⟩ : ∃ b_ L_, wVl rd V f (bn_16, Ln_16) x = (b_, L_) := ⟨_, _, rfl⟩
                                rw [hsc] at a5 hbb
                                have e2 : wVl rd V f (wVl rd V f (bf, L) k) x = (bc, Lc) := by rw [hlx]; exact hsc
                                exact ih r Y3 Y4 bc Lc post (by simp only [List.length_cons] at hlen; omega) (fun z hz => hks z (List.mem_cons_of_mem _ (List.mem_cons_of_mem _ hz))) (fun z hz => hk4s z (List.mem_cons_of_mem _ hz)) (fun z hz => hxs0 z (List.mem_cons_of_mem _ hz)) a1 a2 hlo.1 (by rw [hlo.2]; exact hlk3) hbb a5 (by rw [← e2]; exact hbw hkt) (by rw [wDk, if_neg hkt, e2] at hpo; exact hpo)
                              · skip
                                refine am_steps_r ok_M_putValue 3 (q' := (159, [some (.ref 19), some (.int (nI v0)), some (.int (nI m)), some (.int (nI x))], [.int (nI x), .ref 22], wd C Yz_19 og)) rfl ?_
                                refine am_iald_r ok_M_putValue rfl (w := wd C Yz_19 og) (f := Yz_19.2.1 2) rfl rfl (pk_in x 300 (by omega)) ?_
                                rw [nI_clamp (show x < 2 ^ 31 by omega)]
                                rw [show (Yz_19.2.1 2 x) = V.1 x from yq_2 hYz_19 h1z_19 (v := x) (by omega)]
                                refine am_steps_r ok_M_putValue 2 (q' := (bif decide ((V.1 x) = 7) then 165 else 173, [some (.ref 19), some (.int (nI v0)), some (.int (nI m)), some (.int (nI x))], [], wd C Yz_19 og)) rfl ?_
                                refine am_br_r (fun h_32 => ?_) (fun h_32 => ?_)
                                · skip
                                  refine am_steps_r ok_M_putValue 2 (q' := (167, [some (.ref 19), some (.int (nI v0)), some (.int (nI m)), some (.int (nI x))], [.int (nI x), .ref 19], wd C Yz_19 og)) rfl ?_
                                  have h67c : V.1 x = 6 ∨ V.1 x = 7 := by first | exact Or.inl (by assumption) | exact Or.inr (by assumption)
                                  refine am_callV_r (As := [.int (nI x)]) (rest := []) ok_M_putValue rfl rfl ok_M_opensOut oi_M_opensOut lk_6_313 (Or.inl ⟨_, _, _, rfl, rfl, rfl⟩) rfl rfl (Nat.le_of_ble_eq_true rfl) (c_M_opensOut _ C Bz_19 og rd A hrz_19 hrd bn_16 Ln_16 (by omega) Yz_19 h1z_19 nv u V hYz_19 x (0 + 1) (by omega) (by omega) h67c hdz_19 (by omega)) ?_
                                  rintro v_ w_ ⟨rfl, Y_33, rfl, hY_34⟩ -
                                  refine am_eq_r (q' := (170, [some (.ref 19), some (.int (nI v0)), some (.int (nI m)), some (.int (nI x))], [], wd C Y_33 og)) rfl ?_
                                  refine am_steps_r ok_M_putValue 2 (q' := (38, [some (.ref 19), some (.int (nI v0)), some (.int (nI m)), some (.int (nI x))], [], wd C Y_33 og)) rfl ?_
                                  refine am_drop_r [3] (L' := [some (.ref 19), some (.int (nI v0)), some (.int (nI m)), none]) rfl ?_
                                  obtain ⟨f1, hf1⟩ : ∃ f1, f = f1 + 1 := ⟨f - 1, by omega⟩
                                  have hw67 := wVl_67 (rd := rd) (V := V) (f := f1) (st := (bn_16, Ln_16)) h67c
                                  have hob := opT_len (V := V) (v := x)
                                  have hgp := gpL_1 rd bn_16 4
                                  have hyr := hY.2 x hx1
                                  have hf67 : (V.1 x = 6 ∨ V.1 x = 7) → ¬ V.1 x = 9 := fun z => by rcases z with z | z <;> (rw [z]; decide)
                                  have hbk : ((V.2.2.1 x).foldl (wVl rd V f1) (4, Ln_16 ++ gpL rd bn_16 4 ++ opT V x)).2.length + 1000 < 2147483648 := by
                                    have q9 := wPc_le (rd := rd) ((V.2.2.1 x).foldl (wVl rd V f1) (wPc rd (bn_16, Ln_16) 4 (opT V x))) 5 (clT V x)
                                    rw [hf1, hw67] at hbx
                                    have q8 : wPc rd (bn_16, Ln_16) 4 (opT V x) = (4, Ln_16 ++ gpL rd bn_16 4 ++ opT V x) := rfl
                                    rw [q8] at q9 hbx
                                    omega
                                  refine y_all_m d C Y og rd A hr hrd nv u V hY hby ht hg hok v0 m hm f1 (V.2.2.1 x) x (0 + 1) _ Y_33 4 ((Ln_16 ++ gpL rd bn_16 4 ++ opT V x)) post (by omega) (by omega) hx1 h67c (fun z hz => ⟨(hok.1 x hx1).1 z hz, by have := (hg x hx1).2.1 (hf67 h67c) z hz; omega⟩) (bY_op hBz_19 (0 + 1) x (Bz_19.2.1 3 x)) rfl yOp_o (by rw [yOp_n, show Bz_19.2.1 3 x = Y.2.1 3 x from congrFun (hBz_19.2.1 3 (by decide) (by decide)) x]; exact hyr.2.2.2.2.1) (by omega) hY_34 hbk ?_
                                  intro Y3 Y4 a1 a2 a3 a4
                                  have hlo := a3 0 (by omega)
                                  rw [(yOp_lo (show 0 < 0 + 1 by omega)).1, (yOp_lo (show 0 < 0 + 1 by omega)).2, hoz_19, hnz_19] at hlo
                                  have a5 : Y4 = yE Y3 A (wVl rd V f (bn_16, Ln_16) x) := by rw [hf1, hw67]; exact a4
                                  have hbb := wVl_bf (rd := rd) (V := V) f (bn_16, Ln_16) x (by omega)
                                  obtain ⟨bc, Lc, hsc⟩ : ∃ b_ L_, wVl rd V f (bn_16, Ln_16) x = (b_, L_) := ⟨_, _, rfl⟩
                                  rw [hsc] at a5 hbb
                                  have e2 : wVl rd V f (wVl rd V f (bf, L) k) x = (bc, Lc) := by rw [hlx]; exact hsc
                                  exact ih r Y3 Y4 bc Lc post (by simp only [List.length_cons] at hlen; omega) (fun z hz => hks z (List.mem_cons_of_mem _ (List.mem_cons_of_mem _ hz))) (fun z hz => hk4s z (List.mem_cons_of_mem _ hz)) (fun z hz => hxs0 z (List.mem_cons_of_mem _ hz)) a1 a2 hlo.1 (by rw [hlo.2]; exact hlk3) hbb a5 (by rw [← e2]; exact hbw hkt) (by rw [wDk, if_neg hkt, e2] at hpo; exact hpo)
                                · skip
                                  refine am_steps_r ok_M_putValue 2 (q' := (175, [some (.ref 19), some (.int (nI v0)), some (.int (nI m)), some (.int (nI x))], [.int (nI x), .ref 19], wd C Yz_19 og)) rfl ?_
                                  obtain ⟨f1, hf1⟩ : ∃ f1, f = f1 + 1 := ⟨f - 1, by omega⟩
                                  refine am_callV_r (As := [.int (nI x)]) (rest := []) ok_M_putValue rfl rfl ok_M_putScalar oi_M_putScalar lk_6_310 (Or.inl ⟨_, _, _, rfl, rfl, rfl⟩) rfl rfl (Nat.le_of_ble_eq_true rfl) (c_M_putScalar _ C Bz_19 og rd A hrz_19 hrd bn_16 Ln_16 (by omega) Yz_19 h1z_19 nv u V hYz_19 hby x (by omega) (hg x (by omega)).2.2.2.2 (by assumption) (by assumption) (by assumption) f1 (by rw [← hf1]; omega)) ?_
                                  rintro v_ w_ ⟨rfl, Y_35, rfl, hY_36⟩ -
                                  rw [← hf1] at hY_36
                                  have hbbn_37 := wVl_bf (rd := rd) (V := V) f (bn_16, Ln_16) x (show bn_16 ≤ 5 by omega)
                                  obtain ⟨bn_37, Ln_37, hsn_37⟩ : ∃ b_ L_, wVl rd V f (bn_16, Ln_16) x = (b_, L_) := ⟨_, _, rfl⟩
                                  rw [hsn_37] at hY_36 hbbn_37
                                  have hb5n_37 : bn_37 ≤ 5 := hbbn_37
                                  refine am_eq_r (q' := (178, [some (.ref 19), some (.int (nI v0)), some (.int (nI m)), some (.int (nI x))], [], wd C Y_35 og)) rfl ?_
                                  refine am_steps_r ok_M_putValue 1 (q' := (38, [some (.ref 19), some (.int (nI v0)), some (.int (nI m)), some (.int (nI x))], [], wd C Y_35 og)) rfl ?_
                                  refine am_drop_r [3] (L' := [some (.ref 19), some (.int (nI v0)), some (.int (nI m)), none]) rfl ?_
                                  have e2 : wVl rd V f (wVl rd V f (bf, L) k) x = (bn_37, Ln_37) := by rw [hlx]; exact hsn_37
                                  exact ih r Bz_19 Y_35 bn_37 Ln_37 post (by simp only [List.length_cons] at hlen; omega) (fun z hz => hks z (List.mem_cons_of_mem _ (List.mem_cons_of_mem _ hz))) (fun z hz => hk4s z (List.mem_cons_of_mem _ hz)) (fun z hz => hxs0 z (List.mem_cons_of_mem _ hz)) hBz_19 hdz_19 hoz_19 (by rw [hnz_19]; exact hlk3) (by omega) hY_36 (by rw [← e2]; exact hbw hkt) (by rw [wDk, if_neg hkt, e2] at hpo; exact hpo)
                        · skip
                          have h_20 : ¬ (0 + 1) = 1 := fun z => h_20 ((nI_eq (show (0 + 1) < 2 ^ 31 by omega) (show 1 < 2 ^ 31 by omega)).mpr z)
                          exfalso; omega
            · skip
              exact absurd hk4 h_6
        · skip
          have h_4 : ¬ (0 + 1) = 1 := fun z => h_4 ((nI_eq (show (0 + 1) < 2 ^ 31 by omega) (show 1 < 2 ^ 31 by omega)).mpr z)
          exfalso; omega
set_option maxHeartbeats 4000000 in
set_option maxRecDepth 100000 in
theorem c_M_putValue_p (d : Nat) (C : wd_C) (Y : wd_Y) (og : Nat → Int64) (rd : Nat) (A : Nat → Int32) (hr : Y.1 16 = nI rd) (hrd : rd ≤ 1) (nv u : Nat) (V : VT) (hY : vsY Y nv u V) (hby : ∀ w, w < nv → ∀ k, k < (V.2.2.2 w).length → ∃ j, j < 256 ∧ (V.2.2.2 w).getD k 0 = nI j) (ht : Nat → Nat) (hg : hG nv V ht) (hok : vok nv V) (v : Nat) (hv : v < nv) (bf : Nat) (L : List Int32) (hbf : bf ≤ 5) (Y1 : wd_Y) (h1 : Y1 = yE Y A (bf, L)) (h9 : ¬ V.1 v = 9) (hb : (wVl rd V 9 (bf, L) v).2.length + 1000 < 2147483648) : am_Mt l D cA ad fm (d + 5) m_M_putValue [.ref 19, .int (nI v), .int (-1)] (wd C Y1 og) (fun vr w' => vr = none ∧ ∃ Yb Y2, w' = wd C Y2 og ∧ bY Y Yb ∧ Y2 = yE Yb A (wVl rd V 9 (bf, L) v)) := by
  have hnv := hY.1.2.1
  have hbL : L.length + 1000 < 2147483648 := by have h8 := wVl_le (rd := rd) (V := V) 9 (bf, L) v; have h9 : (bf, L).2.length = L.length := rfl; omega
  refine am_mt ok_M_putValue (by simp [am_arg, Value.category, m_M_putValue, am_ml]) ?_
  refine am_eq_r (q' := (0, [some (.ref 19), some (.int (nI v)), some (.int (-1)), none], [], wd C Y1 og)) rfl ?_
  refine am_steps_r ok_M_putValue 3 (q' := (5, [some (.ref 19), some (.int (nI v)), some (.int (-1)), none], [], wd C (upd Y1.1 12 0, Y1.2) og)) rfl ?_
  obtain ⟨Yz, hEz⟩ : ∃ Z : wd_Y, Z = (upd Y1.1 12 0, Y1.2) := ⟨_, rfl⟩
  rw [← hEz]
  have h1z : Yz = yE (yDp Y 0) A (bf, L) := by rw [hEz, h1]; exact yE_dp (q := 0)
  obtain ⟨Bz, hNBz⟩ : ∃ Z : wd_Y, Z = yDp Y 0 := ⟨_, rfl⟩
  rw [← hNBz] at h1z
  have hBz : bY Y Bz := by rw [hNBz]; exact bY_dp (bY_rf Y) 0
  have hrz : Bz.1 16 = nI rd := (hBz.1 16 (by decide)).trans hr
  have hYz := bY_vs hBz hY
  have hdz : Bz.1 12 = nI 0 := by rw [hNBz]; rfl
  refine am_eq_r (q' := (5, [some (.ref 19), some (.int (nI v)), some (.int (-1)), none], [], wd C Yz og)) rfl ?_
  refine am_steps_r ok_M_putValue 3 (q' := (10, [some (.ref 19), some (.int (nI v)), some (.int (-1)), none], [.int (nI v), .ref 22], wd C Yz og)) rfl ?_
  refine am_iald_r ok_M_putValue rfl (w := wd C Yz og) (f := Yz.2.1 2) rfl rfl (pk_in v 300 (by omega)) ?_
  rw [nI_clamp (show v < 2 ^ 31 by omega)]
  rw [show (Yz.2.1 2 v) = V.1 v from yq_2 hYz h1z (v := v) (by omega)]
  refine am_steps_r ok_M_putValue 2 (q' := (bif decide ((V.1 v) = 6) then 33 else 16, [some (.ref 19), some (.int (nI v)), some (.int (-1)), none], [], wd C Yz og)) rfl ?_
  refine am_br_r (fun h_1 => ?_) (fun h_1 => ?_)
  · skip
    refine am_steps_r ok_M_putValue 2 (q' := (35, [some (.ref 19), some (.int (nI v)), some (.int (-1)), none], [.int (nI v), .ref 19], wd C Yz og)) rfl ?_
    have h67c : V.1 v = 6 ∨ V.1 v = 7 := by first | exact Or.inl (by assumption) | exact Or.inr (by assumption)
    have hob := opT_len (V := V) (v := v)
    have hgp := gpL_1 rd bf 4
    refine am_callV_r (As := [.int (nI v)]) (rest := []) ok_M_putValue rfl rfl ok_M_opensOut oi_M_opensOut lk_6_313 (Or.inl ⟨_, _, _, rfl, rfl, rfl⟩) rfl rfl (Nat.le_of_ble_eq_true rfl) (c_M_opensOut _ C Bz og rd A hrz hrd bf L (by omega) Yz h1z nv u V hYz v 0 (by omega) (by omega) h67c hdz (by omega)) ?_
    rintro v_ w_ ⟨rfl, Y_2, rfl, hY_3⟩ -
    refine am_eq_r (q' := (38, [some (.ref 19), some (.int (nI v)), some (.int (-1)), none], [], wd C Y_2 og)) rfl ?_
    have hyr := hY.2 v hv
    have hw67 := wVl_67 (rd := rd) (V := V) (f := 8) (st := (bf, L)) h67c
    have hbk : ((V.2.2.1 v).foldl (wVl rd V 8) (4, L ++ gpL rd bf 4 ++ opT V v)).2.length + 1000 < 2147483648 := by
      have q9 := wPc_le (rd := rd) ((V.2.2.1 v).foldl (wVl rd V 8) (wPc rd (bf, L) 4 (opT V v))) 5 (clT V v)
      rw [hw67] at hb
      have q8 : wPc rd (bf, L) 4 (opT V v) = (4, L ++ gpL rd bf 4 ++ opT V v) := rfl
      rw [q8] at q9 hb
      omega
    refine y_all_p d C Y og rd A hr hrd nv u V hY hby ht hg hok v 8 (V.2.2.1 v) v 0 _ Y_2 4 ((L ++ gpL rd bf 4 ++ opT V v)) _ (by omega) (by omega) hv h67c (fun z hz => ⟨(hok.1 v hv).1 z hz, by have := (hg v hv).2.1 h9 z hz; have := (hg v hv).1; omega⟩) (bY_op hBz 0 v (Bz.2.1 3 v)) rfl yOp_o (by rw [yOp_n, show Bz.2.1 3 v = Y.2.1 3 v from congrFun (hBz.2.1 3 (by decide) (by decide)) v]; exact hyr.2.2.2.2.1) (by omega) hY_3 hbk ?_
    intro Y3 Y4 a1 a2 a3 a4
    have a5 : Y4 = yE Y3 A (wVl rd V 9 (bf, L) v) := by rw [hw67]; exact a4
    refine am_steps_r ok_M_putValue 3 (q' := (bif decide ((Y4.1 12) ≤ 0) then 181 else 45, [some (.ref 19), some (.int (nI v)), some (.int (-1)), none], [], wd C Y4 og)) rfl ?_
    rw [show (Y4.1 12 : Int32) = nI 0 from ((yE_12 a5).trans a2)]
    refine am_br_r (fun h_4 => ?_) (fun h_4 => ?_)
    · skip
      have h_4 : 0 ≤ 0 := (nI_leI (show 0 < 2 ^ 31 by omega) (show 0 < 2 ^ 31 by omega)).mp h_4
      refine am_vret_r ok_M_putValue rfl rfl rfl ?_
      exact ⟨rfl, Y3, Y4, rfl, a1, a5⟩
    · skip
      have h_4 : ¬ 0 ≤ 0 := fun z => h_4 ((nI_leI (show 0 < 2 ^ 31 by omega) (show 0 < 2 ^ 31 by omega)).mpr z)
      exfalso; omega
  · skip
    refine am_steps_r ok_M_putValue 3 (q' := (21, [some (.ref 19), some (.int (nI v)), some (.int (-1)), none], [.int (nI v), .ref 22], wd C Yz og)) rfl ?_
    refine am_iald_r ok_M_putValue rfl (w := wd C Yz og) (f := Yz.2.1 2) rfl rfl (pk_in v 300 (by omega)) ?_
    rw [nI_clamp (show v < 2 ^ 31 by omega)]
    rw [show (Yz.2.1 2 v) = V.1 v from yq_2 hYz h1z (v := v) (by omega)]
    refine am_steps_r ok_M_putValue 2 (q' := (bif decide ((V.1 v) = 7) then 33 else 27, [some (.ref 19), some (.int (nI v)), some (.int (-1)), none], [], wd C Yz og)) rfl ?_
    refine am_br_r (fun h_5 => ?_) (fun h_5 => ?_)
    · skip
      refine am_steps_r ok_M_putValue 2 (q' := (35, [some (.ref 19), some (.int (nI v)), some (.int (-1)), none], [.int (nI v), .ref 19], wd C Yz og)) rfl ?_
      have h67c : V.1 v = 6 ∨ V.1 v = 7 := by first | exact Or.inl (by assumption) | exact Or.inr (by assumption)
      have hob := opT_len (V := V) (v := v)
      have hgp := gpL_1 rd bf 4
      refine am_callV_r (As := [.int (nI v)]) (rest := []) ok_M_putValue rfl rfl ok_M_opensOut oi_M_opensOut lk_6_313 (Or.inl ⟨_, _, _, rfl, rfl, rfl⟩) rfl rfl (Nat.le_of_ble_eq_true rfl) (c_M_opensOut _ C Bz og rd A hrz hrd bf L (by omega) Yz h1z nv u V hYz v 0 (by omega) (by omega) h67c hdz (by omega)) ?_
      rintro v_ w_ ⟨rfl, Y_6, rfl, hY_7⟩ -
      refine am_eq_r (q' := (38, [some (.ref 19), some (.int (nI v)), some (.int (-1)), none], [], wd C Y_6 og)) rfl ?_
      have hyr := hY.2 v hv
      have hw67 := wVl_67 (rd := rd) (V := V) (f := 8) (st := (bf, L)) h67c
      have hbk : ((V.2.2.1 v).foldl (wVl rd V 8) (4, L ++ gpL rd bf 4 ++ opT V v)).2.length + 1000 < 2147483648 := by
        have q9 := wPc_le (rd := rd) ((V.2.2.1 v).foldl (wVl rd V 8) (wPc rd (bf, L) 4 (opT V v))) 5 (clT V v)
        rw [hw67] at hb
        have q8 : wPc rd (bf, L) 4 (opT V v) = (4, L ++ gpL rd bf 4 ++ opT V v) := rfl
        rw [q8] at q9 hb
        omega
      refine y_all_p d C Y og rd A hr hrd nv u V hY hby ht hg hok v 8 (V.2.2.1 v) v 0 _ Y_6 4 ((L ++ gpL rd bf 4 ++ opT V v)) _ (by omega) (by omega) hv h67c (fun z hz => ⟨(hok.1 v hv).1 z hz, by have := (hg v hv).2.1 h9 z hz; have := (hg v hv).1; omega⟩) (bY_op hBz 0 v (Bz.2.1 3 v)) rfl yOp_o (by rw [yOp_n, show Bz.2.1 3 v = Y.2.1 3 v from congrFun (hBz.2.1 3 (by decide) (by decide)) v]; exact hyr.2.2.2.2.1) (by omega) hY_7 hbk ?_
      intro Y3 Y4 a1 a2 a3 a4
      have a5 : Y4 = yE Y3 A (wVl rd V 9 (bf, L) v) := by rw [hw67]; exact a4
      refine am_steps_r ok_M_putValue 3 (q' := (bif decide ((Y4.1 12) ≤ 0) then 181 else 45, [some (.ref 19), some (.int (nI v)), some (.int (-1)), none], [], wd C Y4 og)) rfl ?_
      rw [show (Y4.1 12 : Int32) = nI 0 from ((yE_12 a5).trans a2)]
      refine am_br_r (fun h_8 => ?_) (fun h_8 => ?_)
      · skip
        have h_8 : 0 ≤ 0 := (nI_leI (show 0 < 2 ^ 31 by omega) (show 0 < 2 ^ 31 by omega)).mp h_8
        refine am_vret_r ok_M_putValue rfl rfl rfl ?_
        exact ⟨rfl, Y3, Y4, rfl, a1, a5⟩
      · skip
        have h_8 : ¬ 0 ≤ 0 := fun z => h_8 ((nI_leI (show 0 < 2 ^ 31 by omega) (show 0 < 2 ^ 31 by omega)).mpr z)
        exfalso; omega
    · skip
      refine am_steps_r ok_M_putValue 2 (q' := (29, [some (.ref 19), some (.int (nI v)), some (.int (-1)), none], [.int (nI v), .ref 19], wd C Yz og)) rfl ?_
      refine am_callV_r (As := [.int (nI v)]) (rest := []) ok_M_putValue rfl rfl ok_M_putScalar oi_M_putScalar lk_6_310 (Or.inl ⟨_, _, _, rfl, rfl, rfl⟩) rfl rfl (Nat.le_of_ble_eq_true rfl) (c_M_putScalar _ C Bz og rd A hrz hrd bf L (by omega) Yz h1z nv u V hYz hby v hv (hg v hv).2.2.2.2 (by assumption) (by assumption) h9 8 hb) ?_
      rintro v_ w_ ⟨rfl, Y_9, rfl, hY_10⟩ -
      refine am_eq_r (q' := (32, [some (.ref 19), some (.int (nI v)), some (.int (-1)), none], [], wd C Y_9 og)) rfl ?_
      refine am_vret_r ok_M_putValue rfl rfl rfl ?_
      exact ⟨rfl, Bz, _, rfl, hBz, hY_10⟩
set_option maxHeartbeats 4000000 in
set_option maxRecDepth 100000 in
theorem c_M_putValue_s (d : Nat) (C : wd_C) (Y : wd_Y) (og : Nat → Int64) (rd : Nat) (A : Nat → Int32) (hr : Y.1 16 = nI rd) (hrd : rd ≤ 1) (nv u : Nat) (V : VT) (hY : vsY Y nv u V) (hby : ∀ w, w < nv → ∀ k, k < (V.2.2.2 w).length → ∃ j, j < 256 ∧ (V.2.2.2 w).getD k 0 = nI j) (ht : Nat → Nat) (hg : hG nv V ht) (hok : vok nv V) (v : Nat) (hv : v < nv) (bf : Nat) (L : List Int32) (hbf : bf ≤ 5) (Y1 : wd_Y) (h1 : Y1 = yE Y A (bf, L)) (h7 : V.1 v = 7) (m : Nat) (hm : m < 1000000) (me : Nat) (hev : (V.2.2.1 v).length = 2 * me) (hspl : vtSpl V v st_8 = (prF (isLn V) (V.2.2.1 v)).map (fun z => z.1)) (hb : (wDk rd V 8 (vtSpl V v st_8) m (4, L ++ gpL rd bf 4 ++ [60, 60]) (V.2.2.1 v)).2.length + 1000 < 2147483648) : am_Mt l D cA ad fm (d + 5) m_M_putValue [.ref 19, .int (nI v), .int (nI m)] (wd C Y1 og) (fun vr w' => vr = none ∧ ∃ Yb Y2, w' = wd C Y2 og ∧ bY Y Yb ∧ Y2 = yE Yb A (wDc rd V 8 (bf, L) v m)) := by
  have hnv := hY.1.2.1
  have hbL : L.length + 1000 < 2147483648 := by have h8 := wDk_le (rd := rd) (V := V) (f := 8) (lk := vtSpl V v st_8) (m := m) _ (V.2.2.1 v) (4, L ++ gpL rd bf 4 ++ [60, 60]) (Nat.le_refl _); have h9 : L.length ≤ (4, L ++ gpL rd bf 4 ++ [60, 60]).2.length := (by show L.length ≤ (L ++ gpL rd bf 4 ++ [60, 60]).length; simp only [List.length_append]; omega); omega
  refine am_mt ok_M_putValue (by simp [am_arg, Value.category, m_M_putValue, am_ml]) ?_
  refine am_eq_r (q' := (0, [some (.ref 19), some (.int (nI v)), some (.int (nI m)), none], [], wd C Y1 og)) rfl ?_
  refine am_steps_r ok_M_putValue 3 (q' := (5, [some (.ref 19), some (.int (nI v)), some (.int (nI m)), none], [], wd C (upd Y1.1 12 0, Y1.2) og)) rfl ?_
  obtain ⟨Yz, hEz⟩ : ∃ Z : wd_Y, Z = (upd Y1.1 12 0, Y1.2) := ⟨_, rfl⟩
  rw [← hEz]
  have h1z : Yz = yE (yDp Y 0) A (bf, L) := by rw [hEz, h1]; exact yE_dp (q := 0)
  obtain ⟨Bz, hNBz⟩ : ∃ Z : wd_Y, Z = yDp Y 0 := ⟨_, rfl⟩
  rw [← hNBz] at h1z
  have hBz : bY Y Bz := by rw [hNBz]; exact bY_dp (bY_rf Y) 0
  have hrz : Bz.1 16 = nI rd := (hBz.1 16 (by decide)).trans hr
  have hYz := bY_vs hBz hY
  have hdz : Bz.1 12 = nI 0 := by rw [hNBz]; rfl
  refine am_eq_r (q' := (5, [some (.ref 19), some (.int (nI v)), some (.int (nI m)), none], [], wd C Yz og)) rfl ?_
  refine am_steps_r ok_M_putValue 3 (q' := (10, [some (.ref 19), some (.int (nI v)), some (.int (nI m)), none], [.int (nI v), .ref 22], wd C Yz og)) rfl ?_
  refine am_iald_r ok_M_putValue rfl (w := wd C Yz og) (f := Yz.2.1 2) rfl rfl (pk_in v 300 (by omega)) ?_
  rw [nI_clamp (show v < 2 ^ 31 by omega)]
  rw [show (Yz.2.1 2 v) = V.1 v from yq_2 hYz h1z (v := v) (by omega)]
  refine am_steps_r ok_M_putValue 2 (q' := (bif decide ((V.1 v) = 6) then 33 else 16, [some (.ref 19), some (.int (nI v)), some (.int (nI m)), none], [], wd C Yz og)) rfl ?_
  refine am_br_r (fun h_1 => ?_) (fun h_1 => ?_)
  · skip
    exact absurd (h_1.symm.trans h7) (by decide)
  · skip
    refine am_steps_r ok_M_putValue 3 (q' := (21, [some (.ref 19), some (.int (nI v)), some (.int (nI m)), none], [.int (nI v), .ref 22], wd C Yz og)) rfl ?_
    refine am_iald_r ok_M_putValue rfl (w := wd C Yz og) (f := Yz.2.1 2) rfl rfl (pk_in v 300 (by omega)) ?_
    rw [nI_clamp (show v < 2 ^ 31 by omega)]
    rw [show (Yz.2.1 2 v) = V.1 v from yq_2 hYz h1z (v := v) (by omega)]
    refine am_steps_r ok_M_putValue 2 (q' := (bif decide ((V.1 v) = 7) then 33 else 27, [some (.ref 19), some (.int (nI v)), some (.int (nI m)), none], [], wd C Yz og)) rfl ?_
    refine am_br_r (fun h_2 => ?_) (fun h_2 => ?_)
    · skip
      refine am_steps_r ok_M_putValue 2 (q' := (35, [some (.ref 19), some (.int (nI v)), some (.int (nI m)), none], [.int (nI v), .ref 19], wd C Yz og)) rfl ?_
      have h67c : V.1 v = 6 ∨ V.1 v = 7 := by first | exact Or.inl (by assumption) | exact Or.inr (by assumption)
      have hob := opT_len (V := V) (v := v)
      have hgp := gpL_1 rd bf 4
      refine am_callV_r (As := [.int (nI v)]) (rest := []) ok_M_putValue rfl rfl ok_M_opensOut oi_M_opensOut lk_6_313 (Or.inl ⟨_, _, _, rfl, rfl, rfl⟩) rfl rfl (Nat.le_of_ble_eq_true rfl) (c_M_opensOut _ C Bz og rd A hrz hrd bf L (by omega) Yz h1z nv u V hYz v 0 (by omega) (by omega) h67c hdz (by omega)) ?_
      rintro v_ w_ ⟨rfl, Y_3, rfl, hY_4⟩ -
      refine am_eq_r (q' := (38, [some (.ref 19), some (.int (nI v)), some (.int (nI m)), none], [], wd C Y_3 og)) rfl ?_
      have hyr := hY.2 v hv
      have e60 : opT V v = [60, 60] := by rw [opT, if_neg (by rw [h7]; decide)]
      have hks : ∀ a ∈ V.2.2.1 v, a < nv ∧ ht a + 1 ≤ 8 := fun z hz => ⟨(hok.1 v hv).1 z hz, by have := (hg v hv).2.1 (by rw [h7]; decide) z hz; have := (hg v hv).1; omega⟩
      have hkk : ∀ a ∈ keysOf (V.2.2.1 v), V.1 a = 4 := fun a ha => (hg v hv).2.2.1 h7 a ha
      have hsp : vtSpl V v st_8 = (prF (isLn V) (V.2.2.1 v)).map (fun z => z.1) := hspl
      rw [e60] at hY_4
      rcases hpf : prF (isLn V) (V.2.2.1 v) with _ | ⟨t, y⟩
      · skip
        rw [hpf] at hsp
        have hsp2 : vtSpl V v st_8 = none := hsp
        refine y_top_n d C Y og rd A hr hrd nv u V hY hby ht hg hok v hv h7 m hm me hev hpf (by rw [hpf]; rfl) 8 rfl me (V.2.2.1 v) _ Y_3 4 (L ++ gpL rd bf 4 ++ [60, 60]) _ hev hks hkk (fun a ha => trivial) (bY_op hBz 0 v (Bz.2.1 3 v)) rfl yOp_o (by rw [yOp_n, show Bz.2.1 3 v = Y.2.1 3 v from congrFun (hBz.2.1 3 (by decide) (by decide)) v]; exact hyr.2.2.2.2.1) (by omega) hY_4 (by rw [hsp2] at hb; exact hb) ?_
        intro Y3 Y4 a1 a2
        exact ⟨rfl, Y3, Y4, rfl, a1, by unfold wDc; simp only [hsp2]; exact a2⟩
      · skip
        rw [hpf] at hsp
        have hsp2 : vtSpl V v st_8 = some t := hsp
        obtain ⟨pm1, pm2⟩ := prF_mem hpf
        have htk : t ∈ keysOf (V.2.2.1 v) := List.mem_of_find?_eq_some hsp2
        refine y_top_t d C Y og rd A hr hrd nv u V hY hby ht hg hok v hv h7 m hm me hev t ((hok.1 v hv).1 t pm1) ⟨_, hpf⟩ (fun tv htv => by rw [hpf] at htv; cases htv; exact (hok.1 v hv).1 y pm2) (by rw [hpf]; rfl) 8 rfl me (V.2.2.1 v) _ Y_3 4 (L ++ gpL rd bf 4 ++ [60, 60]) _ hev hks hkk (fun a ha z => odds_keys (hok.1 v hv).2 a ha (by cases z; exact htk)) (bY_op hBz 0 v (Bz.2.1 3 v)) rfl yOp_o (by rw [yOp_n, show Bz.2.1 3 v = Y.2.1 3 v from congrFun (hBz.2.1 3 (by decide) (by decide)) v]; exact hyr.2.2.2.2.1) (by omega) hY_4 (by rw [hsp2] at hb; exact hb) ?_
        intro Y3 Y4 a1 a2
        exact ⟨rfl, Y3, Y4, rfl, a1, by unfold wDc; simp only [hsp2]; exact a2⟩
    · skip
      exact absurd h7 h_2
end C102
