/-! the reference enters a key, over values as lists; printed by wip/gen/g41.py -/
def vtFnd (V : VT) (v k : Nat) : Option Nat := (keysOf (V.2.2.1 v)).find? (fun a => decide (V.2.2.2 a = V.2.2.2 k))
def vtEnt (V : VT) (v k x : Nat) : VT := match vtFnd V v k with
  | none => if V.1 x = 0 then V else vtKey V v k x
  | some t => if V.1 x = 0 then vtDel V v t else vtSet V v t x
/-- what entering leaves alone -/
def yfr (Y Y' : wd_Y) : Prop := (∀ j, j ≠ 3 → j ≠ 4 → j ≠ 5 → j ≠ 6 → Y'.2.1 j = Y.2.1 j) ∧ Y'.2.2 = Y.2.2
theorem yfr_app (Y : wd_Y) (v p : Nat) (o : Option Nat) : yfr Y (yApp Y v p o) := by
  cases o <;> exact ⟨fun j h3 h4 h5 h6 => by simp [yApp, h3, h4, h5, h6], rfl⟩
theorem yfr_tr {Y Y1 Y2 : wd_Y} (h : yfr Y Y1) (h2 : yfr Y1 Y2) : yfr Y Y2 := ⟨fun j a b c e => (h2.1 j a b c e).trans (h.1 j a b c e), h2.2.trans h.2⟩
theorem yfr_del (Y : wd_Y) (v : Nat) (bf rs : Option Nat) : yfr Y (yDelE Y v bf rs) := ⟨fun j h3 h4 h5 h6 => by simp [yDelE, h3, h4, h5, h6], rfl⟩
theorem yfr_set (Y : wd_Y) (v t x : Nat) (rs : Option Nat) : yfr Y (ySetE Y v t x rs) := ⟨fun j h3 h4 h5 h6 => by simp [ySetE, h4, h5], rfl⟩
theorem yApp_1 (Y : wd_Y) (v p : Nat) (o : Option Nat) : (yApp Y v p o).1 = Y.1 := by cases o <;> rfl
section C41
variable {l : Launch} {D : va_G} {cA : Nat → ClassId} {ad : Nat → Nat} {fm : Value}
set_option maxHeartbeats 4000000 in
set_option maxRecDepth 100000 in
theorem c_M_enter (d : Nat) (C : wd_C) (Y : wd_Y) (og : Nat → Int64) (nv u : Nat) (V : VT) (hY : vsY Y nv u V) (ho : vok nv V) (v k x m : Nat) (hv : v < nv) (hk : k < nv) (hx : x < nv) (hm : (V.2.2.1 v).length = 2 * m) (hkx0 : k ≠ x) (hfk : ∀ w, w < nv → k ∉ V.2.2.1 w) (hfx : ∀ w, w < nv → x ∉ V.2.2.1 w)  : am_Mt l D cA ad fm (d + 1) m_M_enter [.ref 19, .int (nI v), .int (nI k), .int (nI x)] (wd C Y og) (fun vr w' => vr = none ∧ ∃ Y' : wd_Y, w' = wd C Y' og ∧ vsY Y' nv u (vtEnt V v k x) ∧ Y'.1 = (match vtFnd V v k with | none => Y.1 | some _ => upd Y.1 9 (Y.1 9 ||| 2)) ∧ yfr Y Y') := by
  have hv1 := hY.1.2.1
  have hv2 := hY.1.2.2.2
  refine am_mt ok_M_enter (by simp [am_arg, Value.category, m_M_enter, am_ml]) ?_
  refine am_eq_r (q' := (0, [some (.ref 19), some (.int (nI v)), some (.int (nI k)), some (.int (nI x)), none, none, none, none], [], wd C Y og)) rfl ?_
  refine am_steps_r ok_M_enter 5 (q' := (8, [some (.ref 19), some (.int (nI v)), some (.int (nI k)), some (.int (nI x)), some (.int (-1)), none, none, none], [.int (nI v), .ref 24], wd C Y og)) rfl ?_
  refine am_iald_r ok_M_enter rfl (w := wd C Y og) (f := Y.2.1 3) rfl rfl (pk_in v 300 (by omega)) ?_
  rw [nI_clamp (show v < 2 ^ 31 by omega)]
  refine am_steps_r ok_M_enter 1 (q' := (11, [some (.ref 19), some (.int (nI v)), some (.int (nI k)), some (.int (nI x)), some (.int (-1)), some (.int (Y.2.1 3 v)), none, none], [], wd C Y og)) rfl ?_
  refine am_eq_r (q' := (11, [some (.ref 19), some (.int (nI v)), some (.int (nI k)), some (.int (nI x)), some (.int (oN none)), some (.int (Y.2.1 3 v)), none, none], [], wd C Y og)) rfl ?_
  obtain ⟨rv1, rv2, rv3, rv4, rv5, rv6⟩ := hY.2 v hv
  refine lp_M_enter_11 d C Y og nv u hY.1 v k x hv hk hx V.2.2.2 (V.2.2.2 k) (hY.2 k hk).2.2.2.1 m (V.2.2.1 v) _ none _ hm rv5 (fun a ha => ⟨(ho.1 v hv).1 a ha, (hY.2 a ((ho.1 v hv).1 a ha)).2.2.2.1⟩) (fun hn bv => ?_) (fun a t oo c ee hf => ?_)
  · have hfn : vtFnd V v k = none := hn
    by_cases hkx : V.1 x = 0
    · exact tl_M_enter_1 d C Y og nv u hY.1 v k x hv hk hx bv ((hY.2 x hx).1.trans hkx) _ ⟨rfl, Y, rfl, by rw [vtEnt, hfn]; simp only [hkx, if_true]; exact hY, by rw [hfn], ⟨fun _ _ _ _ _ => rfl, rfl⟩⟩
    · have hkx2 : ¬ Y.2.1 2 x = 0 := fun z => hkx ((hY.2 x hx).1.symm.trans z)
      have hres := vsY_key hY ho hv hk hkx0 hfk hfx
      have heq : vtEnt V v k x = vtKey V v k x := by rw [vtEnt, hfn]; simp only [hkx, if_false]
      cases hlast : (V.2.2.1 v).getLast? with
      | none =>
        have e0 : V.2.2.1 v = [] := by simpa using hlast
        rw [hlast] at hres
        rw [e0] at rv5
        exact tl_M_enter_2n d C Y og nv u hY.1 v k x hv hk hx bv hkx2 rv5 _ ⟨rfl, _, rfl, by rw [heq]; exact hres, by rw [hfn, yApp_1, yApp_1], yfr_tr (yfr_app _ _ _ _) (yfr_app _ _ _ _)⟩
      | some q =>
        rw [hlast] at hres rv6
        have hqn := (ho.1 v hv).1 q (List.mem_of_getLast? hlast)
        obtain ⟨f, r, ef⟩ : ∃ f r, V.2.2.1 v = f :: r := by
          cases hz : V.2.2.1 v with
          | nil => rw [hz] at hlast; cases hlast
          | cons f r => exact ⟨f, r, rfl⟩
        have hfn2 := (ho.1 v hv).1 f (by rw [ef]; exact List.mem_cons_self)
        rw [ef] at rv5
        exact tl_M_enter_2s d C Y og nv u hY.1 v k x hv hk hx bv hkx2 f q (by omega) (by omega) rv5.1 rv6 _ ⟨rfl, _, rfl, by rw [heq]; exact hres, by rw [hfn, yApp_1, yApp_1], yfr_tr (yfr_app _ _ _ _) (yfr_app _ _ _ _)⟩
  · have hfn : vtFnd V v k = some t := hf
    have htm : t ∈ keysOf (V.2.2.1 v) := List.mem_of_find?_eq_some hf
    have htn := (ho.1 v hv).1 t (keysOf_mem htm)
    have hon := (ho.1 v hv).1 oo (by rw [ee]; simp)
    have hch : Y.2.1 5 t = nI oo ∧ lkd (Y.2.1 5) (Y.2.1 5 oo) c := by
      rw [ee] at rv5
      have h9 := lkd_ap rv5
      cases ha : a.getLast? with
      | none => have := h9.1 (by simpa using ha); exact ⟨this.2.1, this.2.2⟩
      | some q => have := h9.2 q ha; exact ⟨this.2.1, this.2.2⟩
    have hor : Y.2.1 5 oo = oN c.head? := lkd_hd hch.2
    have hcn : ∀ r0, c.head? = some r0 → r0 < nv := fun r0 hr0 => (ho.1 v hv).1 r0 (by rw [ee]; have := List.mem_of_head? hr0; simp [this])
    have han : ∀ q, a.getLast? = some q → q < nv := fun q hq => (ho.1 v hv).1 q (by rw [ee]; exact List.mem_append_left _ (List.mem_of_getLast? hq))
    by_cases hkx : V.1 x = 0
    · have hres := vsY_del hY ho hv hm htm ee
      have heq : vtEnt V v k x = vtDel V v t := by rw [vtEnt, hfn]; simp only [hkx, if_true]
      have hkx2 : Y.2.1 2 x = 0 := (hY.2 x hx).1.trans hkx
      cases ha : a.getLast? with
      | none =>
        cases hc : c.head? with
        | none =>
          rw [ha, hc] at hres
          rw [hc] at hor
          exact tl_M_enter_3nn d C Y og nv u hY.1 v k x hv hk hx t oo htn hon hch.1 hor hkx2 _ ⟨rfl, _, rfl, by rw [heq]; exact hres, by rw [hfn]; rfl, yfr_del _ _ _ _⟩
        | some r0 =>
          rw [ha, hc] at hres
          rw [hc] at hor
          exact tl_M_enter_3ns d C Y og nv u hY.1 v k x hv hk hx t oo htn hon hch.1 r0 (hcn r0 hc) hor hkx2 _ ⟨rfl, _, rfl, by rw [heq]; exact hres, by rw [hfn]; rfl, yfr_del _ _ _ _⟩
      | some q =>
        cases hc : c.head? with
        | none =>
          rw [ha, hc] at hres
          rw [hc] at hor
          exact tl_M_enter_3sn d C Y og nv u hY.1 v k x hv hk hx t oo htn hon hch.1 q (han q ha) hor hkx2 _ ⟨rfl, _, rfl, by rw [heq]; exact hres, by rw [hfn]; rfl, yfr_del _ _ _ _⟩
        | some r0 =>
          rw [ha, hc] at hres
          rw [hc] at hor
          exact tl_M_enter_3ss d C Y og nv u hY.1 v k x hv hk hx t oo htn hon hch.1 q (han q ha) r0 (hcn r0 hc) hor hkx2 _ ⟨rfl, _, rfl, by rw [heq]; exact hres, by rw [hfn]; rfl, yfr_del _ _ _ _⟩
    · have hres := vsY_set hY ho hv hm htm ee hfx
      have heq : vtEnt V v k x = vtSet V v t x := by rw [vtEnt, hfn]; simp only [hkx, if_false]
      have hkx2 : ¬ Y.2.1 2 x = 0 := fun z => hkx ((hY.2 x hx).1.symm.trans z)
      cases hc : c.head? with
      | none =>
        rw [hc] at hres hor
        exact tl_M_enter_4n d C Y og nv u hY.1 v k x hv hk hx t oo htn hon hch.1 _ hor hkx2 _ ⟨rfl, _, rfl, by rw [heq]; exact hres, by rw [hfn]; rfl, yfr_set _ _ _ _ _⟩
      | some r0 =>
        rw [hc] at hres hor
        exact tl_M_enter_4s d C Y og nv u hY.1 v k x hv hk hx t oo htn hon hch.1 _ r0 (hcn r0 hc) hor hkx2 _ ⟨rfl, _, rfl, by rw [heq]; exact hres, by rw [hfn]; rfl, yfr_set _ _ _ _ _⟩
end C41
