/-! dictionaries of the reference, over values as lists -/
def hdV (c : List Nat) : Int32 := oN c.head?
theorem lkd_hd {nx : Nat → Int32} : ∀ {c : List Nat} {x : Int32}, lkd nx x c → x = hdV c
  | [], _, h => h
  | a :: r, _, h => h.1
theorem lkd_ap {nx : Nat → Int32} : ∀ {a c : List Nat} {x : Int32}, lkd nx x (a ++ c) → (a = [] → lkd nx x c) ∧ ∀ q, a.getLast? = some q → lkd nx (nx q) c
  | [], c, x, h => ⟨fun _ => h, fun q hq => by simp at hq⟩
  | [b], c, x, h => ⟨fun z => (by cases z), fun q hq => by simp at hq; subst hq; exact h.2⟩
  | b :: e :: r, c, x, h => ⟨fun z => (by cases z), fun q hq => (lkd_ap (a := e :: r) (x := nx b) h.2).2 q (by simpa [List.getLast?_cons_cons] using hq)⟩
/-- the chain behind its first part is put anew -/
theorem lkd_re {nx nx' : Nat → Int32} {c' : List Nat} : ∀ {a : List Nat} {c : List Nat} {x x' : Int32}, lkd nx x (a ++ c) → a.Nodup → (∀ b ∈ a, a.getLast? ≠ some b → nx' b = nx b) → (a = [] → lkd nx' x' c') → (a ≠ [] → x' = x) → (∀ q, a.getLast? = some q → lkd nx' (nx' q) c') → lkd nx' x' (a ++ c')
  | [], c, x, x', h, _, _, h0, _, _ => h0 rfl
  | [b], c, x, x', h, _, _, _, h1, h2 => ⟨by rw [h1 (by simp)]; exact h.1, h2 b rfl⟩
  | b :: e :: r, c, x, x', h, hd, hs, _, h1, h2 => by
    have hne : (b :: e :: r).getLast? ≠ some b := fun z => by
      rw [List.getLast?_cons_cons] at z
      exact (List.nodup_cons.mp hd).1 (List.mem_of_getLast? z)
    refine ⟨by rw [h1 (by simp)]; exact h.1, ?_⟩
    refine lkd_re (a := e :: r) (c := c) (x := nx b) h.2 (List.nodup_cons.mp hd).2 (fun z hz hl => hs z (List.mem_cons_of_mem _ hz) (by rw [List.getLast?_cons_cons]; exact hl)) (fun z => (by cases z)) (fun _ => hs b List.mem_cons_self hne) (fun q hq => h2 q (by rw [List.getLast?_cons_cons]; exact hq))
theorem ks_split2 {t : Nat} : ∀ {ks : List Nat} {m : Nat}, ks.length = 2 * m → ks.Nodup → t ∈ keysOf ks → ∀ {a : List Nat} {o : Nat} {c : List Nat}, ks = a ++ t :: o :: c → (∀ x, dSet t x ks = a ++ t :: x :: c) ∧ dDel t ks = a ++ c
  | [], m, hl, hd, hm, a, o, c, e => absurd hm (by simp [keysOf])
  | [k], m, hl, hd, hm, a, o, c, e => absurd hm (by simp [keysOf])
  | k :: v :: r, m, hl, hd, hm, a, o, c, e => by
    by_cases e1 : k = t
    · subst e1
      cases a with
      | nil =>
        simp at e
        obtain ⟨e2, e3⟩ := e
        subst e2; subst e3
        exact ⟨fun x => by simp [dSet], by simp [dDel]⟩
      | cons b a =>
        simp at e
        exact absurd (show k ∈ v :: r by rw [e.2]; simp) (List.nodup_cons.mp hd).1
    · have hm2 : t ∈ keysOf r := by
        simp only [keysOf, List.mem_cons] at hm
        rcases hm with hm | hm
        · exact absurd hm.symm e1
        · exact hm
      have hd2 : r.Nodup := (List.nodup_cons.mp (List.nodup_cons.mp hd).2).2
      match a, e with
      | [], e => exact absurd (by simpa using (List.cons.inj e).1) e1
      | [b], e =>
        have e2 := (List.cons.inj e).2
        have e3 : v = t := (List.cons.inj e2).1
        exact absurd (show v ∈ r by rw [e3]; exact keysOf_mem hm2) (List.nodup_cons.mp (List.nodup_cons.mp hd).2).1
      | b :: b2 :: a, e =>
        have e2 := List.cons.inj e
        have e3 := List.cons.inj e2.2
        obtain ⟨g1, g2⟩ := ks_split2 (m := m - 1) (by simp at hl; omega) hd2 hm2 e3.2
        refine ⟨fun x => by rw [dSet, if_neg e1, g1 x, e2.1, e3.1]; rfl, by rw [dDel, if_neg e1, g2, e2.1, e3.1]; rfl⟩
theorem vsY_set {Y : wd_Y} {nv u : Nat} {V : VT} (h : vsY Y nv u V) (ho : vok nv V) {v t o x m : Nat} {a c : List Nat} (hv : v < nv) (hl : (V.2.2.1 v).length = 2 * m) (ht : t ∈ keysOf (V.2.2.1 v)) (e : V.2.2.1 v = a ++ t :: o :: c) (hf : ∀ w, w < nv → x ∉ V.2.2.1 w) : vsY (ySetE Y v t x c.head?) nv u (vtSet V v t x) := by
  obtain ⟨hz, hr⟩ := h
  have hnd := (ho.1 v hv).2
  obtain ⟨e5, -⟩ := ks_split2 hl hnd ht e
  have ekv : (vtSet V v t x).2.2.1 v = a ++ t :: x :: c := by simp [vtSet, va_up, e5 x]
  have htm : t ∈ V.2.2.1 v := keysOf_mem ht
  have hxm : x ∉ a ++ t :: o :: c := by rw [← e]; exact hf v hv
  have hxt : x ≠ t := fun z => hxm (by simp [z])
  refine ⟨hz, fun w hw => ?_⟩
  obtain ⟨r1, r2, r3, r8, r4, r5⟩ := hr w hw
  by_cases ew : w = v
  · subst ew
    rw [e] at r4 hnd
    have n1 := List.nodup_append.mp hnd
    have n2 := List.nodup_cons.mp n1.2.1
    have n3 := List.nodup_cons.mp n2.2
    have hto : Y.2.1 5 t = nI o ∧ lkd (Y.2.1 5) (Y.2.1 5 o) c := by
      have h9 := lkd_ap r4
      cases ha : a.getLast? with
      | none =>
        have a0 : a = [] := by simpa using ha
        have := h9.1 a0
        exact ⟨this.2.1, this.2.2⟩
      | some q =>
        have := h9.2 q ha
        exact ⟨this.2.1, this.2.2⟩
    have hc : lkd (upd (upd (Y.2.1 5) t (nI x)) x (oN c.head?)) (oN c.head?) c := by
      have h9 := lkd_hd hto.2
      rw [show oN c.head? = Y.2.1 5 o from h9.symm]
      refine lkd_congr (fun z hzm => ?_) hto.2
      have z1 : z ≠ x := fun q => hxm (by rw [← q]; simp [hzm])
      have z2 : z ≠ t := fun q => n2.1 (by rw [← q]; simp [hzm])
      simp [upd, z1, z2]
    have htl : lkd (upd (upd (Y.2.1 5) t (nI x)) x (oN c.head?)) (nI t) (t :: x :: c) := ⟨rfl, by simp [upd, Ne.symm hxt], by simp [upd]; exact hc⟩
    refine ⟨r1, r2, by rw [ekv]; show Y.2.1 6 w = _; rw [r3, e]; simp, r8, ?_, ?_⟩
    · rw [ekv]
      show lkd (upd (upd (Y.2.1 5) t (nI x)) x (oN c.head?)) (Y.2.1 3 w) (a ++ t :: x :: c)
      have off : ∀ b ∈ a, upd (upd (Y.2.1 5) t (nI x)) x (oN c.head?) b = Y.2.1 5 b := fun b hb => by
        have z1 : b ≠ x := fun q => hxm (by rw [← q]; simp [hb])
        have z2 : b ≠ t := n1.2.2 b hb t (by simp)
        simp [upd, z1, z2]
      refine lkd_re r4 n1.1 (fun b hb _ => off b hb) (fun z => ?_) (fun _ => rfl) (fun q hq => ?_)
      · rw [(lkd_ap r4).1 z |> lkd_hd]; exact htl
      · rw [off q (List.mem_of_getLast? hq), ((lkd_ap r4).2 q hq) |> lkd_hd]; exact htl
    · rw [ekv]
      show upd (Y.2.1 4) w _ w = _
      cases c with
      | nil => simp [upd, oN]
      | cons b r =>
        have : Y.2.1 4 w = oN (V.2.2.1 w).getLast? := r5
        simp only [upd, List.head?_cons, if_true]
        rw [this, e, show a ++ t :: o :: b :: r = (a ++ [t, o]) ++ (b :: r) by simp, show a ++ t :: x :: b :: r = (a ++ [t, x]) ++ (b :: r) by simp]
        cases hg : (b :: r).getLast? with
        | none => simp at hg
        | some z => rw [List.getLast?_append (l := a ++ [t, o]), List.getLast?_append (l := a ++ [t, x]), hg]; rfl
  · have ek : (vtSet V v t x).2.2.1 w = V.2.2.1 w := by simp [vtSet, va_up, ew]
    refine ⟨r1, r2, by rw [ek]; exact r3, r8, ?_, ?_⟩
    · rw [ek]
      show lkd (upd (upd (Y.2.1 5) t (nI x)) x _) (Y.2.1 3 w) _
      refine lkd_congr (fun z hzm => ?_) r4
      have z1 : z ≠ x := fun q => hf w hw (q ▸ hzm)
      have z2 : z ≠ t := fun q => ew (ho.2 w v z hw hv hzm (q ▸ htm))
      simp [upd, z1, z2]
    · rw [ek]
      show upd (Y.2.1 4) v _ w = _
      simp [upd, ew]; exact r5
theorem vsY_del {Y : wd_Y} {nv u : Nat} {V : VT} (h : vsY Y nv u V) (ho : vok nv V) {v t o m : Nat} {a c : List Nat} (hv : v < nv) (hl : (V.2.2.1 v).length = 2 * m) (ht : t ∈ keysOf (V.2.2.1 v)) (e : V.2.2.1 v = a ++ t :: o :: c) : vsY (yDelE Y v a.getLast? c.head?) nv u (vtDel V v t) := by
  obtain ⟨hz, hr⟩ := h
  have hnd := (ho.1 v hv).2
  obtain ⟨-, e6⟩ := ks_split2 hl hnd ht e
  have ekv : (vtDel V v t).2.2.1 v = a ++ c := by simp [vtDel, va_up, e6]
  have hqm : ∀ q, a.getLast? = some q → q ∈ V.2.2.1 v := fun q hq => by rw [e]; exact List.mem_append_left _ (List.mem_of_getLast? hq)
  refine ⟨hz, fun w hw => ?_⟩
  obtain ⟨r1, r2, r3, r8, r4, r5⟩ := hr w hw
  by_cases ew : w = v
  · subst ew
    rw [e] at r4 hnd
    have n1 := List.nodup_append.mp hnd
    have n2 := List.nodup_cons.mp n1.2.1
    have hto : lkd (Y.2.1 5) (Y.2.1 5 o) c := by
      have h9 := lkd_ap r4
      cases ha : a.getLast? with
      | none => exact (h9.1 (by simpa using ha)).2.2
      | some q => exact (h9.2 q ha).2.2
    have h0 : oN c.head? = Y.2.1 5 o := (lkd_hd hto).symm
    refine ⟨r1, r2, ?_, r8, ?_, ?_⟩
    · rw [ekv]
      show upd (Y.2.1 6) w (Y.2.1 6 w - 2) w = _
      rw [show upd (Y.2.1 6) w (Y.2.1 6 w - 2) w = Y.2.1 6 w - 2 by simp [upd], r3, e, show (2 : Int32) = nI 2 from rfl, pk_sub (by simp; omega)]
      congr 1
      simp
      omega
    · rw [ekv]
      cases ha : a.getLast? with
      | none =>
        have a0 : a = [] := by simpa using ha
        subst a0
        show lkd (Y.2.1 5) (upd (Y.2.1 3) w (oN c.head?) w) ([] ++ c)
        rw [show upd (Y.2.1 3) w (oN c.head?) w = Y.2.1 5 o by rw [h0]; simp [upd]]
        exact hto
      | some q =>
        show lkd (upd (Y.2.1 5) q (oN c.head?)) (Y.2.1 3 w) (a ++ c)
        have hqa := List.mem_of_getLast? ha
        have hc : lkd (upd (Y.2.1 5) q (oN c.head?)) (oN c.head?) c := by
          rw [h0]
          refine lkd_congr (fun z hzm => ?_) hto
          have : z ≠ q := fun y => n1.2.2 q hqa z (by simp [hzm]) y.symm
          simp [upd, this]
        refine lkd_re r4 n1.1 (fun b hb hn => ?_) (fun z => ?_) (fun _ => rfl) (fun q' hq' => ?_)
        · have : b ≠ q := fun y => hn (by rw [y]; exact ha)
          simp [upd, this]
        · subst z; cases ha
        · have : q' = q := Option.some.inj (hq'.symm.trans ha)
          subst this
          rw [show upd (Y.2.1 5) q' (oN c.head?) q' = oN c.head? by simp [upd]]
          exact hc
    · rw [ekv]
      show upd (Y.2.1 4) w _ w = _
      cases c with
      | nil => simp [upd]
      | cons b r =>
        have : Y.2.1 4 w = oN (V.2.2.1 w).getLast? := r5
        simp only [upd, List.head?_cons, if_true]
        rw [this, e, show a ++ t :: o :: b :: r = (a ++ [t, o]) ++ (b :: r) by simp]
        cases hg : (b :: r).getLast? with
        | none => simp at hg
        | some z => rw [List.getLast?_append (l := a ++ [t, o]), List.getLast?_append (l := a) (l' := b :: r), hg]; rfl
  · have ek : (vtDel V v t).2.2.1 w = V.2.2.1 w := by simp [vtDel, va_up, ew]
    have k5 : ∀ z ∈ V.2.2.1 w, (yDelE Y v a.getLast? c.head?).2.1 5 z = Y.2.1 5 z := fun z hzm => by
      cases ha : a.getLast? with
      | none => rfl
      | some q =>
        have : z ≠ q := fun y => ew (ho.2 w v z hw hv hzm (by rw [y]; exact hqm q ha))
        show upd (Y.2.1 5) q _ z = _
        simp [upd, this]
    have k3 : (yDelE Y v a.getLast? c.head?).2.1 3 w = Y.2.1 3 w := by
      cases ha : a.getLast? with
      | none => show upd (Y.2.1 3) v _ w = _; simp [upd, ew]
      | some q => rfl
    refine ⟨r1, r2, ?_, r8, ?_, ?_⟩
    · rw [ek, ← r3]
      show upd (Y.2.1 6) v _ w = _
      simp [upd, ew]
    · rw [ek, k3]; exact lkd_congr k5 r4
    · rw [ek]
      show upd (Y.2.1 4) v _ w = _
      simp [upd, ew]; exact r5
theorem vok_part {nv : Nat} {V : VT} (ho : vok nv V) {v p : Nat} (hv : v < nv) (hp : p < nv) (hf : ∀ w, w < nv → p ∉ V.2.2.1 w) : vok nv (vtPart V v p) := by
  have f : ∀ w c, w < nv → c ∈ (vtPart V v p).2.2.1 w → (w = v ∧ c = p) ∨ c ∈ V.2.2.1 w := fun w c hw hm => by
    by_cases e : w = v
    · subst e
      rw [show (vtPart V w p).2.2.1 w = V.2.2.1 w ++ [p] by simp [vtPart, va_up]] at hm
      rcases List.mem_append.mp hm with hm | hm
      · exact Or.inr hm
      · simp at hm; exact Or.inl ⟨rfl, hm⟩
    · rw [show (vtPart V v p).2.2.1 w = V.2.2.1 w by simp [vtPart, va_up, e]] at hm
      exact Or.inr hm
  refine ⟨fun w hw => ⟨fun c hc => ?_, ?_⟩, fun w w' c hw hw' hc hc' => ?_⟩
  · rcases f w c hw hc with ⟨-, h⟩ | h
    · rw [h]; exact hp
    · exact (ho.1 w hw).1 c h
  · by_cases e : w = v
    · subst e
      rw [show (vtPart V w p).2.2.1 w = V.2.2.1 w ++ [p] by simp [vtPart, va_up]]
      refine List.nodup_append.mpr ⟨(ho.1 w hw).2, by simp, fun a ha1 c hc => ?_⟩
      simp at hc
      subst hc
      exact fun e => hf w hw (e ▸ ha1)
    · rw [show (vtPart V v p).2.2.1 w = V.2.2.1 w by simp [vtPart, va_up, e]]
      exact (ho.1 w hw).2
  · rcases f w c hw hc with ⟨e1, e2⟩ | m1 <;> rcases f w' c hw' hc' with ⟨e3, e4⟩ | m2
    · rw [e1, e3]
    · rw [e2] at m2; exact absurd m2 (hf w' hw')
    · rw [e4] at m1; exact absurd m1 (hf w hw)
    · exact ho.2 w w' c hw hw' m1 m2
theorem vsY_key {Y : wd_Y} {nv u : Nat} {V : VT} (h : vsY Y nv u V) (ho : vok nv V) {v k x : Nat} (hv : v < nv) (hk : k < nv) (hkx : k ≠ x) (hf : ∀ w, w < nv → k ∉ V.2.2.1 w) (hfx : ∀ w, w < nv → x ∉ V.2.2.1 w) : vsY (yApp (yApp Y v k (V.2.2.1 v).getLast?) v x (some k)) nv u (vtKey V v k x) := by
  have h1 := vsY_part h ho (p := k) hv hf
  have e1 : (vtPart V v k).2.2.1 v = V.2.2.1 v ++ [k] := by simp [vtPart, va_up]
  have h2 := vsY_part h1 (vok_part ho hv hk hf) (v := v) (p := x) hv (fun w hw hm => by
    by_cases e : w = v
    · subst e
      rw [e1] at hm
      rcases List.mem_append.mp hm with hm | hm
      · exact hfx w hw hm
      · simp at hm; exact hkx hm.symm
    · rw [show (vtPart V v k).2.2.1 w = V.2.2.1 w by simp [vtPart, va_up, e]] at hm
      exact hfx w hw hm)
  rw [show ((vtPart V v k).2.2.1 v).getLast? = some k by rw [e1]; simp] at h2
  have e2 : vtPart (vtPart V v k) v x = vtKey V v k x := by
    unfold vtPart vtKey
    simp only
    congr 3
    funext w
    unfold va_up
    by_cases e : w = v
    · simp [e]
    · simp [e]
  rw [e2] at h2
  exact h2
