/-! a key that goes, over values as lists: the component -/
theorem vDel_k (C : wd_C) (v t : Nat) (o : Option Nat) (la : Bool) : (vDel C v t o la).1 = C.1 ∧ (vDel C v t o la).2.1 1 = C.2.1 1 ∧ (vDel C v t o la).2.2 = C.2.2 ∧ (vDel C v t o la).2.1 2 = C.2.1 2 ∧ (vDel C v t o la).2.1 3 = C.2.1 3 ∧ (vDel C v t o la).2.1 9 = C.2.1 9 ∧ (vDel C v t o la).2.1 8 = C.2.1 8 ∧ (∀ w, w ≠ v → (vDel C v t o la).2.1 4 w = C.2.1 4 w) ∧ (∀ w, w ≠ v → (vDel C v t o la).2.1 5 w = C.2.1 5 w) ∧ (∀ w, w ≠ v → (vDel C v t o la).2.1 6 w = C.2.1 6 w) ∧ (∀ w, o ≠ some w → (vDel C v t o la).2.1 7 w = C.2.1 7 w) ∧ (vDel C v t o la).2.1 4 v = C.2.1 4 v - 2 ∧ (la = true → (vDel C v t o la).2.1 6 v = oN o) ∧ (la = false → (vDel C v t o la).2.1 6 v = C.2.1 6 v) ∧ (o = none → (vDel C v t o la).2.1 5 v = C.2.1 7 t) ∧ (o ≠ none → (vDel C v t o la).2.1 5 v = C.2.1 5 v) ∧ (∀ q, o = some q → (vDel C v t o la).2.1 7 = upd (C.2.1 7) q (C.2.1 7 t)) ∧ (o = none → (vDel C v t o la).2.1 7 = C.2.1 7) := by
  cases o with
  | none => cases la <;> refine ⟨rfl, rfl, rfl, rfl, rfl, rfl, rfl, ?_, ?_, ?_, ?_, ?_, ?_, ?_, ?_, ?_, ?_, ?_⟩ <;> intros <;> simp_all [vDel, upd]
  | some q =>
    cases la <;> refine ⟨rfl, rfl, rfl, rfl, rfl, rfl, rfl, ?_, ?_, ?_, ?_, ?_, ?_, ?_, ?_, ?_, ?_, ?_⟩ <;> intros <;> first | (simp_all [vDel, upd]; done) | (rename_i h; cases h; rfl) | (rename_i w h; have h2 : w ≠ q := fun e => h (by rw [e]); simp [vDel, upd, h2])
theorem vsC_del {C : wd_C} {nv u : Nat} {V : VT} (h : vsC C nv u V) {v t : Nat} (hv : v < nv) (hk : V.1 v = 7) {l1 l2 : List Nat} (ht : keysOf (V.2.2.1 v) = l1 ++ t :: l2) : vsC (vDel C v t l1.getLast? l2.isEmpty) nv u (vtDel V v t) ∧ ∀ y, vfr C nv V y → vfr (vDel C v t l1.getLast? l2.isEmpty) nv (vtDel V v t) y := by
  obtain ⟨hz, hr, ha⟩ := h
  obtain ⟨k0, k1, k2, k3, k4, k9, k8, g4, g5, g6, g7, f4, f6y, f6n, f5n, f5s, f7s, f7n⟩ := vDel_k C v t l1.getLast? l2.isEmpty
  obtain ⟨-, -, -, -, -, r6v, -, r7v⟩ := hr v hv
  obtain ⟨q1, q2, q3⟩ := r7v.1 hk
  have htm : t ∈ keysOf (V.2.2.1 v) := by rw [ht]; simp
  obtain ⟨a, o, c, e1, e2, e3, e4, -, e6⟩ := ks_split q3 r6v htm
  have hkd : (l1 ++ t :: l2).Nodup := by rw [← ht]; exact r6v.sublist (keysOf_sub _)
  have hkd2 : (keysOf a ++ t :: keysOf c).Nodup := by rw [← e4]; exact r6v.sublist (keysOf_sub _)
  have uniq : ∀ {x1 y1 x2 y2 : List Nat}, x1 ++ t :: y1 = x2 ++ t :: y2 → (x1 ++ t :: y1).Nodup → x1 = x2 ∧ y1 = y2 := by
    intro x1
    induction x1 with
    | nil =>
      intro y1 x2 y2 e hd
      cases x2 with
      | nil => simp at e; exact ⟨rfl, e⟩
      | cons b x2 =>
        simp at e hd
        exact absurd (show t ∈ y1 by rw [e.2]; simp) hd.1
    | cons b x1 ih =>
      intro y1 x2 y2 e hd
      cases x2 with
      | nil =>
        simp at e
        have hd2 := (List.nodup_cons.mp hd).1
        exact absurd (show b ∈ x1 ++ t :: y1 by rw [e.1]; simp) hd2
      | cons b' x2 =>
        simp at e
        obtain ⟨g1, g2⟩ := ih (x2 := x2) (y2 := y2) e.2 (List.nodup_cons.mp hd).2
        exact ⟨by rw [e.1, g1], g2⟩
  obtain ⟨u1, u2⟩ := uniq (e4.symm.trans ht) hkd2
  have hlm : ∀ q, l1.getLast? = some q → q ∈ V.2.2.1 v := fun q hq => keysOf_mem (by rw [ht]; exact List.mem_append_left _ (List.mem_of_getLast? hq))
  have o7 : ∀ w, w ≠ v → w < nv → ∀ z ∈ V.2.2.1 w, (vDel C v t l1.getLast? l2.isEmpty).2.1 7 z = C.2.1 7 z := fun w hw hwn z hzm => g7 z (fun e => hw (ha w v z hwn hv hzm (hlm z e)))
  have sub : ∀ y, y ∈ a ++ c → y ∈ V.2.2.1 v := fun y hy => by
    rw [e1]
    simp only [List.mem_append, List.mem_cons] at hy ⊢
    rcases hy with hy | hy
    · exact Or.inl hy
    · exact Or.inr (Or.inr (Or.inr hy))
  have ekv : (vtDel V v t).2.2.1 v = a ++ c := by simp [vtDel, va_up, e6]
  refine ⟨⟨by rw [vsz, k0]; exact hz, fun w hw => ?_, fun w w' z hw hw' hc hc' => ?_⟩, fun y hfy => ⟨?_, fun w hw hm => ?_⟩⟩
  · obtain ⟨r1, r2, r3, r4, r5, r6, ⟨s, s1, s2, s3, s4⟩, r7⟩ := hr w hw
    by_cases e : w = v
    · subst e
      have hle : (V.2.2.1 w).length = (a ++ c).length + 2 := by rw [e1]; simp; omega
      refine ⟨by rw [k1]; exact r1, by rw [k2]; exact r2, ?_, by rw [ekv]; exact fun z hzm => r4 z (sub z hzm), by rw [ekv]; omega, ?_, ⟨s, by rw [k3]; exact s1, by rw [k4]; exact s2, s3, fun j hj => by rw [k9]; exact s4 j hj⟩, fun _ => ⟨?_, ?_, ?_⟩, fun z => absurd hk z⟩
      · rw [f4, ekv, r3, hle, show (2 : Int32) = nI 2 from rfl, pk_sub (by omega)]
        rfl
      · rw [ekv]
        rw [e1] at r6
        exact r6.sublist (List.Sublist.append (List.Sublist.refl _) ((List.sublist_cons_self _ _).trans (List.sublist_cons_self _ _)))
      · rw [ekv, keysOf_ap _ e2, u1, u2]
        have hd := lkd_del (nx := C.2.1 7) (t := t) (l2 := l2) (l1 := l1) (x := C.2.1 5 w) hkd (by rw [← ht]; exact q1)
        cases hlast : l1.getLast? with
        | none =>
          have e0 : l1 = [] := by simpa using hlast
          rw [hlast] at f5n f7n
          rw [e0, f5n rfl, f7n rfl]
          exact hd.1 e0
        | some q =>
          rw [hlast] at f5s f7s
          rw [f5s (by simp), f7s q rfl]
          exact hd.2 q hlast
      · rw [ekv, keysOf_ap _ e2, u1, u2]
        cases l2 with
        | nil => rw [f6y rfl]; simp
        | cons b r =>
          rw [f6n rfl, q2, ht, show l1 ++ t :: b :: r = (l1 ++ [t]) ++ (b :: r) by simp, List.getLast?_append, List.getLast?_append]
          cases hl : (b :: r).getLast? with
          | none => simp at hl
          | some z => rw [List.getLast?_append, hl]; rfl
      · rw [ekv, k8]; exact hld_ap e2 e3
    · have ek : (vtDel V v t).2.2.1 w = V.2.2.1 w := by simp [vtDel, va_up, e]
      refine ⟨by rw [k1]; exact r1, by rw [k2]; exact r2, by rw [ek, g4 w e]; exact r3, by rw [ek]; exact r4, by rw [ek]; exact r5, by rw [ek]; exact r6, ⟨s, by rw [k3]; exact s1, by rw [k4]; exact s2, s3, fun j hj => by rw [k9]; exact s4 j hj⟩, fun z => ?_, fun z => ?_⟩
      · obtain ⟨p1, p2, p3⟩ := r7.1 z
        rw [ek, g5 w e, g6 w e, k8]
        exact ⟨lkd_congr (fun x hm => o7 w e hw x (keysOf_mem hm)) p1, p2, p3⟩
      · obtain ⟨p1, p2⟩ := r7.2 z
        rw [ek, g5 w e, g6 w e]
        exact ⟨lkd_congr (o7 w e hw) p1, p2⟩
  · have f : ∀ w, w < nv → z ∈ (vtDel V v t).2.2.1 w → z ∈ V.2.2.1 w := fun w hw hm => by
      by_cases e : w = v
      · subst e
        rw [ekv] at hm
        exact sub z hm
      · rwa [show (vtDel V v t).2.2.1 w = V.2.2.1 w by simp [vtDel, va_up, e]] at hm
    exact ha w w' z hw hw' (f w hw hc) (f w' hw' hc')
  · rw [g7 y (fun e => hfy.2 v hv (hlm y e))]; exact hfy.1
  · by_cases e : w = v
    · subst e
      rw [ekv] at hm
      exact hfy.2 w hw (sub y hm)
    · rw [show (vtDel V v t).2.2.1 w = V.2.2.1 w by simp [vtDel, va_up, e]] at hm
      exact hfy.2 w hw hm
