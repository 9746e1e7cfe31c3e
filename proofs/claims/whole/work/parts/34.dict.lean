/-! dictionaries: a value anew, a key that goes -/
def dSet (k x : Nat) : List Nat → List Nat
  | a :: c :: r => if a = k then a :: x :: r else a :: c :: dSet k x r
  | l => l
def dDel (k : Nat) : List Nat → List Nat
  | a :: c :: r => if a = k then r else a :: c :: dDel k r
  | l => l
theorem hld_ap {g : Nat → Int32} : ∀ {a c : List Nat}, hld g a → hld g c → hld g (a ++ c)
  | [], c, _, h => h
  | [x], c, h, _ => absurd h (by simp [hld])
  | x :: y :: r, c, h, hc => ⟨h.1, hld_ap h.2 hc⟩
theorem keysOf_ap {g : Nat → Int32} : ∀ {a : List Nat} (c : List Nat), hld g a → keysOf (a ++ c) = keysOf a ++ keysOf c
  | [], c, _ => rfl
  | [x], c, h => absurd h (by simp [hld])
  | x :: y :: r, c, h => by
    show x :: keysOf (r ++ c) = x :: (keysOf r ++ keysOf c)
    rw [keysOf_ap c h.2]
theorem ks_split {g : Nat → Int32} {t : Nat} : ∀ {ks : List Nat}, hld g ks → ks.Nodup → t ∈ keysOf ks → ∃ a o c, ks = a ++ t :: o :: c ∧ hld g a ∧ hld g c ∧ keysOf ks = keysOf a ++ t :: keysOf c ∧ (∀ x, dSet t x ks = a ++ t :: x :: c) ∧ dDel t ks = a ++ c
  | [], _, _, h => absurd h (by simp [keysOf])
  | [k], h, _, _ => absurd h (by simp [hld])
  | k :: v :: r, h, hd, hm => by
    by_cases e : k = t
    · subst e
      exact ⟨[], v, r, rfl, trivial, h.2, rfl, fun x => by simp [dSet], by simp [dDel]⟩
    · have hm2 : t ∈ keysOf r := by
        simp only [keysOf, List.mem_cons] at hm
        rcases hm with hm | hm
        · exact absurd hm.symm e
        · exact hm
      have hd2 : r.Nodup := (List.nodup_cons.mp (List.nodup_cons.mp hd).2).2
      obtain ⟨a, o, c, e1, e2, e3, e4, e5, e6⟩ := ks_split h.2 hd2 hm2
      refine ⟨k :: v :: a, o, c, by rw [e1]; rfl, ⟨h.1, e2⟩, e3, by rw [keysOf, e4]; rfl, fun x => by rw [dSet, if_neg e, e5 x]; rfl, by rw [dDel, if_neg e, e6]; rfl⟩
theorem lkd_del {nx : Nat → Int32} {t : Nat} {l2 : List Nat} : ∀ {l1 : List Nat} {x : Int32}, (l1 ++ t :: l2).Nodup → lkd nx x (l1 ++ t :: l2) → (l1 = [] → lkd nx (nx t) l2) ∧ ∀ q, l1.getLast? = some q → lkd (upd nx q (nx t)) x (l1 ++ l2)
  | [], x, _, h => ⟨fun _ => h.2, fun q hq => by simp at hq⟩
  | [a], x, hd, h => by
    refine ⟨fun z => (by cases z), fun q hq => ?_⟩
    simp at hq
    subst hq
    refine ⟨h.1, ?_⟩
    rw [show upd nx a (nx t) a = nx t by simp [upd]]
    have h2 : lkd nx (nx t) l2 := h.2.2
    refine lkd_congr (fun c hc => ?_) h2
    have : c ≠ a := fun e => by
      have := (List.nodup_cons.mp hd).1
      exact this (by rw [← e]; exact List.mem_cons_of_mem _ hc)
    simp [upd, this]
  | a :: b :: r, x, hd, h => by
    refine ⟨fun z => (by cases z), fun q hq => ?_⟩
    have hq2 : (b :: r).getLast? = some q := by simpa [List.getLast?_cons_cons] using hq
    have hqm : q ∈ b :: r := List.mem_of_getLast? hq2
    have hne : a ≠ q := fun e => (List.nodup_cons.mp hd).1 (by rw [e]; exact List.mem_append_left _ hqm)
    have ih := (lkd_del (l1 := b :: r) (x := nx a) (List.nodup_cons.mp hd).2 h.2).2 q hq2
    refine ⟨h.1, ?_⟩
    rw [show upd nx q (nx t) a = nx a by simp [upd, hne]]
    exact ih
def vtSet (V : VT) (v t x : Nat) : VT := (V.1, V.2.1, va_up V.2.2.1 v (dSet t x (V.2.2.1 v)), V.2.2.2)
def vtDel (V : VT) (v t : Nat) : VT := (V.1, V.2.1, va_up V.2.2.1 v (dDel t (V.2.2.1 v)), V.2.2.2)
/-- the component: a key holds anew -/
theorem vsC_hold {C : wd_C} {nv u : Nat} {V : VT} (h : vsC C nv u V) {v t x : Nat} (hv : v < nv) (hk : V.1 v = 7) (ht : t ∈ keysOf (V.2.2.1 v)) (hx : x < nv) (hf : vfr C nv V x) : vsC (C.1, wd_u C.2.1 8 (upd (C.2.1 8) t (nI x)), C.2.2) nv u (vtSet V v t x) ∧ ∀ y, y ≠ x → vfr C nv V y → vfr (C.1, wd_u C.2.1 8 (upd (C.2.1 8) t (nI x)), C.2.2) nv (vtSet V v t x) y := by
  obtain ⟨hz, hr, ha⟩ := h
  obtain ⟨-, -, -, r4v, -, r6v, -, r7v⟩ := hr v hv
  obtain ⟨q1, q2, q3⟩ := r7v.1 hk
  obtain ⟨a, o, c, e1, e2, e3, e4, e5, -⟩ := ks_split q3 r6v ht
  have hold : ∀ y, y ∈ a ++ t :: x :: c → y = x ∨ y ∈ V.2.2.1 v := fun y hy => by
    rw [e1]
    simp only [List.mem_append, List.mem_cons] at hy ⊢
    rcases hy with hy | hy | hy | hy
    · exact Or.inr (Or.inl hy)
    · exact Or.inr (Or.inr (Or.inl hy))
    · exact Or.inl hy
    · exact Or.inr (Or.inr (Or.inr (Or.inr hy)))
  have hnx : x ∉ a ++ t :: o :: c := by rw [← e1]; exact hf.2 v hv
  have o8 : ∀ w, w ≠ v → w < nv → ∀ z ∈ V.2.2.1 w, upd (C.2.1 8) t (nI x) z = C.2.1 8 z := fun w hw hwn z hz => by
    have : z ≠ t := fun e => hw (ha w v z hwn hv hz (e ▸ keysOf_mem ht))
    simp [upd, this]
  refine ⟨⟨hz, fun w hw => ?_, fun w w' z hw hw' hc hc' => ?_⟩, fun y hy hfy => ⟨hfy.1, fun w hw hm => ?_⟩⟩
  · obtain ⟨r1, r2, r3, r4, r5, r6, r8, r7⟩ := hr w hw
    by_cases e : w = v
    · subst e
      have ek : (vtSet V w t x).2.2.1 w = a ++ t :: x :: c := by simp [vtSet, va_up, e5 x]
      have hle : (a ++ t :: x :: c).length = (V.2.2.1 w).length := by rw [e1]; simp
      refine ⟨r1, r2, by rw [ek, hle]; exact r3, by rw [ek]; exact fun z hz => (hold z hz).elim (fun e => e ▸ hx) (r4 z), by rw [ek, hle]; exact r5, ?_, r8, fun _ => ⟨?_, ?_, ?_⟩, fun z => absurd hk z⟩
      · rw [ek]
        rw [e1] at r6
        have n1 := List.nodup_append.mp r6
        have n2 := List.nodup_cons.mp n1.2.1
        have n3 := List.nodup_cons.mp n2.2
        refine List.nodup_append.mpr ⟨n1.1, List.nodup_cons.mpr ⟨?_, List.nodup_cons.mpr ⟨?_, n3.2⟩⟩, ?_⟩
        · intro z
          rcases List.mem_cons.mp z with z | z
          · exact hnx (by rw [← z]; simp)
          · exact n2.1 (List.mem_cons_of_mem _ z)
        · intro z; exact hnx (by simp [z])
        · intro y hy z hz
          simp only [List.mem_cons] at hz
          rcases hz with hz | hz | hz
          · exact n1.2.2 y hy z (by simp [hz])
          · intro e; exact hnx (by rw [← hz, ← e]; simp [hy])
          · exact n1.2.2 y hy z (by simp [hz])
      · rw [ek, keysOf_ap _ e2]
        show lkd (C.2.1 7) (C.2.1 5 w) (keysOf a ++ t :: keysOf c)
        rw [← e4]; exact q1
      · rw [ek, keysOf_ap _ e2]
        show C.2.1 6 w = oN (keysOf a ++ t :: keysOf c).getLast?
        rw [← e4]; exact q2
      · rw [ek]
        show hld (upd (C.2.1 8) t (nI x)) _
        rw [e1] at r6
        have n1 := List.nodup_append.mp r6
        have n2 := List.nodup_cons.mp n1.2.1
        refine hld_ap (hld_congr (fun z hz => ?_) e2) ⟨by simp [upd], hld_congr (fun z hz => ?_) e3⟩
        · have : z ≠ t := n1.2.2 z hz t (by simp)
          simp [upd, this]
        · have : z ≠ t := fun e => n2.1 (by simp [← e, hz])
          simp [upd, this]
    · have ek : (vtSet V v t x).2.2.1 w = V.2.2.1 w := by simp [vtSet, va_up, e]
      refine ⟨r1, r2, by rw [ek]; exact r3, by rw [ek]; exact r4, by rw [ek]; exact r5, by rw [ek]; exact r6, r8, fun z => ?_, fun z => ?_⟩
      · obtain ⟨p1, p2, p3⟩ := r7.1 z
        rw [ek]
        exact ⟨p1, p2, hld_congr (o8 w e hw) p3⟩
      · rw [ek]; exact r7.2 z
  · have f : ∀ w, w < nv → z ∈ (vtSet V v t x).2.2.1 w → (w = v ∧ z = x) ∨ z ∈ V.2.2.1 w := fun w hw hm => by
      by_cases e : w = v
      · subst e
        rw [show (vtSet V w t x).2.2.1 w = a ++ t :: x :: c by simp [vtSet, va_up, e5 x]] at hm
        rcases hold z hm with h | h
        · exact Or.inl ⟨rfl, h⟩
        · exact Or.inr h
      · rw [show (vtSet V v t x).2.2.1 w = V.2.2.1 w by simp [vtSet, va_up, e]] at hm
        exact Or.inr hm
    rcases f w hw hc with ⟨g1, g2⟩ | m1 <;> rcases f w' hw' hc' with ⟨g3, g4⟩ | m2
    · rw [g1, g3]
    · rw [g2] at m2; exact absurd m2 (hf.2 w' hw')
    · rw [g4] at m1; exact absurd m1 (hf.2 w hw)
    · exact ha w w' z hw hw' m1 m2
  · by_cases e : w = v
    · subst e
      rw [show (vtSet V w t x).2.2.1 w = a ++ t :: x :: c by simp [vtSet, va_up, e5 x]] at hm
      rcases hold y hm with h | h
      · exact hy h
      · exact hfy.2 w hw h
    · rw [show (vtSet V v t x).2.2.1 w = V.2.2.1 w by simp [vtSet, va_up, e]] at hm
      exact hfy.2 w hw hm
