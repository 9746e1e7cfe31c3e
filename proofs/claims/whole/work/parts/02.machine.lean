/-! THE ABSTRACT MACHINE: a state is a world of numbered cells, a list of locals, a stack; one instruction is a function on it (am_step);
    am_G says that the real machine, wherever it holds such a state, comes to Q. -/
abbrev am_C : Type := (Nat × vp_A) ⊕ (Nat × List Value)
abbrev am_W : Type := List am_C
abbrev am_L : Type := List (Option Value)
def am_cv (ad : Nat → Nat) : Value → Value
  | .ref k => .ref (ad k)
  | v => v
theorem am_cv_cat (ad : Nat → Nat) (v : Value) : (am_cv ad v).category = v.category := by cases v <;> rfl
def am_ce (cA : Nat → ClassId) (ad : Nat → Nat) : am_C → va_E
  | .inl (t, x) => .inl (cA t, x)
  | .inr (ci, fs) => .inr (ci, fs.map (am_cv ad))
def am_ws (cA : Nat → ClassId) (ad : Nat → Nat) (w : am_W) : va_W := w.mapIdx (fun k x => (ad k, am_ce cA ad x))
theorem am_ws_get {cA : Nat → ClassId} {ad : Nat → Nat} {w : am_W} {k : Nat} {x : am_C} (h : w[k]? = some x) : (am_ws cA ad w)[k]? = some (ad k, am_ce cA ad x) := by
  simp [am_ws, List.getElem?_mapIdx, h]
theorem am_ws_set {cA : Nat → ClassId} {ad : Nat → Nat} {w : am_W} {k : Nat} {x : am_C} : (am_ws cA ad w).set k (ad k, am_ce cA ad x) = am_ws cA ad (w.set k x) := by
  apply List.ext_getElem?
  intro i
  by_cases hi : k = i
  · subst hi
    simp only [am_ws, List.getElem?_set, List.getElem?_mapIdx, List.length_mapIdx]
    by_cases hl : k < w.length <;> simp [hl]
  · simp [am_ws, List.getElem?_set, List.getElem?_mapIdx, hi]
def am_lv (ad : Nat → Nat) (L : am_L) : List (Nat × Value) := L.zipIdx.filterMap (fun q => q.1.map (fun v => (q.2, am_cv ad v)))
theorem am_lv_mem {ad : Nat → Nat} {L : am_L} {q : Nat × Value} : q ∈ am_lv ad L ↔ ∃ v, L[q.1]? = some (some v) ∧ q.2 = am_cv ad v := by
  constructor
  · intro h
    obtain ⟨⟨o, k⟩, h1, h2⟩ := List.mem_filterMap.mp h
    cases o with
    | none => simp at h2
    | some v =>
      simp at h2
      subst h2
      exact ⟨v, by simpa using List.mem_zipIdx_iff_getElem?.mp h1, rfl⟩
  · intro ⟨v, h1, h2⟩
    refine List.mem_filterMap.mpr ⟨(some v, q.1), List.mem_zipIdx_iff_getElem?.mpr h1, ?_⟩
    simp [← h2]
theorem am_has_mono {ls : Array Slot} {n : Nat} {l l' : List (Nat × Value)} (h : lv_has ls n l) (hs : ∀ q ∈ l', q ∈ l) : lv_has ls n l' := ⟨h.1, h.2.1, fun q hq => h.2.2 q (hs q hq)⟩
theorem am_has_at {ad : Nat → Nat} {ls : Array Slot} {n k : Nat} {L : am_L} {v : Value} (h : lv_has ls n (am_lv ad L)) (hk : L[k]? = some (some v)) : ls[k]? = some (.val (am_cv ad v)) := h.2.2 (k, am_cv ad v) (am_lv_mem.mpr ⟨v, hk, rfl⟩)
/-- fewer locals known -/
def am_less (L' L : am_L) : Prop := ∀ (k : Nat) (v : Value), L'[k]? = some (some v) → L[k]? = some (some v)
theorem am_has_less {ad : Nat → Nat} {ls : Array Slot} {n : Nat} {L L' : am_L} (h : lv_has ls n (am_lv ad L)) (hl : am_less L' L) : lv_has ls n (am_lv ad L') :=
  am_has_mono h (fun q hq => by
    obtain ⟨v, h1, h2⟩ := am_lv_mem.mp hq
    exact am_lv_mem.mpr ⟨v, hl _ _ h1, h2⟩)
def am_loc (L : am_L) (k : Nat) : Option Value := match L[k]? with
  | some (some v) => some v
  | _ => none
theorem am_loc_get {L : am_L} {k : Nat} {v : Value} (h : am_loc L k = some v) : L[k]? = some (some v) := by
  unfold am_loc at h
  split at h
  · cases h; assumption
  · cases h
def am_cl (L : am_L) (k : Nat) : am_L := match k with
  | 0 => L
  | j + 1 => match L[j]? with
    | some (some (.long _)) => L.set j none
    | some (some (.double _)) => L.set j none
    | _ => L
theorem am_cl_get {L : am_L} {k i : Nat} {v : Value} (h : (am_cl L k)[i]? = some (some v)) : L[i]? = some (some v) ∧ ¬ (i + 1 = k ∧ v.category = 2) := by
  cases k with
  | zero => exact ⟨h, fun q => by omega⟩
  | succ j =>
    unfold am_cl at h
    dsimp only at h
    by_cases hij : j = i
    · subst hij
      split at h
      · simp [List.getElem?_set] at h
      · simp [List.getElem?_set] at h
      · rename_i h1 h2
        refine ⟨h, fun q => ?_⟩
        cases v with
        | long x => exact h1 _ h
        | double x => exact h2 _ h
        | _ => simp [Value.category] at q
    · refine ⟨?_, fun q => by omega⟩
      split at h
      · simpa [List.getElem?_set, hij] using h
      · simpa [List.getElem?_set, hij] using h
      · exact h
def am_sto1 (L : am_L) (k : Nat) (v : Value) : am_L := (am_cl L k).set k (some v)
def am_sto2 (L : am_L) (k : Nat) (v : Value) : am_L := ((am_cl L k).set k (some v)).set (k + 1) none
theorem am_has_sto1 {ad : Nat → Nat} {ls : Array Slot} {n k : Nat} {L : am_L} {v : Value} (h : lv_has ls n ((k, am_cv ad v) :: (am_lv ad L).filter (fun q => !(q.1 == k) && !(q.1 + 1 == k && q.2.category == 2)))) : lv_has ls n (am_lv ad (am_sto1 L k v)) := by
  refine am_has_mono h (fun q hq => ?_)
  obtain ⟨u, h1, h2⟩ := am_lv_mem.mp hq
  unfold am_sto1 at h1
  rw [List.getElem?_set] at h1
  by_cases hk : k = q.1
  · rw [if_pos hk] at h1
    split at h1
    · simp at h1
      obtain ⟨a, b⟩ := q
      simp at hk h2
      subst hk; subst h1; subst h2
      exact List.mem_cons_self
    · cases h1
  · rw [if_neg hk] at h1
    obtain ⟨g1, g2⟩ := am_cl_get h1
    refine List.mem_cons_of_mem _ (List.mem_filter.mpr ⟨am_lv_mem.mpr ⟨u, g1, h2⟩, ?_⟩)
    simp only [Bool.and_eq_true, Bool.not_eq_true', beq_eq_false_iff_ne, ne_eq, Bool.and_eq_false_iff]
    refine ⟨fun z => hk z.symm, ?_⟩
    by_cases z : q.1 + 1 = k
    · refine Or.inr (fun y => g2 ⟨z, ?_⟩)
      rw [h2, am_cv_cat] at y
      exact y
    · exact Or.inl z
theorem am_has_sto2 {ad : Nat → Nat} {ls : Array Slot} {n k : Nat} {L : am_L} {v : Value} (h : lv_has ls n ((k, am_cv ad v) :: (am_lv ad L).filter (fun q => !(q.1 == k) && (!(q.1 == k + 1) && !(q.1 + 1 == k && q.2.category == 2))))) : lv_has ls n (am_lv ad (am_sto2 L k v)) := by
  refine am_has_mono h (fun q hq => ?_)
  obtain ⟨u, h1, h2⟩ := am_lv_mem.mp hq
  unfold am_sto2 at h1
  rw [List.getElem?_set] at h1
  by_cases hk1 : k + 1 = q.1
  · rw [if_pos hk1] at h1
    split at h1 <;> simp at h1
  rw [if_neg hk1, List.getElem?_set] at h1
  by_cases hk : k = q.1
  · rw [if_pos hk] at h1
    split at h1
    · simp at h1
      obtain ⟨a, b⟩ := q
      simp at hk h2
      subst hk; subst h1; subst h2
      exact List.mem_cons_self
    · cases h1
  · rw [if_neg hk] at h1
    obtain ⟨g1, g2⟩ := am_cl_get h1
    refine List.mem_cons_of_mem _ (List.mem_filter.mpr ⟨am_lv_mem.mpr ⟨u, g1, h2⟩, ?_⟩)
    simp only [Bool.and_eq_true, Bool.not_eq_true', beq_eq_false_iff_ne, ne_eq, Bool.and_eq_false_iff]
    refine ⟨fun z => hk z.symm, fun z => hk1 z.symm, ?_⟩
    by_cases z : q.1 + 1 = k
    · refine Or.inr (fun y => g2 ⟨z, ?_⟩)
      rw [h2, am_cv_cat] at y
      exact y
    · exact Or.inl z
