/-! VALUES as lists: kind, number, parts (a dictionary's keys and values by turns), bytes. vsC: the component's rows hold them -/
abbrev VT : Type := (Nat → Int32) × (Nat → Int64) × (Nat → List Nat) × (Nat → List Int32)
/-- a chain of numbers -/
def lkd (nx : Nat → Int32) : Int32 → List Nat → Prop
  | x, [] => x = -1
  | x, a :: r => x = nI a ∧ lkd nx (nx a) r
def keysOf : List Nat → List Nat
  | k :: _ :: r => k :: keysOf r
  | _ => []
def hld (h : Nat → Int32) : List Nat → Prop
  | k :: x :: r => h k = nI x ∧ hld h r
  | [] => True
  | [_] => False
theorem keysOf_mem : ∀ {ks : List Nat} {k : Nat}, k ∈ keysOf ks → k ∈ ks
  | [], k, h => by simp [keysOf] at h
  | [a], k, h => by simp [keysOf] at h
  | a :: c :: r, k, h => by
    simp only [keysOf, List.mem_cons] at h
    rcases h with h | h
    · simp [h]
    · have := keysOf_mem h
      simp [this]
theorem lkd_congr {nx nx' : Nat → Int32} : ∀ {r : List Nat} {x : Int32}, (∀ a ∈ r, nx' a = nx a) → lkd nx x r → lkd nx' x r
  | [], x, _, h => h
  | a :: r, x, hc, h => ⟨h.1, by rw [hc a List.mem_cons_self]; exact lkd_congr (fun c hm => hc c (List.mem_cons_of_mem _ hm)) h.2⟩
theorem hld_congr {g g' : Nat → Int32} : ∀ {r : List Nat}, (∀ a ∈ r, g' a = g a) → hld g r → hld g' r
  | [], _, h => h
  | [a], _, h => h
  | a :: c :: r, hc, h => ⟨by rw [hc a List.mem_cons_self]; exact h.1, hld_congr (fun z hm => hc z (List.mem_cons_of_mem _ (List.mem_cons_of_mem _ hm))) h.2⟩
def byR (x y : Int32) : Prop := ∃ j, j < 256 ∧ y = nI j ∧ x = (nI j).toInt8.toInt32
def vch (C : wd_C) (kd : Int32) (ks : List Nat) (v : Nat) : Prop :=
  (kd = 7 → lkd (C.2.1 7) (C.2.1 5 v) (keysOf ks) ∧ C.2.1 6 v = oN (keysOf ks).getLast? ∧ hld (C.2.1 8) ks) ∧ (¬ kd = 7 → lkd (C.2.1 7) (C.2.1 5 v) ks ∧ C.2.1 6 v = oN ks.getLast?)
def vbt (C : wd_C) (u : Nat) (bs : List Int32) (v : Nat) : Prop :=
  ∃ s, C.2.1 2 v = nI s ∧ C.2.1 3 v = nI bs.length ∧ s + bs.length ≤ u ∧ ∀ j, j < bs.length → byR (C.2.1 9 (s + j)) (bs.getD j 0)
def vrw (C : wd_C) (nv u : Nat) (V : VT) (v : Nat) : Prop :=
  C.2.1 1 v = V.1 v ∧ C.2.2 v = V.2.1 v ∧ C.2.1 4 v = nI (V.2.2.1 v).length ∧ (∀ c ∈ V.2.2.1 v, c < nv) ∧ (V.2.2.1 v).length ≤ 600 ∧ (V.2.2.1 v).Nodup ∧ vbt C u (V.2.2.2 v) v ∧ vch C (V.1 v) (V.2.2.1 v) v
/-- no value is in two chains -/
def vap (nv : Nat) (V : VT) : Prop := ∀ v v' c, v < nv → v' < nv → c ∈ V.2.2.1 v → c ∈ V.2.2.1 v' → v = v'
def vsC (C : wd_C) (nv u : Nat) (V : VT) : Prop := vsz C nv u ∧ (∀ v, v < nv → vrw C nv u V v) ∧ vap nv V
def vtNew (V : VT) (v : Nat) : VT := (upd V.1 v 0, vp_updL V.2.1 v 0, va_up V.2.2.1 v [], va_up V.2.2.2 v [])
def vtKind (V : VT) (v : Nat) (k : Int32) (x : Int64) : VT := (upd V.1 v k, vp_updL V.2.1 v x, V.2.2)
def vtByte (V : VT) (v : Nat) (x : Int32) : VT := (V.1, V.2.1, V.2.2.1, va_up V.2.2.2 v (V.2.2.2 v ++ [x]))
theorem vsC_add {C : wd_C} {nv u : Nat} {V : VT} (h : vsC C nv u V) (hn : nv < 300) : vsC (vAdd C nv u) (nv + 1) u (vtNew V nv) := by
  obtain ⟨⟨h1, h2, h3, h4⟩, hr, ha⟩ := h
  refine ⟨⟨rfl, by omega, h3, h4⟩, fun v hv => ?_, fun v v' c hv hv' hc hc' => ?_⟩
  · by_cases e : v = nv
    · subst e
      refine ⟨?_, ?_, ?_, ?_, ?_, ?_, ⟨u, ?_, ?_, ?_, ?_⟩, ?_, ?_⟩
      · simp [vAdd, vtNew, upd]
      · simp [vAdd, vtNew, vp_updL]
      · simp [vAdd, vtNew, upd, va_up, nI]
      · simp [vtNew, va_up]
      · simp [vtNew, va_up]
      · simp [vtNew, va_up]
      · simp [vAdd, upd]
      · simp [vAdd, vtNew, upd, va_up, nI]
      · simp [vtNew, va_up]
      · simp [vtNew, va_up]
      · intro k
        simp [vtNew, upd] at k
      · intro _
        simp [vAdd, vtNew, upd, va_up, lkd, oN]
    · obtain ⟨r1, r2, r3, r4, r5, r6, ⟨s, s1, s2, s3, s4⟩, r7⟩ := hr v (by omega)
      have e7 : (vtNew V nv).2.2.1 v = V.2.2.1 v := by simp [vtNew, va_up, e]
      have e8 : (vtNew V nv).2.2.2 v = V.2.2.2 v := by simp [vtNew, va_up, e]
      have e1 : (vtNew V nv).1 v = V.1 v := by simp [vtNew, upd, e]
      have hne : ∀ c ∈ V.2.2.1 v, c ≠ nv := fun c hc => by have := r4 c hc; omega
      refine ⟨?_, ?_, ?_, ?_, ?_, ?_, ⟨s, ?_, ?_, ?_, ?_⟩, ?_⟩
      · rw [e1, ← r1]; simp [vAdd, upd, e]
      · rw [show (vtNew V nv).2.1 v = V.2.1 v by simp [vtNew, vp_updL, e], ← r2]; simp [vAdd, vp_updL, e]
      · rw [e7, ← r3]; simp [vAdd, upd, e]
      · rw [e7]; exact fun c hc => Nat.lt_succ_of_lt (r4 c hc)
      · rw [e7]; exact r5
      · rw [e7]; exact r6
      · rw [← s1]; simp [vAdd, upd, e]
      · rw [e8, ← s2]; simp [vAdd, upd, e]
      · rw [e8]; exact s3
      · rw [e8]; exact s4
      · rw [e1, e7]
        have k5 : (vAdd C nv u).2.1 5 v = C.2.1 5 v := by simp [vAdd, upd, e]
        have k6 : (vAdd C nv u).2.1 6 v = C.2.1 6 v := by simp [vAdd, upd, e]
        have k7 : ∀ c ∈ V.2.2.1 v, (vAdd C nv u).2.1 7 c = C.2.1 7 c := fun c hc => by simp [vAdd, upd, hne c hc]
        have k8 : ∀ c ∈ V.2.2.1 v, (vAdd C nv u).2.1 8 c = C.2.1 8 c := fun c hc => by simp [vAdd, upd, hne c hc]
        refine ⟨fun z => ?_, fun z => ?_⟩
        · obtain ⟨q1, q2, q3⟩ := r7.1 z
          exact ⟨by rw [k5]; exact lkd_congr (fun a hm => k7 a (keysOf_mem hm)) q1, by rw [k6]; exact q2, hld_congr k8 q3⟩
        · obtain ⟨q1, q2⟩ := r7.2 z
          exact ⟨by rw [k5]; exact lkd_congr k7 q1, by rw [k6]; exact q2⟩
  · have f : ∀ w, c ∈ (vtNew V nv).2.2.1 w → w ≠ nv ∧ c ∈ V.2.2.1 w := fun w hw => by
      by_cases e : w = nv
      · subst e; simp [vtNew, va_up] at hw
      · simp [vtNew, va_up, e] at hw; exact ⟨e, hw⟩
    obtain ⟨g1, g2⟩ := f v hc
    obtain ⟨g3, g4⟩ := f v' hc'
    exact ha v v' c (by omega) (by omega) g2 g4
theorem vsC_kind {C : wd_C} {nv u : Nat} {V : VT} (h : vsC C nv u V) {v : Nat} (hv : v < nv) (hk : V.2.2.1 v = []) (k : Int32) (x : Int64) : vsC (vKind C v k x) nv u (vtKind V v k x) := by
  obtain ⟨hz, hr, ha⟩ := h
  refine ⟨hz, fun w hw => ?_, ha⟩
  obtain ⟨r1, r2, r3, r4, r5, r6, r8, r7⟩ := hr w hw
  by_cases e : w = v
  · subst e
    refine ⟨?_, ?_, r3, r4, r5, r6, r8, ?_⟩
    · simp [vKind, vtKind, wd_u, upd]
    · simp [vKind, vtKind, vp_updL]
    · have q : C.2.1 5 w = -1 ∧ C.2.1 6 w = -1 := by
        rw [hk] at r7
        by_cases z : V.1 w = 7
        · obtain ⟨q1, q2, -⟩ := r7.1 z
          exact ⟨q1, q2⟩
        · exact r7.2 z
      show vch _ _ (V.2.2.1 w) w
      rw [hk]
      exact ⟨fun _ => ⟨q.1, q.2, trivial⟩, fun _ => ⟨q.1, q.2⟩⟩
  · refine ⟨?_, ?_, r3, r4, r5, r6, r8, ?_⟩
    · rw [show (vtKind V v k x).1 w = V.1 w by simp [vtKind, upd, e], ← r1]; simp [vKind, wd_u, upd, e]
    · rw [show (vtKind V v k x).2.1 w = V.2.1 w by simp [vtKind, vp_updL, e], ← r2]; simp [vKind, vp_updL, e]
    · rw [show (vtKind V v k x).1 w = V.1 w by simp [vtKind, upd, e]]
      exact r7
