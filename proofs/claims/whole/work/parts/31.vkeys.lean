/-! a key more, over values as lists -/
theorem keysOf_app {g : Nat → Int32} {k x : Nat} : ∀ {ks : List Nat}, hld g ks → keysOf (ks ++ [k, x]) = keysOf ks ++ [k]
  | [], _ => rfl
  | [a], h => absurd h (by simp [hld])
  | a :: c :: r, h => by
    show a :: keysOf (r ++ [k, x]) = a :: (keysOf r ++ [k])
    rw [keysOf_app h.2]
theorem hld_app {g : Nat → Int32} {k x : Nat} : ∀ {ks : List Nat}, hld g ks → k ∉ ks → hld (upd g k (nI x)) (ks ++ [k, x])
  | [], _, _ => ⟨by simp [upd], trivial⟩
  | [a], h, _ => absurd h (by simp [hld])
  | a :: c :: r, h, hm => by
    have h1 : a ≠ k := fun e => hm (by simp [e])
    exact ⟨by simp [upd, h1]; exact h.1, hld_app h.2 (fun z => hm (List.mem_cons_of_mem _ (List.mem_cons_of_mem _ z)))⟩
def vtKey (V : VT) (v k x : Nat) : VT := (V.1, V.2.1, va_up V.2.2.1 v (V.2.2.1 v ++ [k, x]), V.2.2.2)
theorem vKeyA_1 (C : wd_C) (v p : Nat) (o : Option Nat) (x : Int32) : (vKeyA C v p o x).1 = C.1 := by cases o <;> rfl
theorem vKeyA_k (C : wd_C) (v p : Nat) (o : Option Nat) (x : Int32) : (∀ w, (vKeyA C v p o x).2.1 1 w = C.2.1 1 w) ∧ (∀ w, (vKeyA C v p o x).2.2 w = C.2.2 w) ∧ (∀ w, (vKeyA C v p o x).2.1 2 w = C.2.1 2 w) ∧ (∀ w, (vKeyA C v p o x).2.1 3 w = C.2.1 3 w) ∧ (∀ w, (vKeyA C v p o x).2.1 9 w = C.2.1 9 w) ∧ ((vKeyA C v p o x).2.1 8 = upd (C.2.1 8) p x) ∧ (∀ w, w ≠ v → (vKeyA C v p o x).2.1 4 w = C.2.1 4 w) ∧ (∀ w, w ≠ v → (vKeyA C v p o x).2.1 5 w = C.2.1 5 w) ∧ (∀ w, w ≠ v → (vKeyA C v p o x).2.1 6 w = C.2.1 6 w) ∧ (∀ w, o ≠ some w → (vKeyA C v p o x).2.1 7 w = C.2.1 7 w) ∧ (vKeyA C v p o x).2.1 4 v = C.2.1 4 v + 2 ∧ (vKeyA C v p o x).2.1 6 v = nI p ∧ (o = none → (vKeyA C v p o x).2.1 5 v = nI p) ∧ (o ≠ none → (vKeyA C v p o x).2.1 5 v = C.2.1 5 v) ∧ (∀ q, o = some q → (vKeyA C v p o x).2.1 7 = upd (C.2.1 7) q (nI p)) ∧ (o = none → (vKeyA C v p o x).2.1 7 = C.2.1 7) := by
  cases o with
  | none => refine ⟨?_, ?_, ?_, ?_, ?_, rfl, ?_, ?_, ?_, ?_, ?_, ?_, ?_, ?_, ?_, ?_⟩ <;> intros <;> simp_all [vKeyA, vChain, wd_u, upd]
  | some q =>
    refine ⟨?_, ?_, ?_, ?_, ?_, rfl, ?_, ?_, ?_, ?_, ?_, ?_, ?_, ?_, ?_, ?_⟩ <;> intros <;> first | (simp_all [vKeyA, vChain, wd_u, upd]; done) | (rename_i h; cases h; rfl) | (rename_i w h; have h2 : w ≠ q := fun e => h (by rw [e]); simp [vKeyA, vChain, wd_u, upd, h2])
theorem vsC_key {C : wd_C} {nv u : Nat} {V : VT} (h : vsC C nv u V) {v k x : Nat} (hv : v < nv) (hkn : k < nv) (hxn : x < nv) (hkx : k ≠ x) (hk : V.1 v = 7) (hf : vfr C nv V k) (hfx : vfr C nv V x) (hl : (V.2.2.1 v).length + 2 ≤ 600) : vsC (vKeyA C v k (keysOf (V.2.2.1 v)).getLast? (nI x)) nv u (vtKey V v k x) ∧ ∀ y, y ≠ k → y ≠ x → vfr C nv V y → vfr (vKeyA C v k (keysOf (V.2.2.1 v)).getLast? (nI x)) nv (vtKey V v k x) y := by
  obtain ⟨hz, hr, ha⟩ := h
  obtain ⟨k1, k2, k3, k4, k9, k8, g4, g5, g6, g7, f4, f6, f5n, f5s, f7s, f7n⟩ := vKeyA_k C v k (keysOf (V.2.2.1 v)).getLast? (nI x)
  have hlm : ∀ q, (keysOf (V.2.2.1 v)).getLast? = some q → q ∈ V.2.2.1 v := fun q hq => keysOf_mem (List.mem_of_getLast? hq)
  have o7 : ∀ w, w ≠ v → w < nv → ∀ c ∈ V.2.2.1 w, (vKeyA C v k (keysOf (V.2.2.1 v)).getLast? (nI x)).2.1 7 c = C.2.1 7 c := fun w hw hwn c hc => g7 c (fun e => hw (ha w v c hwn hv hc (hlm c e)))
  have o8 : ∀ w, w < nv → ∀ c ∈ V.2.2.1 w, (vKeyA C v k (keysOf (V.2.2.1 v)).getLast? (nI x)).2.1 8 c = C.2.1 8 c := fun w hw c hc => by
    rw [k8]
    have : c ≠ k := fun e => hf.2 w hw (e ▸ hc)
    simp [upd, this]
  refine ⟨⟨by rw [vsz, vKeyA_1]; exact hz, fun w hw => ?_, fun w w' c hw hw' hc hc' => ?_⟩, fun y hy1 hy2 hfy => ⟨?_, fun w hw hm => ?_⟩⟩
  · obtain ⟨r1, r2, r3, r4, r5, r6, ⟨s, s1, s2, s3, s4⟩, r7⟩ := hr w hw
    by_cases e : w = v
    · subst e
      have ek : (vtKey V w k x).2.2.1 w = V.2.2.1 w ++ [k, x] := by simp [vtKey, va_up]
      obtain ⟨q1, q2, q3⟩ := r7.1 hk
      refine ⟨by rw [k1]; exact r1, by rw [k2]; exact r2, ?_, ?_, ?_, ?_, ⟨s, by rw [k3]; exact s1, by rw [k4]; exact s2, s3, fun j hj => by rw [k9]; exact s4 j hj⟩, fun _ => ⟨?_, ?_, ?_⟩, fun z => absurd hk z⟩
      · rw [f4, ek, r3, show (2 : Int32) = nI 2 from rfl, nI_add]; simp
      · rw [ek]; intro c hc
        rcases List.mem_append.mp hc with hc | hc
        · exact r4 c hc
        · simp at hc; rcases hc with hc | hc <;> rw [hc] <;> assumption
      · rw [ek]; simp; omega
      · rw [ek]
        refine List.nodup_append.mpr ⟨r6, by simp [hkx], fun a ha1 c hc => ?_⟩
        simp at hc
        rcases hc with rfl | rfl
        · exact fun e => hf.2 w hw (e ▸ ha1)
        · exact fun e => hfx.2 w hw (e ▸ ha1)
      · rw [ek, keysOf_app q3]
        cases hlast : (keysOf (V.2.2.1 w)).getLast? with
        | none =>
          have e0 : keysOf (V.2.2.1 w) = [] := by simpa using hlast
          rw [hlast] at f5n f7n
          rw [e0]
          refine ⟨f5n rfl, ?_⟩
          show (vKeyA C w k none (nI x)).2.1 7 k = -1
          rw [f7n rfl]; exact hf.1
        | some q =>
          rw [hlast] at f5s f7s
          rw [f5s (by simp), f7s q rfl]
          exact lkd_app (fun z => by rw [z] at hlast; cases hlast) (r6.sublist (keysOf_sub _)) (fun z => hf.2 w hw (keysOf_mem z)) q1 hf.1 q hlast
      · rw [ek, keysOf_app q3, f6]; simp [oN]
      · rw [ek, k8]; exact hld_app q3 (hf.2 w hw)
    · have ek : (vtKey V v k x).2.2.1 w = V.2.2.1 w := by simp [vtKey, va_up, e]
      refine ⟨by rw [k1]; exact r1, by rw [k2]; exact r2, by rw [ek, g4 w e]; exact r3, by rw [ek]; exact r4, by rw [ek]; exact r5, by rw [ek]; exact r6, ⟨s, by rw [k3]; exact s1, by rw [k4]; exact s2, s3, fun j hj => by rw [k9]; exact s4 j hj⟩, fun z => ?_, fun z => ?_⟩
      · obtain ⟨q1, q2, q3⟩ := r7.1 z
        rw [ek, g5 w e, g6 w e]
        exact ⟨lkd_congr (fun a hm => o7 w e hw a (keysOf_mem hm)) q1, q2, hld_congr (o8 w hw) q3⟩
      · obtain ⟨q1, q2⟩ := r7.2 z
        rw [ek, g5 w e, g6 w e]
        exact ⟨lkd_congr (o7 w e hw) q1, q2⟩
  · have f : ∀ w, w < nv → c ∈ (vtKey V v k x).2.2.1 w → (w = v ∧ (c = k ∨ c = x)) ∨ c ∈ V.2.2.1 w := fun w hw hm => by
      by_cases e : w = v
      · subst e
        rw [show (vtKey V w k x).2.2.1 w = V.2.2.1 w ++ [k, x] by simp [vtKey, va_up]] at hm
        rcases List.mem_append.mp hm with hm | hm
        · exact Or.inr hm
        · simp at hm; exact Or.inl ⟨rfl, hm⟩
      · rw [show (vtKey V v k x).2.2.1 w = V.2.2.1 w by simp [vtKey, va_up, e]] at hm
        exact Or.inr hm
    have no : ∀ w, w < nv → (c = k ∨ c = x) → c ∉ V.2.2.1 w := fun w hw hc hm => by
      rcases hc with rfl | rfl
      · exact hf.2 w hw hm
      · exact hfx.2 w hw hm
    rcases f w hw hc with ⟨e1, e2⟩ | m1 <;> rcases f w' hw' hc' with ⟨e3, e4⟩ | m2
    · rw [e1, e3]
    · exact absurd m2 (no w' hw' e2)
    · exact absurd m1 (no w hw e4)
    · exact ha w w' c hw hw' m1 m2
  · rw [g7 y (fun e => hfy.2 v hv (hlm y e))]; exact hfy.1
  · by_cases e : w = v
    · subst e
      rw [show (vtKey V w k x).2.2.1 w = V.2.2.1 w ++ [k, x] by simp [vtKey, va_up]] at hm
      rcases List.mem_append.mp hm with hm | hm
      · exact hfy.2 w hw hm
      · simp at hm; rcases hm with hm | hm
        · exact hy1 hm
        · exact hy2 hm
    · rw [show (vtKey V v k x).2.2.1 w = V.2.2.1 w by simp [vtKey, va_up, e]] at hm
      exact hfy.2 w hw hm
