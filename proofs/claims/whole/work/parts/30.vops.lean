/-! what the component's steps do to values as lists: a byte, a part, a key -/
theorem nd_len : ∀ (n : Nat) (l : List Nat), l.Nodup → (∀ a ∈ l, a < n) → l.length ≤ n
  | 0, l, _, h => by
    cases l with
    | nil => simp
    | cons a r => exact absurd (h a List.mem_cons_self) (by omega)
  | n + 1, l, hd, h => by
    by_cases hm : n ∈ l
    · obtain ⟨l1, l2, rfl⟩ := List.append_of_mem hm
      have hs : (l1 ++ l2).Sublist (l1 ++ n :: l2) := List.Sublist.append (List.Sublist.refl _) (List.sublist_cons_self _ _)
      have h2 : n ∉ l1 ++ l2 := by
        have h3 := List.nodup_append.mp hd
        have h4 := List.nodup_cons.mp h3.2.1
        intro hz
        rcases List.mem_append.mp hz with hz | hz
        · exact h3.2.2 n hz n List.mem_cons_self rfl
        · exact h4.1 hz
      have := nd_len n (l1 ++ l2) (hd.sublist hs) (fun a ha => by
        have h5 := h a (hs.subset ha)
        have : a ≠ n := fun e => h2 (e ▸ ha)
        omega)
      simp at this ⊢
      omega
    · have := nd_len n l hd (fun a ha => by
        have h5 := h a ha
        have : a ≠ n := fun e => hm (e ▸ ha)
        omega)
      omega
theorem keysOf_sub : ∀ (ks : List Nat), (keysOf ks).Sublist ks
  | [] => List.Sublist.refl _
  | [a] => List.nil_sublist _
  | a :: c :: r => by
    rw [keysOf]
    exact (((keysOf_sub r).cons c)).cons_cons a
theorem vb_nar (x : Int32) : vp_nar .byte x.toInt8.toInt32 = x.toInt8.toInt32 := by
  rw [vp_nar_byte]
  simp
/-- v is the value whose bytes stand last -/
def vcu (C : wd_C) (u : Nat) (V : VT) (v : Nat) : Prop := ∃ s, C.2.1 2 v = nI s ∧ s + (V.2.2.2 v).length = u
theorem vcu_add {C : wd_C} {nv u : Nat} {V : VT} : vcu (vAdd C nv u) u (vtNew V nv) nv := ⟨u, by simp [vAdd, upd], by simp [vtNew, va_up]⟩
theorem vsC_byte {C : wd_C} {nv u : Nat} {V : VT} (h : vsC C nv u V) {v : Nat} (hv : v < nv) (hc : vcu C u V v) (hu : u < 2000) {j : Nat} (hj : j < 256) : vsC (vByte C v u (nI j)) nv (u + 1) (vtByte V v (nI j)) ∧ vcu (vByte C v u (nI j)) (u + 1) (vtByte V v (nI j)) v := by
  obtain ⟨⟨h1, h2, h3, h4⟩, hr, ha⟩ := h
  obtain ⟨s0, c1, c2⟩ := hc
  have k9 : ∀ i, i ≠ u → (vByte C v u (nI j)).2.1 9 i = C.2.1 9 i := fun i hi => by simp [vByte, upd, hi]
  have k9u : (vByte C v u (nI j)).2.1 9 u = (nI j).toInt8.toInt32 := by simp [vByte, upd, vb_nar]
  have hlen : ((vtByte V v (nI j)).2.2.2 v).length = (V.2.2.2 v).length + 1 := by simp [vtByte, va_up]
  refine ⟨⟨⟨h1, h2, rfl, by omega⟩, fun w hw => ?_, ha⟩, ⟨s0, c1, by rw [hlen]; omega⟩⟩
  obtain ⟨r1, r2, r3, r4, r5, r6, ⟨s, s1, s2, s3, s4⟩, r7⟩ := hr w hw
  refine ⟨r1, r2, r3, r4, r5, r6, ⟨s, s1, ?_, ?_, ?_⟩, r7⟩
  · by_cases e : w = v
    · subst e
      rw [hlen, ← nI_1, ← s2]
      simp [vByte, upd]
    · rw [show (vtByte V v (nI j)).2.2.2 w = V.2.2.2 w by simp [vtByte, va_up, e], ← s2]
      simp [vByte, upd, e]
  · by_cases e : w = v
    · subst e
      rw [hlen]; omega
    · rw [show (vtByte V v (nI j)).2.2.2 w = V.2.2.2 w by simp [vtByte, va_up, e]]; omega
  · intro i hi
    by_cases e : w = v
    · subst e
      have es : s = s0 := (nI_eq (by omega) (by omega)).mp (s1.symm.trans c1)
      subst es
      have eb : (vtByte V w (nI j)).2.2.2 w = V.2.2.2 w ++ [nI j] := by simp [vtByte, va_up]
      rw [eb] at hi ⊢
      by_cases ei : i = (V.2.2.2 w).length
      · subst ei
        rw [show s + (V.2.2.2 w).length = u from c2, k9u]
        refine ⟨j, hj, ?_, rfl⟩
        simp [List.getD_eq_getElem?_getD]
      · simp at hi
        rw [k9 _ (by omega)]
        have := s4 i (by omega)
        rwa [show (V.2.2.2 w ++ [nI j]).getD i 0 = (V.2.2.2 w).getD i 0 by simp [List.getD_eq_getElem?_getD, List.getElem?_append_left (show i < (V.2.2.2 w).length by omega)]]
    · have eb : (vtByte V v (nI j)).2.2.2 w = V.2.2.2 w := by simp [vtByte, va_up, e]
      rw [eb] at hi ⊢
      rw [k9 _ (by omega)]
      exact s4 i hi
/-- a chain gets one more behind its last -/
theorem lkd_app {nx : Nat → Int32} {p : Nat} : ∀ {r : List Nat} {x : Int32}, r ≠ [] → r.Nodup → p ∉ r → lkd nx x r → nx p = -1 → ∀ q, r.getLast? = some q → lkd (upd nx q (nI p)) x (r ++ [p])
  | [], x, h, _, _, _, _, _, _ => absurd rfl h
  | [a], x, _, _, hp, h, hn, q, hq => by
    simp at hq
    subst hq
    refine ⟨h.1, ?_, ?_⟩
    · simp [upd]
    · have : p ≠ a := fun e => hp (by simp [e])
      simp [upd, this, hn, lkd]
  | a :: c :: r, x, _, hd, hp, h, hn, q, hq => by
    have hq2 : (c :: r).getLast? = some q := by simpa [List.getLast?_cons_cons] using hq
    have hqm : q ∈ c :: r := List.mem_of_getLast? hq2
    have hne : a ≠ q := fun e => (List.nodup_cons.mp hd).1 (e ▸ hqm)
    refine ⟨h.1, ?_⟩
    rw [show upd nx q (nI p) a = nx a by simp [upd, hne]]
    exact lkd_app (by simp) (List.nodup_cons.mp hd).2 (fun z => hp (List.mem_cons_of_mem _ z)) h.2 hn q hq2
/-- a value that is in no chain yet -/
def vfr (C : wd_C) (nv : Nat) (V : VT) (x : Nat) : Prop := C.2.1 7 x = -1 ∧ ∀ v, v < nv → x ∉ V.2.2.1 v
def vtPart (V : VT) (v p : Nat) : VT := (V.1, V.2.1, va_up V.2.2.1 v (V.2.2.1 v ++ [p]), V.2.2.2)
theorem vPart_1 (C : wd_C) (v p : Nat) (o : Option Nat) : (vPart C v p o).1 = C.1 := by cases o <;> rfl
theorem vPart_k (C : wd_C) (v p : Nat) (o : Option Nat) : (∀ w, (vPart C v p o).2.1 1 w = C.2.1 1 w) ∧ (∀ w, (vPart C v p o).2.2 w = C.2.2 w) ∧ (∀ w, (vPart C v p o).2.1 2 w = C.2.1 2 w) ∧ (∀ w, (vPart C v p o).2.1 3 w = C.2.1 3 w) ∧ (∀ w, (vPart C v p o).2.1 9 w = C.2.1 9 w) ∧ (∀ w, (vPart C v p o).2.1 8 w = C.2.1 8 w) ∧ (∀ w, w ≠ v → (vPart C v p o).2.1 4 w = C.2.1 4 w) ∧ (∀ w, w ≠ v → (vPart C v p o).2.1 5 w = C.2.1 5 w) ∧ (∀ w, w ≠ v → (vPart C v p o).2.1 6 w = C.2.1 6 w) ∧ (∀ w, o ≠ some w → (vPart C v p o).2.1 7 w = C.2.1 7 w) ∧ (vPart C v p o).2.1 4 v = C.2.1 4 v + 1 ∧ (vPart C v p o).2.1 6 v = nI p ∧ (o = none → (vPart C v p o).2.1 5 v = nI p) ∧ (o ≠ none → (vPart C v p o).2.1 5 v = C.2.1 5 v) ∧ (∀ q, o = some q → (vPart C v p o).2.1 7 = upd (C.2.1 7) q (nI p)) ∧ (o = none → (vPart C v p o).2.1 7 = C.2.1 7) := by
  cases o with
  | none => refine ⟨?_, ?_, ?_, ?_, ?_, ?_, ?_, ?_, ?_, ?_, ?_, ?_, ?_, ?_, ?_, ?_⟩ <;> intros <;> simp_all [vPart, vChain, wd_u, upd]
  | some q =>
    refine ⟨?_, ?_, ?_, ?_, ?_, ?_, ?_, ?_, ?_, ?_, ?_, ?_, ?_, ?_, ?_, ?_⟩ <;> intros <;> first | (simp_all [vPart, vChain, wd_u, upd]; done) | (rename_i h; cases h; rfl) | (rename_i w h; have h2 : w ≠ q := fun e => h (by rw [e]); simp [vPart, vChain, wd_u, upd, h2])
theorem vsC_part {C : wd_C} {nv u : Nat} {V : VT} (h : vsC C nv u V) {v p : Nat} (hv : v < nv) (hp : p < nv) (hk : ¬ V.1 v = 7) (hf : vfr C nv V p) (hl : (V.2.2.1 v).length + 1 ≤ 600) : vsC (vPart C v p (V.2.2.1 v).getLast?) nv u (vtPart V v p) ∧ ∀ x, x ≠ p → vfr C nv V x → vfr (vPart C v p (V.2.2.1 v).getLast?) nv (vtPart V v p) x := by
  obtain ⟨hz, hr, ha⟩ := h
  obtain ⟨k1, k2, k3, k4, k9, k8, g4, g5, g6, g7, f4, f6, f5n, f5s, f7s, f7n⟩ := vPart_k C v p (V.2.2.1 v).getLast?
  have hlm : ∀ q, (V.2.2.1 v).getLast? = some q → q ∈ V.2.2.1 v := fun q hq => List.mem_of_getLast? hq
  have o7 : ∀ w, w ≠ v → w < nv → ∀ c ∈ V.2.2.1 w, (vPart C v p (V.2.2.1 v).getLast?).2.1 7 c = C.2.1 7 c := fun w hw hwn c hc => g7 c (fun e => hw (ha w v c hwn hv hc (hlm c e)))
  refine ⟨⟨by rw [vsz, vPart_1]; exact hz, fun w hw => ?_, fun w w' c hw hw' hc hc' => ?_⟩, fun x hx hfx => ⟨?_, fun w hw hm => ?_⟩⟩
  · obtain ⟨r1, r2, r3, r4, r5, r6, ⟨s, s1, s2, s3, s4⟩, r7⟩ := hr w hw
    by_cases e : w = v
    · subst e
      have ek : (vtPart V w p).2.2.1 w = V.2.2.1 w ++ [p] := by simp [vtPart, va_up]
      obtain ⟨q1, q2⟩ := r7.2 hk
      refine ⟨by rw [k1]; exact r1, by rw [k2]; exact r2, ?_, ?_, ?_, ?_, ⟨s, by rw [k3]; exact s1, by rw [k4]; exact s2, s3, fun j hj => by rw [k9]; exact s4 j hj⟩, fun z => absurd z hk, fun _ => ⟨?_, ?_⟩⟩
      · rw [f4, ek, r3, nI_1]; simp
      · rw [ek]; intro c hc
        rcases List.mem_append.mp hc with hc | hc
        · exact r4 c hc
        · simp at hc; rw [hc]; exact hp
      · rw [ek]; simp; omega
      · rw [ek]
        refine List.nodup_append.mpr ⟨r6, by simp, fun a ha1 c hc => ?_⟩
        simp at hc
        subst hc
        exact fun e => hf.2 w hw (e ▸ ha1)
      · rw [ek]
        cases hlast : (V.2.2.1 w).getLast? with
        | none =>
          have e0 : V.2.2.1 w = [] := by simpa using hlast
          rw [hlast] at f5n f7n
          rw [e0]
          refine ⟨f5n rfl, ?_⟩
          show (vPart C w p none).2.1 7 p = -1
          rw [f7n rfl]; exact hf.1
        | some q =>
          rw [hlast] at f5s f7s
          rw [f5s (by simp), f7s q rfl]
          exact lkd_app (fun z => by rw [z] at hlast; cases hlast) r6 (hf.2 w hw) q1 hf.1 q hlast
      · rw [ek, f6]; simp [oN]
    · have ek : (vtPart V v p).2.2.1 w = V.2.2.1 w := by simp [vtPart, va_up, e]
      refine ⟨by rw [k1]; exact r1, by rw [k2]; exact r2, by rw [ek, g4 w e]; exact r3, by rw [ek]; exact r4, by rw [ek]; exact r5, by rw [ek]; exact r6, ⟨s, by rw [k3]; exact s1, by rw [k4]; exact s2, s3, fun j hj => by rw [k9]; exact s4 j hj⟩, fun z => ?_, fun z => ?_⟩
      · obtain ⟨q1, q2, q3⟩ := r7.1 z
        rw [ek, g5 w e, g6 w e]
        exact ⟨lkd_congr (fun a hm => o7 w e hw a (keysOf_mem hm)) q1, q2, hld_congr (fun a _ => k8 a) q3⟩
      · obtain ⟨q1, q2⟩ := r7.2 z
        rw [ek, g5 w e, g6 w e]
        exact ⟨lkd_congr (o7 w e hw) q1, q2⟩
  · have f : ∀ w, w < nv → c ∈ (vtPart V v p).2.2.1 w → (w = v ∧ c = p) ∨ c ∈ V.2.2.1 w := fun w hw hm => by
      by_cases e : w = v
      · subst e
        rw [show (vtPart V w p).2.2.1 w = V.2.2.1 w ++ [p] by simp [vtPart, va_up]] at hm
        rcases List.mem_append.mp hm with hm | hm
        · exact Or.inr hm
        · simp at hm; exact Or.inl ⟨rfl, hm⟩
      · rw [show (vtPart V v p).2.2.1 w = V.2.2.1 w by simp [vtPart, va_up, e]] at hm
        exact Or.inr hm
    rcases f w hw hc with ⟨e1, e2⟩ | m1 <;> rcases f w' hw' hc' with ⟨e3, e4⟩ | m2
    · rw [e1, e3]
    · subst e2; exact absurd m2 (hf.2 w' hw')
    · subst e4; exact absurd m1 (hf.2 w hw)
    · exact ha w w' c hw hw' m1 m2
  · rw [g7 x (fun e => hfx.2 v hv (hlm x e))]; exact hfx.1
  · by_cases e : w = v
    · subst e
      rw [show (vtPart V w p).2.2.1 w = V.2.2.1 w ++ [p] by simp [vtPart, va_up]] at hm
      rcases List.mem_append.mp hm with hm | hm
      · exact hfx.2 w hw hm
      · simp at hm; exact hx hm
    · rw [show (vtPart V v p).2.2.1 w = V.2.2.1 w by simp [vtPart, va_up, e]] at hm
      exact hfx.2 w hw hm
