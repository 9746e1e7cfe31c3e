/-! vsY: the reference's rows hold the values as lists -/
def ybt (Y : wd_Y) (u : Nat) (bs : List Int32) (v : Nat) : Prop :=
  ∃ s, Y.2.1 7 v = nI s ∧ Y.2.1 8 v = nI bs.length ∧ s + bs.length ≤ u ∧ ∀ j, j < bs.length → Y.2.1 9 (s + j) = bs.getD j 0
def yrw (Y : wd_Y) (nv u : Nat) (V : VT) (v : Nat) : Prop :=
  Y.2.1 2 v = V.1 v ∧ Y.2.2.1 v = V.2.1 v ∧ Y.2.1 6 v = nI (V.2.2.1 v).length ∧ ybt Y u (V.2.2.2 v) v ∧ lkd (Y.2.1 5) (Y.2.1 3 v) (V.2.2.1 v) ∧ Y.2.1 4 v = oN (V.2.2.1 v).getLast?
/-- with the component's vsC beside it, which says that chains are apart -/
def vsY (Y : wd_Y) (nv u : Nat) (V : VT) : Prop := vsy Y nv u ∧ ∀ v, v < nv → yrw Y nv u V v
def vok (nv : Nat) (V : VT) : Prop := (∀ v, v < nv → (∀ c ∈ V.2.2.1 v, c < nv) ∧ (V.2.2.1 v).Nodup) ∧ vap nv V
theorem vsC_ok {C : wd_C} {nv u : Nat} {V : VT} (h : vsC C nv u V) : vok nv V := ⟨fun v hv => ⟨(h.2.1 v hv).2.2.2.1, (h.2.1 v hv).2.2.2.2.2.1⟩, h.2.2⟩
theorem vsY_new {Y : wd_Y} {nv u : Nat} {V : VT} (h : vsY Y nv u V) (ho : vok nv V) (hn : nv < 300) (k : Int32) : vsY (yNew Y nv u k) (nv + 1) u (vtKind (vtNew V nv) nv k 0) := by
  obtain ⟨⟨h1, h2, h3, h4⟩, hr⟩ := h
  refine ⟨⟨rfl, by omega, h3, h4⟩, fun v hv => ?_⟩
  by_cases e : v = nv
  · subst e
    refine ⟨?_, ?_, ?_, ⟨u, ?_, ?_, ?_, ?_⟩, ?_, ?_⟩
    · simp [yNew, vtKind, upd]
    · simp [yNew, vtKind, vp_updL]
    · simp [yNew, vtKind, vtNew, upd, va_up, nI]
    · simp [yNew, upd]
    · simp [yNew, vtKind, vtNew, upd, va_up, nI]
    · simp [vtKind, vtNew, va_up]
    · simp [vtKind, vtNew, va_up]
    · simp [yNew, vtKind, vtNew, upd, va_up, lkd]
    · simp [yNew, vtKind, vtNew, upd, va_up, oN]
  · obtain ⟨r1, r2, r3, ⟨s, s1, s2, s3, s4⟩, r4, r5⟩ := hr v (by omega)
    have e7 : (vtKind (vtNew V nv) nv k 0).2.2.1 v = V.2.2.1 v := by simp [vtKind, vtNew, va_up, e]
    have e8 : (vtKind (vtNew V nv) nv k 0).2.2.2 v = V.2.2.2 v := by simp [vtKind, vtNew, va_up, e]
    refine ⟨?_, ?_, ?_, ⟨s, ?_, ?_, ?_, ?_⟩, ?_, ?_⟩
    · rw [show (vtKind (vtNew V nv) nv k 0).1 v = V.1 v by simp [vtKind, vtNew, upd, e], ← r1]; simp [yNew, upd, e]
    · rw [show (vtKind (vtNew V nv) nv k 0).2.1 v = V.2.1 v by simp [vtKind, vtNew, vp_updL, e], ← r2]; simp [yNew, vp_updL, e]
    · rw [e7, ← r3]; simp [yNew, upd, e]
    · rw [← s1]; simp [yNew, upd, e]
    · rw [e8, ← s2]; simp [yNew, upd, e]
    · rw [e8]; exact s3
    · rw [e8]; exact s4
    · rw [e7, show (yNew Y nv u k).2.1 3 v = Y.2.1 3 v by simp [yNew, upd, e]]
      refine lkd_congr (fun a ha => ?_) r4
      have : a ≠ nv := fun z => by have := (ho.1 v (by omega)).1 a ha; omega
      simp [yNew, upd, this]
    · rw [e7, ← r5]; simp [yNew, upd, e]
theorem vsY_keep {Y : wd_Y} {nv u : Nat} {V : VT} (h : vsY Y nv u V) {v : Nat} (hv : v < nv) {bs : List Int32} (hb : ∀ j, j < bs.length → Y.2.1 10 j = bs.getD j 0) (hu : u + bs.length ≤ 2000) : vsY (yKeep Y v u bs.length) nv (u + bs.length) (V.1, V.2.1, V.2.2.1, va_up V.2.2.2 v bs) := by
  obtain ⟨⟨h1, h2, h3, h4⟩, hr⟩ := h
  refine ⟨⟨h1, h2, rfl, hu⟩, fun w hw => ?_⟩
  obtain ⟨r1, r2, r3, ⟨s, s1, s2, s3, s4⟩, r4, r5⟩ := hr w hw
  refine ⟨r1, r2, r3, ?_, r4, r5⟩
  by_cases e : w = v
  · subst e
    refine ⟨u, by simp [yKeep, upd], by simp [yKeep, upd, va_up], by simp [va_up], fun j hj => ?_⟩
    simp [va_up] at hj
    rw [show ((V.1, V.2.1, V.2.2.1, va_up V.2.2.2 w bs) : VT).2.2.2 w = bs by simp [va_up], ← hb j hj]
    show va_cpy (Y.2.1 10) (Y.2.1 9) 0 u bs.length (u + j) = _
    unfold va_cpy
    rw [if_pos (by omega), show 0 + (u + j - u) = j by omega]
  · have e8 : va_up V.2.2.2 v bs w = V.2.2.2 w := by simp [va_up, e]
    refine ⟨s, by rw [← s1]; simp [yKeep, upd, e], by rw [show ((V.1, V.2.1, V.2.2.1, va_up V.2.2.2 v bs) : VT).2.2.2 w = V.2.2.2 w from e8, ← s2]; simp [yKeep, upd, e], by rw [show ((V.1, V.2.1, V.2.2.1, va_up V.2.2.2 v bs) : VT).2.2.2 w = V.2.2.2 w from e8]; omega, fun j hj => ?_⟩
    rw [show ((V.1, V.2.1, V.2.2.1, va_up V.2.2.2 v bs) : VT).2.2.2 w = V.2.2.2 w from e8] at hj ⊢
    rw [← s4 j hj]
    show va_cpy (Y.2.1 10) (Y.2.1 9) 0 u bs.length (s + j) = _
    unfold va_cpy
    rw [if_neg (by omega)]
/-- a part more: the reference's way -/
theorem yApp_k (Y : wd_Y) (v p : Nat) (o : Option Nat) : (yApp Y v p o).1 = Y.1 ∧ (∀ w, (yApp Y v p o).2.1 2 w = Y.2.1 2 w) ∧ (yApp Y v p o).2.2 = Y.2.2 ∧ (∀ w, (yApp Y v p o).2.1 7 w = Y.2.1 7 w) ∧ (∀ w, (yApp Y v p o).2.1 8 w = Y.2.1 8 w) ∧ (∀ w, (yApp Y v p o).2.1 9 w = Y.2.1 9 w) ∧ (∀ w, w ≠ v → (yApp Y v p o).2.1 6 w = Y.2.1 6 w) ∧ (∀ w, w ≠ v → (yApp Y v p o).2.1 3 w = Y.2.1 3 w) ∧ (∀ w, w ≠ v → (yApp Y v p o).2.1 4 w = Y.2.1 4 w) ∧ (∀ w, o ≠ some w → w ≠ p → (yApp Y v p o).2.1 5 w = Y.2.1 5 w) ∧ (yApp Y v p o).2.1 6 v = Y.2.1 6 v + 1 ∧ (yApp Y v p o).2.1 4 v = nI p ∧ (yApp Y v p o).2.1 5 p = -1 ∧ (o = none → (yApp Y v p o).2.1 3 v = nI p) ∧ (o ≠ none → (yApp Y v p o).2.1 3 v = Y.2.1 3 v) ∧ (∀ q, o = some q → (yApp Y v p o).2.1 5 = upd (upd (Y.2.1 5) q (nI p)) p (-1)) := by
  cases o with
  | none => refine ⟨rfl, ?_, rfl, ?_, ?_, ?_, ?_, ?_, ?_, ?_, ?_, ?_, ?_, ?_, ?_, ?_⟩ <;> intros <;> simp_all [yApp, upd]
  | some q =>
    refine ⟨rfl, ?_, rfl, ?_, ?_, ?_, ?_, ?_, ?_, ?_, ?_, ?_, ?_, ?_, ?_, ?_⟩ <;> intros <;> first | (simp_all [yApp, upd]; done) | (rename_i h; cases h; rfl) | (rename_i w h h3; have h2 : w ≠ q := fun e => h (by rw [e]); simp [yApp, upd, h2, h3])
theorem lkd_app2 {nx : Nat → Int32} {p : Nat} {r : List Nat} {x : Int32} (h0 : r ≠ []) (hd : r.Nodup) (hp : p ∉ r) (h : lkd nx x r) {q : Nat} (hq : r.getLast? = some q) : lkd (upd (upd nx q (nI p)) p (-1)) x (r ++ [p]) := by
  have hpq : q ≠ p := fun e => hp (e ▸ List.mem_of_getLast? hq)
  have h1 : lkd (upd nx p (-1)) x r := lkd_congr (fun a ha => by have : a ≠ p := fun e => hp (e ▸ ha); simp [upd, this]) h
  have h2 := lkd_app h0 hd hp h1 (by simp [upd]) q hq
  have e : upd (upd nx p (-1)) q (nI p) = upd (upd nx q (nI p)) p (-1) := by
    funext z
    unfold upd
    by_cases z1 : z = q
    · subst z1; simp [hpq]
    · by_cases z2 : z = p
      · subst z2; simp [z1]
      · simp [z1, z2]
  rw [e] at h2
  exact h2
theorem vsY_part {Y : wd_Y} {nv u : Nat} {V : VT} (h : vsY Y nv u V) (ho : vok nv V) {v p : Nat} (hv : v < nv) (hf : ∀ w, w < nv → p ∉ V.2.2.1 w) : vsY (yApp Y v p (V.2.2.1 v).getLast?) nv u (vtPart V v p) := by
  obtain ⟨hz, hr⟩ := h
  obtain ⟨k0, k1, k2, k7, k8, k9, g6, g3, g4, g5, f6, f4, f5, f3n, f3s, f5s⟩ := yApp_k Y v p (V.2.2.1 v).getLast?
  refine ⟨by rw [vsy, k0]; exact hz, fun w hw => ?_⟩
  obtain ⟨r1, r2, r3, ⟨s, s1, s2, s3, s4⟩, r4, r5⟩ := hr w hw
  by_cases e : w = v
  · subst e
    have ek : (vtPart V w p).2.2.1 w = V.2.2.1 w ++ [p] := by simp [vtPart, va_up]
    refine ⟨by rw [k1]; exact r1, by rw [k2]; exact r2, by rw [f6, ek, r3, nI_1]; simp, ⟨s, by rw [k7]; exact s1, by rw [k8]; exact s2, s3, fun j hj => by rw [k9]; exact s4 j hj⟩, ?_, by rw [ek, f4]; simp [oN]⟩
    rw [ek]
    cases hlast : (V.2.2.1 w).getLast? with
    | none =>
      have e0 : V.2.2.1 w = [] := by simpa using hlast
      rw [hlast] at f3n f5
      rw [e0]
      exact ⟨f3n rfl, f5⟩
    | some q =>
      rw [hlast] at f3s f5s
      rw [f3s (by simp), f5s q rfl]
      exact lkd_app2 (fun z => by rw [z] at hlast; cases hlast) (ho.1 w hw).2 (hf w hw) r4 hlast
  · have ek : (vtPart V v p).2.2.1 w = V.2.2.1 w := by simp [vtPart, va_up, e]
    refine ⟨by rw [k1]; exact r1, by rw [k2]; exact r2, by rw [ek, g6 w e]; exact r3, ⟨s, by rw [k7]; exact s1, by rw [k8]; exact s2, s3, fun j hj => by rw [k9]; exact s4 j hj⟩, ?_, by rw [ek, g4 w e]; exact r5⟩
    rw [ek, g3 w e]
    refine lkd_congr (fun a ha => g5 a (fun z => e (ho.2 w v a hw hv ha (List.mem_of_getLast? z))) (fun z => hf w hw (z ▸ ha))) r4
