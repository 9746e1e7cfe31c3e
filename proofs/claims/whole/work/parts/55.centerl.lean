/-! chains as options; what an entry leaves alone -/
section C55
variable {l : Launch} {D : va_G} {cA : Nat → ClassId} {ad : Nat → Nat} {fm : Value}
theorem c_V_addPart_o (d : Nat) (C : wd_C) (Y : wd_Y) (og : Nat → Int64) (nv u : Nat) (hV : vsz C nv u) (v p : Nat) (hv : v < nv) (hp : p < nv) (o : Option Nat) (ho : ∀ q, o = some q → q < nv) (hq : C.2.1 6 v = oN o) : am_Mt l D cA ad fm (d + 1) m_V_addPart [.ref 3, .int (nI v), .int (nI p)] (wd C Y og) (fun vr w' => vr = none ∧ w' = wd (vPart C v p o) Y og) := by
  cases o with
  | none => exact c_V_addPart_n d C Y og nv u hV v p hv hp hq
  | some q => exact c_V_addPart_s d C Y og nv u hV v p hv hp q (ho q rfl) hq
theorem c_V_addKey_o (d : Nat) (C : wd_C) (Y : wd_Y) (og : Nat → Int64) (nv u : Nat) (hV : vsz C nv u) (v p : Nat) (hv : v < nv) (hp : p < nv) (x : Int32) (o : Option Nat) (ho : ∀ q, o = some q → q < nv) (hq : C.2.1 6 v = oN o) : am_Mt l D cA ad fm (d + 1) m_V_addKey [.ref 3, .int (nI v), .int (nI p), .int x] (wd C Y og) (fun vr w' => vr = none ∧ w' = wd (vKeyA C v p o x) Y og) := by
  cases o with
  | none => exact c_V_addKey_n d C Y og nv u hV v p hv hp x hq
  | some q => exact c_V_addKey_s d C Y og nv u hV v p hv hp x q (ho q rfl) hq
end C55
/-- arrays that an entry leaves alone -/
def aE (C C' : wd_C) : Prop := C'.2.1 0 = C.2.1 0 ∧ C'.2.1 2 = C.2.1 2 ∧ C'.2.1 10 = C.2.1 10 ∧ C'.2.1 11 = C.2.1 11
theorem aE_rf (C : wd_C) : aE C C := ⟨rfl, rfl, rfl, rfl⟩
theorem aE_part (C : wd_C) (v p : Nat) (o : Option Nat) : aE C (vPart C v p o) := by cases o <;> exact ⟨rfl, rfl, rfl, rfl⟩
theorem aE_key (C : wd_C) (v p : Nat) (o : Option Nat) (x : Int32) : aE C (vKeyA C v p o x) := by cases o <;> exact ⟨rfl, rfl, rfl, rfl⟩
theorem aE_del (C : wd_C) (v t : Nat) (o : Option Nat) (la : Bool) : aE C (vDel C v t o la) := ⟨rfl, rfl, rfl, rfl⟩
theorem fC_aE {C C' : wd_C} {nv : Nat} (h1 : ∀ j, j ≠ 7 → C'.1 j = C.1 j) (h2 : aE C C') : fC C C' nv :=
  ⟨⟨h1 0 (by decide), h1 3 (by decide), h1 8 (by decide), h1 11 (by decide), h1 12 (by decide), h1 13 (by decide), h1 14 (by decide), h1 15 (by decide)⟩, ⟨h2.1, h2.2.2.1, h2.2.2.2⟩, fun w _ => by rw [h2.2.1]⟩
theorem vsC_bt {C : wd_C} {nv u : Nat} {V : VT} (h : vsC C nv u V) {v : Nat} (hv : v < nv) : vbt C u (V.2.2.2 v) v ∧ (V.2.2.2 v).length < 3000 := by
  have hb := (h.2.1 v hv).2.2.2.2.2.2.1
  obtain ⟨s, -, -, s3, -⟩ := hb
  have := h.1.2.2.2
  exact ⟨(h.2.1 v hv).2.2.2.2.2.2.1, by omega⟩
theorem vsC_len {C : wd_C} {nv u : Nat} {V : VT} (h : vsC C nv u V) {v : Nat} (hv : v < nv) : (V.2.2.1 v).length ≤ 300 := by
  obtain ⟨-, -, -, r4, -, r6, -⟩ := h.2.1 v hv
  have := nd_len nv _ r6 r4
  have := h.1.2.1
  omega
theorem hld_even {g : Nat → Int32} : ∀ {ks : List Nat}, hld g ks → ∃ m, ks.length = 2 * m
  | [], _ => ⟨0, rfl⟩
  | [_], h => absurd h (by simp [hld])
  | a :: c :: r, h => by
    obtain ⟨m, hm⟩ := hld_even (ks := r) h.2
    exact ⟨m + 1, by simp; omega⟩
