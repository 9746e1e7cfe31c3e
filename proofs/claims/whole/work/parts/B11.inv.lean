/-! what holds between the law's calls -/
def lwI (C : wd_C) (Y : wd_Y) (n : Nat) (b : Nat → Int32) (nv u : Nat) (V : VT) (ht : Nat → Nat) (no : Nat) (E : Nat → Nat → Int32) (sy : Nat) (O : List Int32) (b0 : Nat) : Prop :=
  tpC C n b ∧ tpY Y n b ∧ vsC C nv u V ∧ vsY Y nv u V ∧ hG nv V ht ∧ obC C no E ∧ obY Y no E ∧ obI nv no E ∧ C.1 8 = nI sy ∧ Y.1 3 = nI sy ∧ ouC C O ∧ ouY Y O ∧ b0 ≤ 5 ∧ Y.1 15 = nI b0
def lwV (C : wd_C) (Y : wd_Y) : Prop := ∃ n b nv u V ht no E sy O b0, lwI C Y n b nv u V ht no E sy O b0
section LWI
variable {C C' : wd_C} {Y Y' : wd_Y} {n : Nat} {b : Nat → Int32} {nv u : Nat} {V : VT} {ht : Nat → Nat} {no : Nat} {E : Nat → Nat → Int32} {sy : Nat} {O : List Int32} {b0 : Nat}
theorem lwI_y0 (I : lwI C Y n b nv u V ht no E sy O b0) (x : Int32) : lwI C (upd Y.1 0 x, Y.2) n b nv u V ht no E sy O b0 := by
  obtain ⟨h1, h2, h3, h4, h5, h6, h7, h8, h9, h10, h11, h12, h13, h14⟩ := I
  exact ⟨h1, h2, h3, vsY0 h4 x, h5, h6, h7, h8, h9, h10, h11, h12, h13, h14⟩
theorem lwV_y0 (I : lwV C Y) (x : Int32) : lwV C (upd Y.1 0 x, Y.2) := by
  obtain ⟨n, b, nv, u, V, ht, no, E, sy, O, b0, I⟩ := I
  exact ⟨n, b, nv, u, V, ht, no, E, sy, O, b0, lwI_y0 I x⟩
theorem lwI_tape (I : lwI C Y n b nv u V ht no E sy O b0) (hC : tpO C C') (hY : tyO Y Y') {n' : Nat} {b' : Nat → Int32} (h1' : tpC C' n' b') (h2' : tpY Y' n' b') : lwI C' Y' n' b' nv u V ht no E sy O b0 := by
  obtain ⟨h1, h2, h3, h4, h5, h6, h7, h8, h9, h10, h11, h12, h13, h14⟩ := I
  obtain ⟨c1, c2, c3⟩ := hC
  obtain ⟨y1, y2, y3⟩ := hY
  refine ⟨h1', h2', vsC_ca h3 (c1 1 (by decide)) (c1 2 (by decide)) (fun j j1 _ => c2 j (by omega)) c3, vsY_ar h4 (y1 4 (by decide)) (y1 5 (by decide)) (fun j j1 _ => y2 j (by omega)) (by rw [y3]), h5, ?_, ?_, h8, (c1 8 (by decide)).trans h9, (y1 3 (by decide)).trans h10, ?_, ?_, h13, (y1 15 (by decide)).trans h14⟩
  · exact ⟨(c1 3 (by decide)).trans h6.1, h6.2.1, fun i hi j hj => by rw [c2 10 (by decide)]; exact h6.2.2 i hi j hj⟩
  · exact ⟨(y1 2 (by decide)).trans h7.1, h7.2.1, fun i hi j hj => by rw [y2 1 (by decide)]; exact h7.2.2 i hi j hj⟩
  · exact ⟨(c1 11 (by decide)).trans h11.1, h11.2.1, fun k hk => by rw [c2 11 (by decide)]; exact h11.2.2 k hk⟩
  · exact ⟨(y1 13 (by decide)).trans h12.1, h12.2.1, fun k hk => by rw [y2 13 (by decide)]; exact h12.2.2 k hk⟩
theorem byR_nar {x : Int32} (h : bt8 x) : byR (vp_nar .byte x.toInt8.toInt32) x := by
  obtain ⟨j, h1, h2⟩ := bt8_j h
  exact ⟨j, h1, h2, by rw [h2, nar_by j h1]⟩
theorem lwI_write (I : lwI C Y n b nv u V ht no E sy O b0) {T T' : WS} (hC : wrO C C' T) (hY : wrR Y Y' T') (hT : T.2 = T'.2) (hb : byL T.2) (h5' : T'.1 ≤ 5) : lwI C' Y' n b nv u V ht no E sy (if T.2.length ≤ 4000 then T.2 else O) T'.1 := by
  obtain ⟨h1, h2, h3, h4, h5, h6, h7, h8, h9, h10, h11, h12, h13, h14⟩ := I
  obtain ⟨c1, c2, c3, c4, c5⟩ := hC
  obtain ⟨y1, y0, y2, y3, y15, y4, y5⟩ := hY
  rw [← hT] at y4 y5
  refine ⟨?_, ?_, vsC_ca h3 (c1 1 (by decide)) (c1 2 (by decide)) (fun j _ j2 => c2 j (by omega)) c3, vsY_ar h4 (y1 4 (by decide) (by decide)) (y1 5 (by decide) (by decide)) (fun j j1 j2 => y2 j (by omega) (by omega) (by omega) (by omega)) (by rw [y3]), h5, ?_, ?_, h8, (c1 8 (by decide)).trans h9, (y1 3 (by decide) (by decide)).trans h10, ?_, ?_, h5', y15⟩
  · exact ⟨(c1 0 (by decide)).trans h1.1, h1.2.1, fun k hk => by rw [c2 0 (by decide)]; exact h1.2.2.1 k hk, h1.2.2.2⟩
  · exact ⟨(y1 1 (by decide) (by decide)).trans h2.1, h2.2.1, fun k hk => by rw [y2 0 (by decide) (by decide) (by decide) (by decide)]; exact h2.2.2.1 k hk, h2.2.2.2⟩
  · exact ⟨(c1 3 (by decide)).trans h6.1, h6.2.1, fun i hi j hj => by rw [c2 10 (by decide)]; exact h6.2.2 i hi j hj⟩
  · exact ⟨(y1 2 (by decide) (by decide)).trans h7.1, h7.2.1, fun i hi j hj => by rw [y2 1 (by decide) (by decide) (by decide) (by decide)]; exact h7.2.2 i hi j hj⟩
  · by_cases h : T.2.length ≤ 4000
    · rw [if_pos h]
      obtain ⟨q1, q2⟩ := c4 h
      exact ⟨q1, h, fun k hk => by rw [q2 k hk]; exact byR_nar (getD_by hb k)⟩
    · rw [if_neg h]
      obtain ⟨q1, q2⟩ := c5 h
      exact ⟨q1.trans h11.1, h11.2.1, fun k hk => by rw [q2]; exact h11.2.2 k hk⟩
  · by_cases h : T.2.length ≤ 4000
    · rw [if_pos h]
      obtain ⟨q1, q2⟩ := y4 h
      exact ⟨q1, h, q2⟩
    · rw [if_neg h]
      obtain ⟨q1, q2⟩ := y5 h
      exact ⟨q1.trans h12.1, h12.2.1, fun k hk => by rw [q2]; exact h12.2.2 k hk⟩
theorem lwI_read (I : lwI C Y n b nv u V ht no E sy O b0) {s' : TS} (hC : bsC C' n b s') (hc : wrC C C') (hY : bsY Y' n b s') (hy : wrY Y Y') : lwV C' Y' := by
  obtain ⟨h1, h2, h3, h4, h5, h6, h7, h8, h9, h10, h11, h12, h13, h14⟩ := I
  obtain ⟨c1, c2, c3, c4, c5, c6, c7, c8, c9, ht', c10⟩ := hC
  obtain ⟨y1, y2, y3, y4, y5⟩ := hY
  refine ⟨n, b, s'.2.2.2.1, s'.2.2.2.2.1, s'.2.2.2.2.2.1, ht', s'.2.1, s'.2.2.1, s'.2.2.2.2.2.2, O, b0, c1, y1, c6, y4, c10, c4, y3, c5, c8, y5, ?_, ?_, h13, hy.2.2.1.trans h14⟩
  · exact ⟨hc.1.trans h11.1, h11.2.1, fun k hk => by rw [hc.2.2.2.2.2]; exact h11.2.2 k hk⟩
  · exact ⟨hy.1.trans h12.1, h12.2.1, fun k hk => by rw [hy.2.2.2.2.1]; exact h12.2.2 k hk⟩
/-- what writing asks -/
theorem lwI_kids (I : lwI C Y n b nv u V ht no E sy O b0) : ∀ v, v < nv → ∀ c ∈ V.2.2.1 v, c < nv := fun v hv => ((vsC_ok I.2.2.1).1 v hv).1
theorem lwI_byj (I : lwI C Y n b nv u V ht no E sy O b0) : ∀ w, w < nv → ∀ k, k < (V.2.2.2 w).length → ∃ j, j < 256 ∧ (V.2.2.2 w).getD k 0 = nI j := fun w hw k hk => v_by I.2.2.1 hw hk
theorem lwI_by (I : lwI C Y n b nv u V ht no E sy O b0) : ∀ v, v < nv → byL (V.2.2.2 v) := fun v hv x hx => by
  obtain ⟨k, hk, e⟩ := List.mem_iff_getElem.mp hx
  obtain ⟨j, j1, j2⟩ := v_by I.2.2.1 hv hk
  rw [List.getD_eq_getElem?_getD, List.getElem?_eq_getElem hk, e] at j2
  have j3 : x = nI j := j2
  rw [j3]; exact bt8_k j j1
theorem lwI_st (I : lwI C Y n b nv u V ht no E sy O b0) : ∀ v, v < nv → V.1 v = 9 → ∃ c, V.2.2.1 v = [c] := fun v hv h9 => by
  obtain ⟨c, hc, _⟩ := ((I.2.2.2.2.1 v hv).2.2.2.1 h9).2
  exact ⟨c, hc⟩
theorem lwI_nv (I : lwI C Y n b nv u V ht no E sy O b0) : nv ≤ 300 := I.2.2.1.1.2.1
theorem lwI_e2 (I : lwI C Y n b nv u V ht no E sy O b0) : ∀ j, j < no → (E j 2 = -1 ∨ ∃ w, w < nv ∧ E j 2 = nI w) := fun j hj => by
  obtain ⟨_, _, _, _, _, _, _, h8, _⟩ := I
  rcases (h8 j hj).1 with h | ⟨w, w1, w2, _⟩
  · exact Or.inl h.1
  · exact Or.inr ⟨w, w1, w2⟩
theorem lwI_wub (I : lwI C Y n b nv u V ht no E sy O b0) (rd : Nat) (st : WS) (v : Nat) (hv : v < nv) : (wWh rd V st v).2.length ≤ st.2.length + 22000000 := wWh_ub (vsC_ok I.2.2.1) (lwI_nv I) (fun _ hw => yq_len I.2.2.2.1 hw) (lwI_st I) st v hv
theorem lwI_oub (I : lwI C Y n b nv u V ht no E sy O b0) (rd x : Nat) : (wOs rd V E no 0 (x, [])).2.length + 2000 < 2147483648 := by
  have h := wOs_ub (rd := rd) (V := V) (nv := nv) (E := E) (fun st v hv => lwI_wub I rd st v hv) (lwI_nv I) no 0 (x, []) (fun j _ j2 => lwI_e2 I j (by omega))
  have h2 : no ≤ 20 := I.2.2.2.2.2.1.2.1
  have h3 : ((x, []) : WS).2.length = 0 := rfl
  omega
theorem lwI_wby (I : lwI C Y n b nv u V ht no E sy O b0) (rd : Nat) (st : WS) (v : Nat) (hv : v < nv) (h : byL st.2) : byL (wWh rd V st v).2 := wWh_by (lwI_kids I) (lwI_by I) (lwI_st I) st v hv h
theorem lwI_oby (I : lwI C Y n b nv u V ht no E sy O b0) (rd x : Nat) : byL (wOs rd V E no 0 (x, [])).2 := wOs_by (fun st v hv h => lwI_wby I rd st v hv h) (lwI_nv I) no 0 (x, []) (fun j _ j2 => lwI_e2 I j (by omega)) byL_nil
theorem lwI_even (I : lwI C Y n b nv u V ht no E sy O b0) : ∀ v, v < nv → V.1 v = 7 → ∃ me, (V.2.2.1 v).length = 2 * me := fun v hv h7 => hld_even (((I.2.2.1.2.1 v hv).2.2.2.2.2.2.2).1 h7).2.2
theorem lwI_sp (I : lwI C Y n b nv u V ht no E sy O b0) : ∀ v, v < nv → V.1 v = 7 → (∃ me, (V.2.2.1 v).length = 2 * me) ∧ vtSpl V v st_8 = (prF (isLn V) (V.2.2.1 v)).map (fun z => z.1) := fun v hv h7 => ⟨lwI_even I v hv h7, prF_find (((I.2.2.1.2.1 v hv).2.2.2.2.2.2.2).1 h7).2.2⟩
end LWI
