/-! the start: texts, exceptions, classes -/
section STG
variable {args : Array Value} {s : State}
/-- the texts -/
theorem sg_txt {A : Nat → Prop} (hts : ∀ w ∈ lw_tbl, w.before args s = true) (hg : ∀ w ∈ st_g, w.before args s = true) (hA : ∀ a : Nat, a < s.heap.size → ¬ A a) : ∃ adK adV : Nat → Nat, ∀ (i co idx : Nat) (tx : String) (bs : List Int32), pr_st[i]? = some (co, idx, tx, bs) → vk_R (pr_cn co) idx tx (adK i) s ∧ va_O "java/lang/String" (adK i) A s s.heap ∧ va_OF "java/lang/String" "coder" "B" (.int 0) (adK i) A s s.heap ∧ va_OF "java/lang/String" "value" "[B" (.ref (adV i)) (adK i) A s s.heap ∧ va_T .byte (adV i) bs.length (fun j => .int (bs.getD j 0)) A s s.heap := by
  have h0 : ∀ i : Nat, ∃ q : Nat × Nat, i < 27 → (st_tm i).eval args s none [] s = some (.ref q.1) ∧ va_O "java/lang/String" q.1 A s s.heap ∧ va_OF "java/lang/String" "coder" "B" (.int 0) q.1 A s s.heap ∧ va_OF "java/lang/String" "value" "[B" (.ref q.2) q.1 A s s.heap ∧ va_T .byte q.2 (st_bs i).length (fun j => .int ((st_bs i).getD j 0)) A s s.heap := by
    intro i
    by_cases hi : i < 27
    · obtain ⟨g1, g2, g3, g4⟩ := sg_1 i hi
      obtain ⟨a, c, cA, kA, q1, q2, q3, q4, q5, q6, -⟩ := Cond.exactly_spec (args := args) (first := s) (o := none) (s := s) (idx := []) (t := st_tm i) (cls := "java/lang/String") (hg _ g1)
      obtain ⟨t, ht, hT⟩ := va_Tof (f := fun j => .int ((st_bs i).getD j 0)) (A := A) (sg_4 i hi) (hg _ g3) (va_eqt (hg _ g4)) (fun j hj => va_eqt (hg _ (sg_2 i hi j hj))) hA
      exact ⟨(a, t), fun _ => ⟨q1, ⟨cA, q3, q5, by rw [q6]; exact q2, hA a (Array.getElem?_eq_some_iff.mp q3).1⟩, vk_OFof q1 (va_eqt (hg _ g2)) hA, vk_OFof q1 ht hA, hT⟩⟩
    · exact ⟨(0, 0), fun h => absurd h hi⟩
  obtain ⟨ad, had⟩ := Classical.axiomOfChoice h0
  refine ⟨fun i => (ad i).1, fun i => (ad i).2, fun i co idx tx bs h => ?_⟩
  have hi : i < 27 := (List.getElem?_eq_some_iff.mp h).1
  have e9 : pr_st.getD i (0, 0, "", []) = (co, idx, tx, bs) := by rw [List.getD_eq_getElem?_getD, h]; rfl
  obtain ⟨h1, h2, h3, h4, h5⟩ := had i hi
  have r := hts _ (sg_3 i hi)
  rw [e9] at r
  have e1 : st_tm i = .string (pr_cn co) idx := by rw [st_tm, e9]
  have e2 : st_bs i = bs := by rw [st_bs, e9]
  rw [e1] at h1
  rw [e2] at h5
  exact ⟨vk_R.of r h1, h2, h3, h4, h5⟩
/-- what exceptions ask -/
theorem sg_tr (hts : ∀ w ∈ lw_tbl, w.before args s = true) (hg : ∀ w ∈ st_g, w.before args s = true) : tr_S s ∧ trB s.heap.size s := by
  refine ⟨⟨fun w hw => ?_, fun q hq => ?_⟩, fun ci k a h1 h2 h3 => ?_⟩
  · have h9 : w.before args s = true := by
      rcases List.mem_append.mp hw with h | h
      · simp only [tr_sp, List.mem_cons, List.not_mem_nil, or_false] at h
        rcases h with rfl | rfl | rfl | rfl
        · exact hts _ tr_sp_in.1
        · exact hts _ tr_sp_in.2
        · exact hg _ sg_8.1
        · exact hg _ sg_8.2
      · exact hts _ (tr_dc_in _ h)
    simp only [tr_sp, tr_dc, List.cons_append, List.nil_append, List.mem_cons, List.not_mem_nil, or_false] at hw
    rcases hw with rfl | rfl | rfl | rfl | rfl | rfl | rfl | rfl | rfl <;> exact h9
  · obtain ⟨g1, g2⟩ := sg_5 q hq
    obtain ⟨a, c, cA, kA, q1, -⟩ := Cond.exactly_spec (args := args) (first := s) (o := none) (s := s) (idx := []) (t := .string "SyntaxRows" q.1) (cls := "java/lang/String") (hg _ g1)
    exact ⟨a, vk_R.of (hts _ g2) q1⟩
  · obtain ⟨c9, k9, i9, f9, a9, cell, hc, hi, hst, ha, hcell, -⟩ := Cond.laysStatic_spec (hts _ tr_sp_in.1)
    have e1 : c9 = ci := Option.some.inj (hc.symm.trans h1)
    subst e1
    have e2 : k9 = k := Option.some.inj ((State.fieldFound?_spec hi).1.symm.trans h2)
    subst e2
    have e3 : a9 = a := Option.some.inj (ha.symm.trans h3)
    subst e3
    exact (Array.getElem?_eq_some_iff.mp hcell).1
/-- the classes -/
def sg_D (C : Nat → ClassId) (I : Nat → Nat → Nat) : va_G := (C, I)
theorem sg_kn (hg : ∀ w ∈ lw_g, w.before args s = true) {ci : Nat} {C : String} {T : u_T} {N : Nat} {ty0 : Nat → FieldType} (hck : am_cok ci C T N ty0) (hi : Cond.instantiable C N ∈ lw_g) : ∃ q : ClassId × (Nat → Nat), u_Kn s C T N q.1 q.2 := by
  obtain ⟨cC, iS, h⟩ := u_known (n := N) hg hck.2.1 (hg _ hi)
  exact ⟨(cC, iS), h⟩
theorem sg_cls (hg : ∀ w ∈ lw_g, w.before args s = true) : ∃ D : va_G, ∀ (c : Nat) (q : vw_C), pr_cl[c]? = some q → u_Kn s q.1 q.2.1 q.2.2 (D.1 c) (D.2 c) := by
  obtain ⟨q0, h0⟩ := sg_kn hg ck_0 (am_in 183 (by decide +kernel) rfl)
  obtain ⟨q1, h1⟩ := sg_kn hg ck_1 (am_in 196 (by decide +kernel) rfl)
  obtain ⟨q2, h2⟩ := sg_kn hg ck_2 (am_in 124 (by decide +kernel) rfl)
  obtain ⟨q3, h3⟩ := sg_kn hg ck_3 (am_in 138 (by decide +kernel) rfl)
  obtain ⟨q4, h4⟩ := sg_kn hg ck_4 (am_in 233 (by decide +kernel) rfl)
  obtain ⟨q5, h5⟩ := sg_kn hg ck_5 (am_in 116 (by decide +kernel) rfl)
  obtain ⟨q6, h6⟩ := sg_kn hg ck_6 (am_in 1034 (by decide +kernel) rfl)
  refine ⟨(fun c => ([q0, q1, q2, q3, q4, q5, q6].getD c q0).1, fun c => ([q0, q1, q2, q3, q4, q5, q6].getD c q0).2), fun c q hq => ?_⟩
  rcases c with _ | _ | _ | _ | _ | _ | _ | c
  · cases hq; exact h0
  · cases hq; exact h1
  · cases hq; exact h2
  · cases hq; exact h3
  · cases hq; exact h4
  · cases hq; exact h5
  · cases hq; exact h6
  · exact absurd hq (by simp [pr_cl])
theorem sg_arr {ty : FieldType} (h : (Cond.arrayClass ty).before args s = true) (hra : ∀ cA, s.vm.findClass ("[" ++ ty.toString) = some cA → va_RA s cA ty) : ∃ cA, ArrOfT s cA ty ∧ va_RA s cA ty := by
  obtain ⟨cA, kA, comp, h1, h2, h3⟩ := Cond.arrayClass_spec h
  exact ⟨cA, fun n z => ⟨fun k h => (by cases h), kA, h2, comp, h3⟩, hra cA h1⟩
def sg_cA (cB cI cL : ClassId) (t : Nat) : ClassId := match pr_ety.getD t .int with
  | .byte => cB
  | .long => cL
  | _ => cI
theorem sg_K {D : va_G} {cB cI cL : ClassId} (h : va_K D pr_cl (rT cB cI cL) s) : va_K D pr_cl (am_tys (sg_cA cB cI cL)) s := by
  refine ⟨h.1, fun k q hk => ?_⟩
  have hB := h.2 0 _ rfl
  have hI := h.2 1 _ rfl
  have hL := h.2 2 _ rfl
  rw [am_tys, List.getElem?_mapIdx] at hk
  cases e : pr_ety[k]? with
  | none => rw [e] at hk; cases hk
  | some ty =>
    rw [e] at hk
    cases hk
    have e2 : pr_ety.getD k .int = ty := by rw [List.getD_eq_getElem?_getD, e]; rfl
    have h3 : ∀ t ∈ pr_ety, t = .byte ∨ t = .int ∨ t = .long := by decide
    rcases h3 ty (List.mem_of_getElem? e) with rfl | rfl | rfl
    · have e3 : sg_cA cB cI cL k = cB := by rw [sg_cA, e2]
      show ArrOfT s (sg_cA cB cI cL k) _ ∧ va_RA s (sg_cA cB cI cL k) _
      rw [e3]; exact hB
    · have e3 : sg_cA cB cI cL k = cI := by rw [sg_cA, e2]
      show ArrOfT s (sg_cA cB cI cL k) _ ∧ va_RA s (sg_cA cB cI cL k) _
      rw [e3]; exact hI
    · have e3 : sg_cA cB cI cL k = cL := by rw [sg_cA, e2]
      show ArrOfT s (sg_cA cB cI cL k) _ ∧ va_RA s (sg_cA cB cI cL k) _
      rw [e3]; exact hL
end STG
