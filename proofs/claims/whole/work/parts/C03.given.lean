/-! WHAT THE STATEMENT GIVES AT THE START: texts, statics, links, classes (places printed by wip/gen/gC03.py) -/
def st_g : List Cond := flatC (Jvm.Cond.and given_1 narrow_1)
def st_tm (i : Nat) : Term := .string (pr_cn (pr_st.getD i (0, 0, "", [])).1) (pr_st.getD i (0, 0, "", [])).2.1
def st_bs (i : Nat) : List Int32 := (pr_st.getD i (0, 0, "", [])).2.2.2
def st_gp (i : Nat) : Nat := ([27, 34, 48, 54, 59, 67, 75, 84, 94, 104, 117, 228, 237, 247, 267, 272, 277, 282, 293, 299, 310, 317, 323, 335, 349, 358, 367] : List Nat).getD i 0
def st_tp (i : Nat) : Nat := ([332, 347, 518, 631, 633, 634, 635, 647, 656, 691, 708, 922, 923, 972, 977, 982, 986, 991, 993, 995, 996, 1002, 1007, 1008, 1009, 1017, 1018] : List Nat).getD i 0
theorem st_gm {w : Cond} (k : Nat) (h : st_g[k]? = some w) : w ∈ st_g := List.mem_of_getElem? h
theorem st_tb {w : Cond} (k : Nat) (h : lw_tbl[k]? = some w) : w ∈ lw_tbl := List.mem_of_getElem? h
set_option maxRecDepth 100000 in
theorem sp_1_0 : ∀ i, i < 9 → 0 ≤ i → st_g[st_gp i]? = some (Cond.exactly (st_tm i) "java/lang/String") := by decide +kernel
set_option maxRecDepth 100000 in
theorem sp_1_1 : ∀ i, i < 18 → 9 ≤ i → st_g[st_gp i]? = some (Cond.exactly (st_tm i) "java/lang/String") := by decide +kernel
set_option maxRecDepth 100000 in
theorem sp_1_2 : ∀ i, i < 27 → 18 ≤ i → st_g[st_gp i]? = some (Cond.exactly (st_tm i) "java/lang/String") := by decide +kernel
theorem sp_1 : ∀ i, i < 27 → st_g[st_gp i]? = some (Cond.exactly (st_tm i) "java/lang/String") := by
  intro i hi
  by_cases h0 : i < 9
  · exact sp_1_0 i h0 (by omega)
  by_cases h1 : i < 18
  · exact sp_1_1 i h1 (by omega)
  exact sp_1_2 i hi (by omega)
set_option maxRecDepth 100000 in
theorem sp_2_0 : ∀ i, i < 9 → 0 ≤ i → st_g[st_gp i + 1]? = some (Cond.eq (.field (st_tm i) "java/lang/String" "coder" "B") (.int 0)) := by decide +kernel
set_option maxRecDepth 100000 in
theorem sp_2_1 : ∀ i, i < 18 → 9 ≤ i → st_g[st_gp i + 1]? = some (Cond.eq (.field (st_tm i) "java/lang/String" "coder" "B") (.int 0)) := by decide +kernel
set_option maxRecDepth 100000 in
theorem sp_2_2 : ∀ i, i < 27 → 18 ≤ i → st_g[st_gp i + 1]? = some (Cond.eq (.field (st_tm i) "java/lang/String" "coder" "B") (.int 0)) := by decide +kernel
theorem sp_2 : ∀ i, i < 27 → st_g[st_gp i + 1]? = some (Cond.eq (.field (st_tm i) "java/lang/String" "coder" "B") (.int 0)) := by
  intro i hi
  by_cases h0 : i < 9
  · exact sp_2_0 i h0 (by omega)
  by_cases h1 : i < 18
  · exact sp_2_1 i h1 (by omega)
  exact sp_2_2 i hi (by omega)
set_option maxRecDepth 100000 in
theorem sp_3_0 : ∀ i, i < 9 → 0 ≤ i → st_g[st_gp i + 2]? = some (Cond.arrayOf (.field (st_tm i) "java/lang/String" "value" "[B") .byte) := by decide +kernel
set_option maxRecDepth 100000 in
theorem sp_3_1 : ∀ i, i < 18 → 9 ≤ i → st_g[st_gp i + 2]? = some (Cond.arrayOf (.field (st_tm i) "java/lang/String" "value" "[B") .byte) := by decide +kernel
set_option maxRecDepth 100000 in
theorem sp_3_2 : ∀ i, i < 27 → 18 ≤ i → st_g[st_gp i + 2]? = some (Cond.arrayOf (.field (st_tm i) "java/lang/String" "value" "[B") .byte) := by decide +kernel
theorem sp_3 : ∀ i, i < 27 → st_g[st_gp i + 2]? = some (Cond.arrayOf (.field (st_tm i) "java/lang/String" "value" "[B") .byte) := by
  intro i hi
  by_cases h0 : i < 9
  · exact sp_3_0 i h0 (by omega)
  by_cases h1 : i < 18
  · exact sp_3_1 i h1 (by omega)
  exact sp_3_2 i hi (by omega)
set_option maxRecDepth 100000 in
theorem sp_4_0 : ∀ i, i < 9 → 0 ≤ i → st_g[st_gp i + 3]? = some (Cond.eq (.length (.field (st_tm i) "java/lang/String" "value" "[B")) (.int (Int32.ofNat (st_bs i).length))) := by decide +kernel
set_option maxRecDepth 100000 in
theorem sp_4_1 : ∀ i, i < 18 → 9 ≤ i → st_g[st_gp i + 3]? = some (Cond.eq (.length (.field (st_tm i) "java/lang/String" "value" "[B")) (.int (Int32.ofNat (st_bs i).length))) := by decide +kernel
set_option maxRecDepth 100000 in
theorem sp_4_2 : ∀ i, i < 27 → 18 ≤ i → st_g[st_gp i + 3]? = some (Cond.eq (.length (.field (st_tm i) "java/lang/String" "value" "[B")) (.int (Int32.ofNat (st_bs i).length))) := by decide +kernel
theorem sp_4 : ∀ i, i < 27 → st_g[st_gp i + 3]? = some (Cond.eq (.length (.field (st_tm i) "java/lang/String" "value" "[B")) (.int (Int32.ofNat (st_bs i).length))) := by
  intro i hi
  by_cases h0 : i < 9
  · exact sp_4_0 i h0 (by omega)
  by_cases h1 : i < 18
  · exact sp_4_1 i h1 (by omega)
  exact sp_4_2 i hi (by omega)
set_option maxRecDepth 100000 in
theorem sp_5_0 : ∀ i, i < 3 → 0 ≤ i → ∀ j, j < (st_bs i).length → st_g[st_gp i + 4 + j]? = some (Cond.eq (.elem (.field (st_tm i) "java/lang/String" "value" "[B") (.int (Int32.ofNat j))) (.int ((st_bs i).getD j 0))) := by decide +kernel
set_option maxRecDepth 100000 in
theorem sp_5_1 : ∀ i, i < 6 → 3 ≤ i → ∀ j, j < (st_bs i).length → st_g[st_gp i + 4 + j]? = some (Cond.eq (.elem (.field (st_tm i) "java/lang/String" "value" "[B") (.int (Int32.ofNat j))) (.int ((st_bs i).getD j 0))) := by decide +kernel
set_option maxRecDepth 100000 in
theorem sp_5_2 : ∀ i, i < 9 → 6 ≤ i → ∀ j, j < (st_bs i).length → st_g[st_gp i + 4 + j]? = some (Cond.eq (.elem (.field (st_tm i) "java/lang/String" "value" "[B") (.int (Int32.ofNat j))) (.int ((st_bs i).getD j 0))) := by decide +kernel
set_option maxRecDepth 100000 in
theorem sp_5_3 : ∀ i, i < 12 → 9 ≤ i → ∀ j, j < (st_bs i).length → st_g[st_gp i + 4 + j]? = some (Cond.eq (.elem (.field (st_tm i) "java/lang/String" "value" "[B") (.int (Int32.ofNat j))) (.int ((st_bs i).getD j 0))) := by decide +kernel
set_option maxRecDepth 100000 in
theorem sp_5_4 : ∀ i, i < 15 → 12 ≤ i → ∀ j, j < (st_bs i).length → st_g[st_gp i + 4 + j]? = some (Cond.eq (.elem (.field (st_tm i) "java/lang/String" "value" "[B") (.int (Int32.ofNat j))) (.int ((st_bs i).getD j 0))) := by decide +kernel
set_option maxRecDepth 100000 in
theorem sp_5_5 : ∀ i, i < 18 → 15 ≤ i → ∀ j, j < (st_bs i).length → st_g[st_gp i + 4 + j]? = some (Cond.eq (.elem (.field (st_tm i) "java/lang/String" "value" "[B") (.int (Int32.ofNat j))) (.int ((st_bs i).getD j 0))) := by decide +kernel
set_option maxRecDepth 100000 in
theorem sp_5_6 : ∀ i, i < 21 → 18 ≤ i → ∀ j, j < (st_bs i).length → st_g[st_gp i + 4 + j]? = some (Cond.eq (.elem (.field (st_tm i) "java/lang/String" "value" "[B") (.int (Int32.ofNat j))) (.int ((st_bs i).getD j 0))) := by decide +kernel
set_option maxRecDepth 100000 in
theorem sp_5_7 : ∀ i, i < 24 → 21 ≤ i → ∀ j, j < (st_bs i).length → st_g[st_gp i + 4 + j]? = some (Cond.eq (.elem (.field (st_tm i) "java/lang/String" "value" "[B") (.int (Int32.ofNat j))) (.int ((st_bs i).getD j 0))) := by decide +kernel
set_option maxRecDepth 100000 in
theorem sp_5_8 : ∀ i, i < 27 → 24 ≤ i → ∀ j, j < (st_bs i).length → st_g[st_gp i + 4 + j]? = some (Cond.eq (.elem (.field (st_tm i) "java/lang/String" "value" "[B") (.int (Int32.ofNat j))) (.int ((st_bs i).getD j 0))) := by decide +kernel
theorem sp_5 : ∀ i, i < 27 → ∀ j, j < (st_bs i).length → st_g[st_gp i + 4 + j]? = some (Cond.eq (.elem (.field (st_tm i) "java/lang/String" "value" "[B") (.int (Int32.ofNat j))) (.int ((st_bs i).getD j 0))) := by
  intro i hi
  by_cases h0 : i < 3
  · exact sp_5_0 i h0 (by omega)
  by_cases h1 : i < 6
  · exact sp_5_1 i h1 (by omega)
  by_cases h2 : i < 9
  · exact sp_5_2 i h2 (by omega)
  by_cases h3 : i < 12
  · exact sp_5_3 i h3 (by omega)
  by_cases h4 : i < 15
  · exact sp_5_4 i h4 (by omega)
  by_cases h5 : i < 18
  · exact sp_5_5 i h5 (by omega)
  by_cases h6 : i < 21
  · exact sp_5_6 i h6 (by omega)
  by_cases h7 : i < 24
  · exact sp_5_7 i h7 (by omega)
  exact sp_5_8 i hi (by omega)
set_option maxRecDepth 100000 in
theorem sp_6_0 : ∀ i, i < 9 → 0 ≤ i → lw_tbl[st_tp i]? = some (Cond.stringRef (pr_cn (pr_st.getD i (0, 0, "", [])).1) (pr_st.getD i (0, 0, "", [])).2.1 (pr_st.getD i (0, 0, "", [])).2.2.1) := by decide +kernel
set_option maxRecDepth 100000 in
theorem sp_6_1 : ∀ i, i < 18 → 9 ≤ i → lw_tbl[st_tp i]? = some (Cond.stringRef (pr_cn (pr_st.getD i (0, 0, "", [])).1) (pr_st.getD i (0, 0, "", [])).2.1 (pr_st.getD i (0, 0, "", [])).2.2.1) := by decide +kernel
set_option maxRecDepth 100000 in
theorem sp_6_2 : ∀ i, i < 27 → 18 ≤ i → lw_tbl[st_tp i]? = some (Cond.stringRef (pr_cn (pr_st.getD i (0, 0, "", [])).1) (pr_st.getD i (0, 0, "", [])).2.1 (pr_st.getD i (0, 0, "", [])).2.2.1) := by decide +kernel
theorem sp_6 : ∀ i, i < 27 → lw_tbl[st_tp i]? = some (Cond.stringRef (pr_cn (pr_st.getD i (0, 0, "", [])).1) (pr_st.getD i (0, 0, "", [])).2.1 (pr_st.getD i (0, 0, "", [])).2.2.1) := by
  intro i hi
  by_cases h0 : i < 9
  · exact sp_6_0 i h0 (by omega)
  by_cases h1 : i < 18
  · exact sp_6_1 i h1 (by omega)
  exact sp_6_2 i hi (by omega)
theorem sg_1 (i : Nat) (hi : i < 27) : Cond.exactly (st_tm i) "java/lang/String" ∈ st_g ∧ Cond.eq (.field (st_tm i) "java/lang/String" "coder" "B") (.int 0) ∈ st_g ∧ Cond.arrayOf (.field (st_tm i) "java/lang/String" "value" "[B") .byte ∈ st_g ∧ Cond.eq (.length (.field (st_tm i) "java/lang/String" "value" "[B")) (.int (Int32.ofNat (st_bs i).length)) ∈ st_g := ⟨st_gm _ (sp_1 i hi), st_gm _ (sp_2 i hi), st_gm _ (sp_3 i hi), st_gm _ (sp_4 i hi)⟩
theorem sg_2 (i : Nat) (hi : i < 27) (j : Nat) (hj : j < (st_bs i).length) : Cond.eq (.elem (.field (st_tm i) "java/lang/String" "value" "[B") (.int (Int32.ofNat j))) (.int ((st_bs i).getD j 0)) ∈ st_g := st_gm _ (sp_5 i hi j hj)
theorem sg_3 (i : Nat) (hi : i < 27) : Cond.stringRef (pr_cn (pr_st.getD i (0, 0, "", [])).1) (pr_st.getD i (0, 0, "", [])).2.1 (pr_st.getD i (0, 0, "", [])).2.2.1 ∈ lw_tbl := st_tb _ (sp_6 i hi)
theorem sg_4 : ∀ i, i < 27 → (st_bs i).length < 2 ^ 31 := by decide +kernel
theorem sg_5 : ∀ q ∈ tr_ms, Cond.exactly (.string "SyntaxRows" q.1) "java/lang/String" ∈ st_g ∧ Cond.stringRef "SyntaxRows" q.1 q.2 ∈ lw_tbl := List.forall_mem_cons.mpr ⟨⟨st_gm 127 (by decide +kernel), st_tb 794 (by decide +kernel)⟩, List.forall_mem_cons.mpr ⟨⟨st_gm 142 (by decide +kernel), st_tb 838 (by decide +kernel)⟩, List.forall_mem_cons.mpr ⟨⟨st_gm 168 (by decide +kernel), st_tb 854 (by decide +kernel)⟩, List.forall_mem_cons.mpr ⟨⟨st_gm 193 (by decide +kernel), st_tb 868 (by decide +kernel)⟩, List.forall_mem_cons.mpr ⟨⟨st_gm 210 (by decide +kernel), st_tb 897 (by decide +kernel)⟩, List.forall_mem_cons.mpr ⟨⟨st_gm 379 (by decide +kernel), st_tb 1032 (by decide +kernel)⟩, List.forall_mem_nil _⟩⟩⟩⟩⟩⟩
theorem sg_6 : ∀ q ∈ pr_ns, Cond.methodLinkNest (pr_cn q.1) q.2.1 q.2.2.1 q.2.2.2 ∈ lw_tbl := List.forall_mem_cons.mpr ⟨st_tb 125 (by decide +kernel), List.forall_mem_cons.mpr ⟨st_tb 139 (by decide +kernel), List.forall_mem_cons.mpr ⟨st_tb 184 (by decide +kernel), List.forall_mem_cons.mpr ⟨st_tb 321 (by decide +kernel), List.forall_mem_cons.mpr ⟨st_tb 324 (by decide +kernel), List.forall_mem_cons.mpr ⟨st_tb 341 (by decide +kernel), List.forall_mem_cons.mpr ⟨st_tb 344 (by decide +kernel), List.forall_mem_cons.mpr ⟨st_tb 501 (by decide +kernel), List.forall_mem_cons.mpr ⟨st_tb 532 (by decide +kernel), List.forall_mem_cons.mpr ⟨st_tb 609 (by decide +kernel), List.forall_mem_cons.mpr ⟨st_tb 626 (by decide +kernel), List.forall_mem_cons.mpr ⟨st_tb 640 (by decide +kernel), List.forall_mem_cons.mpr ⟨st_tb 967 (by decide +kernel), List.forall_mem_nil _⟩⟩⟩⟩⟩⟩⟩⟩⟩⟩⟩⟩⟩
theorem sg_7 : Cond.laysStatic "java/lang/String" "COMPACT_STRINGS" "Z" ∈ lw_tbl ∧ Cond.initialized "java/lang/String" ∈ lw_tbl ∧ Cond.eq (.static "java/lang/String" "COMPACT_STRINGS" "Z") (.int 1) ∈ st_g ∧ Cond.laysStatic "jdk/internal/util/Preconditions" "SIOOBE_FORMATTER" "Ljava/util/function/BiFunction;" ∈ lw_tbl ∧ Cond.initialized "jdk/internal/util/Preconditions" ∈ lw_tbl ∧ Cond.isRef (.static "jdk/internal/util/Preconditions" "SIOOBE_FORMATTER" "Ljava/util/function/BiFunction;") ∈ st_g := ⟨st_tb 361 (by decide +kernel), st_tb 109 (by decide +kernel), st_gm 4 (by decide +kernel), st_tb 400 (by decide +kernel), st_tb 112 (by decide +kernel), st_gm 5 (by decide +kernel)⟩
theorem sg_8 : Cond.isRef (.static "java/lang/Throwable" "UNASSIGNED_STACK" "[Ljava/lang/StackTraceElement;") ∈ st_g ∧ Cond.isRef (.static "java/lang/Throwable" "SUPPRESSED_SENTINEL" "Ljava/util/List;") ∈ st_g := ⟨st_gm 9 (by decide +kernel), st_gm 10 (by decide +kernel)⟩
