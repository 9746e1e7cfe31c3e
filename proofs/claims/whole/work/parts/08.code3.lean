/-! decoded code of methods, printed by wip/gen/gen06.py -/
def tb_R_init_0 : List (Nat × (Instr × Nat)) := [(0, (.aload_n 0, 1)), (1, (.invokespecial 3, 3)), (4, (.aload_n 0, 1)), (5, (.iconst 0, 1)), (6, (.putfield 9, 3)), (9, (.aload_n 0, 1)), (10, (.iconst 0, 1)), (11, (.putfield 15, 3)), (14, (.aload_n 0, 1)), (15, (.iconst (-1), 1))]
theorem td_R_init_0 : ∀ q ∈ tb_R_init_0, decode prog_3_method_1_code q.1 = .ok q.2 := by decide +kernel
def tb_R_init_1 : List (Nat × (Instr × Nat)) := [(16, (.putfield 18, 3)), (19, (.aload_n 0, 1)), (20, (.iconst 0, 1)), (21, (.putfield 21, 3)), (24, (.aload_n 0, 1)), (25, (.iconst 0, 1)), (26, (.putfield 24, 3)), (29, (.aload_n 0, 1)), (30, (.iconst 0, 1)), (31, (.putfield 27, 3))]
theorem td_R_init_1 : ∀ q ∈ tb_R_init_1, decode prog_3_method_1_code q.1 = .ok q.2 := by decide +kernel
def tb_R_init_2 : List (Nat × (Instr × Nat)) := [(34, (.aload_n 0, 1)), (35, (.iconst 0, 1)), (36, (.putfield 30, 3)), (39, (.aload_n 0, 1)), (40, (.aload_n 1, 1)), (41, (.putfield 33, 3)), (44, (.aload_n 0, 1)), (45, (.aload_n 2, 1)), (46, (.putfield 37, 3)), (49, (.aload_n 0, 1))]
theorem td_R_init_2 : ∀ q ∈ tb_R_init_2, decode prog_3_method_1_code q.1 = .ok q.2 := by decide +kernel
def tb_R_init_3 : List (Nat × (Instr × Nat)) := [(50, (.aload_n 3, 1)), (51, (.putfield 41, 3)), (54, (.return_, 1))]
theorem td_R_init_3 : ∀ q ∈ tb_R_init_3, decode prog_3_method_1_code q.1 = .ok q.2 := by decide +kernel
def tb_R_init : Nat → Option (Instr × Nat) := (am_nd 34 (am_nd 16 (am_look tb_R_init_0) (am_look tb_R_init_1)) (am_nd 50 (am_look tb_R_init_2) (am_look tb_R_init_3)))
theorem td_R_init : am_dok prog_3_method_1_code tb_R_init := (am_dok_nd (am_dok_nd (am_dok_lf td_R_init_0) (am_dok_lf td_R_init_1)) (am_dok_nd (am_dok_lf td_R_init_2) (am_dok_lf td_R_init_3)))
def m_R_init : am_M := (⟨"SyntaxRows$Reader", "<init>", "(LSyntaxRows$Tape;LSyntaxRows$Values;LSyntaxRows$ObjectRows;)V"⟩, prog_3_method_1_code, 4, none, 1, 3, tb_R_init)
set_option maxRecDepth 100000 in
theorem ok_R_init : am_ok m_R_init := ⟨td_R_init, am_in 199 rfl rfl, am_in 101 (by decide +kernel) rfl, by decide, ⟨by decide, by decide, by decide +kernel⟩, rfl, by decide⟩
def tb_R_readTape_0 : List (Nat × (Instr × Nat)) := [(0, (.aload_n 0, 1)), (1, (.getfield 37, 3)), (4, (.iconst 0, 1)), (5, (.iconst 0, 1)), (6, (.invokevirtual 45, 3)), (9, (.aload_n 0, 1)), (10, (.getfield 41, 3)), (13, (.invokevirtual 51, 3)), (16, (.aload_n 0, 1)), (17, (.iconst 0, 1))]
theorem td_R_readTape_0 : ∀ q ∈ tb_R_readTape_0, decode prog_3_method_3_code q.1 = .ok q.2 := by decide +kernel
def tb_R_readTape_1 : List (Nat × (Instr × Nat)) := [(18, (.putfield 24, 3)), (21, (.aload_n 0, 1)), (22, (.aload_n 0, 1)), (23, (.getfield 33, 3)), (26, (.iconst 0, 1)), (27, (.invokevirtual 56, 3)), (30, (.putfield 9, 3)), (33, (.iconst 0, 1)), (34, (.istore_n 1, 1)), (35, (.iload_n 1, 1))]
theorem td_R_readTape_1 : ∀ q ∈ tb_R_readTape_1, decode prog_3_method_3_code q.1 = .ok q.2 := by decide +kernel
def tb_R_readTape_2 : List (Nat × (Instr × Nat)) := [(36, (.sipush 1600, 3)), (39, (.if_icmp .ge 100, 3)), (42, (.aload_n 0, 1)), (43, (.getfield 9, 3)), (46, (.aload_n 0, 1)), (47, (.getfield 33, 3)), (50, (.invokevirtual 62, 3)), (53, (.if_icmp .ge 86, 3)), (56, (.aload_n 0, 1)), (57, (.getfield 41, 3))]
theorem td_R_readTape_2 : ∀ q ∈ tb_R_readTape_2, decode prog_3_method_3_code q.1 = .ok q.2 := by decide +kernel
def tb_R_readTape_3 : List (Nat × (Instr × Nat)) := [(60, (.invokevirtual 66, 3)), (63, (.ifCond .eq 16, 3)), (66, (.aload_n 0, 1)), (67, (.aload_n 0, 1)), (68, (.getfield 9, 3)), (71, (.ldc 70, 2)), (73, (.invokevirtual 72, 3)), (76, (.goto 4, 3)), (79, (.iconst (-1), 1)), (80, (.istore_n 2, 1))]
theorem td_R_readTape_3 : ∀ q ∈ tb_R_readTape_3, decode prog_3_method_3_code q.1 = .ok q.2 := by decide +kernel
def tb_R_readTape_4 : List (Nat × (Instr × Nat)) := [(81, (.iload_n 2, 1)), (82, (.iconst (-1), 1)), (83, (.if_icmp .ne 26, 3)), (86, (.aload_n 0, 1)), (87, (.dup, 1)), (88, (.getfield 24, 3)), (91, (.iconst 1, 1)), (92, (.iadd, 1)), (93, (.putfield 24, 3)), (96, (.aload_n 0, 1))]
theorem td_R_readTape_4 : ∀ q ∈ tb_R_readTape_4, decode prog_3_method_3_code q.1 = .ok q.2 := by decide +kernel
def tb_R_readTape_5 : List (Nat × (Instr × Nat)) := [(97, (.dup, 1)), (98, (.getfield 9, 3)), (101, (.iconst 1, 1)), (102, (.iadd, 1)), (103, (.putfield 9, 3)), (106, (.goto 12, 3)), (109, (.aload_n 0, 1)), (110, (.aload_n 0, 1)), (111, (.getfield 9, 3)), (114, (.iload_n 2, 1))]
theorem td_R_readTape_5 : ∀ q ∈ tb_R_readTape_5, decode prog_3_method_3_code q.1 = .ok q.2 := by decide +kernel
def tb_R_readTape_6 : List (Nat × (Instr × Nat)) := [(115, (.invokevirtual 76, 3)), (118, (.aload_n 0, 1)), (119, (.aload_n 0, 1)), (120, (.getfield 33, 3)), (123, (.aload_n 0, 1)), (124, (.getfield 9, 3)), (127, (.invokevirtual 56, 3)), (130, (.putfield 9, 3)), (133, (.iinc 1 1, 3)), (136, (.goto (-101), 3))]
theorem td_R_readTape_6 : ∀ q ∈ tb_R_readTape_6, decode prog_3_method_3_code q.1 = .ok q.2 := by decide +kernel
def tb_R_readTape_7 : List (Nat × (Instr × Nat)) := [(139, (.aload_n 0, 1)), (140, (.getfield 41, 3)), (143, (.invokevirtual 79, 3)), (146, (.ireturn, 1))]
theorem td_R_readTape_7 : ∀ q ∈ tb_R_readTape_7, decode prog_3_method_3_code q.1 = .ok q.2 := by decide +kernel
def tb_R_readTape : Nat → Option (Instr × Nat) := (am_nd 81 (am_nd 36 (am_nd 18 (am_look tb_R_readTape_0) (am_look tb_R_readTape_1)) (am_nd 60 (am_look tb_R_readTape_2) (am_look tb_R_readTape_3))) (am_nd 115 (am_nd 97 (am_look tb_R_readTape_4) (am_look tb_R_readTape_5)) (am_nd 139 (am_look tb_R_readTape_6) (am_look tb_R_readTape_7))))
theorem td_R_readTape : am_dok prog_3_method_3_code tb_R_readTape := (am_dok_nd (am_dok_nd (am_dok_nd (am_dok_lf td_R_readTape_0) (am_dok_lf td_R_readTape_1)) (am_dok_nd (am_dok_lf td_R_readTape_2) (am_dok_lf td_R_readTape_3))) (am_dok_nd (am_dok_nd (am_dok_lf td_R_readTape_4) (am_dok_lf td_R_readTape_5)) (am_dok_nd (am_dok_lf td_R_readTape_6) (am_dok_lf td_R_readTape_7))))
def m_R_readTape : am_M := (⟨"SyntaxRows$Reader", "readTape", "()I"⟩, prog_3_method_3_code, 3, (some .int), 1, 0, tb_R_readTape)
set_option maxRecDepth 100000 in
theorem ok_R_readTape : am_ok m_R_readTape := ⟨td_R_readTape, am_in 298 rfl rfl, am_in 101 (by decide +kernel) rfl, by decide, ⟨by decide, by decide, by decide +kernel⟩, rfl, by decide⟩
theorem oi_R_readTape : am_inst m_R_readTape := ⟨am_in 296 (by decide +kernel) rfl, am_in 297 (by decide +kernel) rfl⟩
def tb_R_behindPair_0 : List (Nat × (Instr × Nat)) := [(0, (.aload_n 0, 1)), (1, (.getfield 33, 3)), (4, (.iload_n 1, 1)), (5, (.invokevirtual 80, 3)), (8, (.istore_n 3, 1)), (9, (.iload_n 3, 1)), (10, (.iconst (-1), 1)), (11, (.if_icmp .ne 5, 3)), (14, (.iconst (-1), 1)), (15, (.ireturn, 1))]
theorem td_R_behindPair_0 : ∀ q ∈ tb_R_behindPair_0, decode prog_3_method_4_code q.1 = .ok q.2 := by decide +kernel
def tb_R_behindPair_1 : List (Nat × (Instr × Nat)) := [(16, (.aload_n 0, 1)), (17, (.getfield 33, 3)), (20, (.iload_n 3, 1)), (21, (.invokevirtual 56, 3)), (24, (.istore 4, 2)), (26, (.aload_n 0, 1)), (27, (.getfield 33, 3)), (30, (.iload 4, 2)), (32, (.invokevirtual 80, 3)), (35, (.istore 5, 2))]
theorem td_R_behindPair_1 : ∀ q ∈ tb_R_behindPair_1, decode prog_3_method_4_code q.1 = .ok q.2 := by decide +kernel
def tb_R_behindPair_2 : List (Nat × (Instr × Nat)) := [(37, (.iload 5, 2)), (39, (.iconst (-1), 1)), (40, (.if_icmp .ne 5, 3)), (43, (.iconst (-1), 1)), (44, (.ireturn, 1)), (45, (.aload_n 0, 1)), (46, (.getfield 33, 3)), (49, (.iload 5, 2)), (51, (.invokevirtual 56, 3)), (54, (.istore 6, 2))]
theorem td_R_behindPair_2 : ∀ q ∈ tb_R_behindPair_2, decode prog_3_method_4_code q.1 = .ok q.2 := by decide +kernel
def tb_R_behindPair_3 : List (Nat × (Instr × Nat)) := [(56, (.aload_n 0, 1)), (57, (.getfield 33, 3)), (60, (.iload 6, 2)), (62, (.aload_n 2, 1)), (63, (.invokevirtual 83, 3)), (66, (.ifCond .ne 5, 3)), (69, (.iconst (-1), 1)), (70, (.ireturn, 1)), (71, (.aload_n 0, 1)), (72, (.aload_n 0, 1))]
theorem td_R_behindPair_3 : ∀ q ∈ tb_R_behindPair_3, decode prog_3_method_4_code q.1 = .ok q.2 := by decide +kernel
def tb_R_behindPair_4 : List (Nat × (Instr × Nat)) := [(73, (.getfield 33, 3)), (76, (.iload_n 1, 1)), (77, (.iload_n 3, 1)), (78, (.invokevirtual 87, 3)), (81, (.putfield 27, 3)), (84, (.aload_n 0, 1)), (85, (.aload_n 0, 1)), (86, (.getfield 33, 3)), (89, (.iload 4, 2)), (91, (.iload 5, 2))]
theorem td_R_behindPair_4 : ∀ q ∈ tb_R_behindPair_4, decode prog_3_method_4_code q.1 = .ok q.2 := by decide +kernel
def tb_R_behindPair_5 : List (Nat × (Instr × Nat)) := [(93, (.invokevirtual 87, 3)), (96, (.putfield 30, 3)), (99, (.iload 6, 2)), (101, (.aload_n 2, 1)), (102, (.invokevirtual 91, 3)), (105, (.iadd, 1)), (106, (.ireturn, 1))]
theorem td_R_behindPair_5 : ∀ q ∈ tb_R_behindPair_5, decode prog_3_method_4_code q.1 = .ok q.2 := by decide +kernel
def tb_R_behindPair : Nat → Option (Instr × Nat) := (am_nd 56 (am_nd 16 (am_look tb_R_behindPair_0) (am_nd 37 (am_look tb_R_behindPair_1) (am_look tb_R_behindPair_2))) (am_nd 73 (am_look tb_R_behindPair_3) (am_nd 93 (am_look tb_R_behindPair_4) (am_look tb_R_behindPair_5))))
theorem td_R_behindPair : am_dok prog_3_method_4_code tb_R_behindPair := (am_dok_nd (am_dok_nd (am_dok_lf td_R_behindPair_0) (am_dok_nd (am_dok_lf td_R_behindPair_1) (am_dok_lf td_R_behindPair_2))) (am_dok_nd (am_dok_lf td_R_behindPair_3) (am_dok_nd (am_dok_lf td_R_behindPair_4) (am_dok_lf td_R_behindPair_5))))
def m_R_behindPair : am_M := (⟨"SyntaxRows$Reader", "behindPair", "(ILjava/lang/String;)I"⟩, prog_3_method_4_code, 7, (some .int), 1, 2, tb_R_behindPair)
set_option maxRecDepth 100000 in
theorem ok_R_behindPair : am_ok m_R_behindPair := ⟨td_R_behindPair, am_in 336 rfl rfl, am_in 101 (by decide +kernel) rfl, by decide, ⟨by decide, by decide, by decide +kernel⟩, rfl, by decide⟩
theorem oi_R_behindPair : am_inst m_R_behindPair := ⟨am_in 335 (by decide +kernel) rfl, am_in 0 (by decide +kernel) rfl⟩
def tb_R_readObject_0 : List (Nat × (Instr × Nat)) := [(0, (.aload_n 0, 1)), (1, (.getfield 41, 3)), (4, (.aload_n 0, 1)), (5, (.getfield 27, 3)), (8, (.aload_n 0, 1)), (9, (.getfield 30, 3)), (12, (.iload_n 1, 1)), (13, (.invokevirtual 96, 3)), (16, (.istore_n 3, 1)), (17, (.aload_n 0, 1))]
theorem td_R_readObject_0 : ∀ q ∈ tb_R_readObject_0, decode prog_3_method_5_code q.1 = .ok q.2 := by decide +kernel
def tb_R_readObject_1 : List (Nat × (Instr × Nat)) := [(18, (.getfield 37, 3)), (21, (.invokevirtual 100, 3)), (24, (.istore 4, 2)), (26, (.aload_n 0, 1)), (27, (.getfield 37, 3)), (30, (.invokevirtual 101, 3)), (33, (.istore 5, 2)), (35, (.aload_n 0, 1)), (36, (.iconst 0, 1)), (37, (.putfield 15, 3))]
theorem td_R_readObject_1 : ∀ q ∈ tb_R_readObject_1, decode prog_3_method_5_code q.1 = .ok q.2 := by decide +kernel
def tb_R_readObject_2 : List (Nat × (Instr × Nat)) := [(40, (.aload_n 0, 1)), (41, (.iconst (-1), 1)), (42, (.putfield 18, 3)), (45, (.aload_n 0, 1)), (46, (.iconst 0, 1)), (47, (.putfield 21, 3)), (50, (.aload_n 0, 1)), (51, (.iload_n 2, 1)), (52, (.putfield 9, 3)), (55, (.aload_n 0, 1))]
theorem td_R_readObject_2 : ∀ q ∈ tb_R_readObject_2, decode prog_3_method_5_code q.1 = .ok q.2 := by decide +kernel
def tb_R_readObject_3 : List (Nat × (Instr × Nat)) := [(56, (.iconst 0, 1)), (57, (.invokevirtual 104, 3)), (60, (.istore 6, 2)), (62, (.iload 6, 2)), (64, (.iconst (-1), 1)), (65, (.if_icmp .eq 11, 3)), (68, (.aload_n 0, 1)), (69, (.iload 6, 2)), (71, (.invokevirtual 107, 3)), (74, (.istore 6, 2))]
theorem td_R_readObject_3 : ∀ q ∈ tb_R_readObject_3, decode prog_3_method_5_code q.1 = .ok q.2 := by decide +kernel
def tb_R_readObject_4 : List (Nat × (Instr × Nat)) := [(76, (.iload 6, 2)), (78, (.iconst (-1), 1)), (79, (.if_icmp .eq 10, 3)), (82, (.aload_n 0, 1)), (83, (.invokevirtual 110, 3)), (86, (.ifCond .ne 29, 3)), (89, (.iconst (-1), 1)), (90, (.istore 6, 2)), (92, (.aload_n 0, 1)), (93, (.getfield 37, 3))]
theorem td_R_readObject_4 : ∀ q ∈ tb_R_readObject_4, decode prog_3_method_5_code q.1 = .ok q.2 := by decide +kernel
def tb_R_readObject_5 : List (Nat × (Instr × Nat)) := [(96, (.iload 4, 2)), (98, (.iload 5, 2)), (100, (.invokevirtual 45, 3)), (103, (.aload_n 0, 1)), (104, (.aload_n 0, 1)), (105, (.aload_n 0, 1)), (106, (.getfield 18, 3)), (109, (.invokevirtual 113, 3)), (112, (.putfield 9, 3)), (115, (.aload_n 0, 1))]
theorem td_R_readObject_5 : ∀ q ∈ tb_R_readObject_5, decode prog_3_method_5_code q.1 = .ok q.2 := by decide +kernel
def tb_R_readObject_6 : List (Nat × (Instr × Nat)) := [(116, (.getfield 41, 3)), (119, (.iload_n 3, 1)), (120, (.iload 6, 2)), (122, (.aload_n 0, 1)), (123, (.getfield 15, 3)), (126, (.aload_n 0, 1)), (127, (.getfield 18, 3)), (130, (.aload_n 0, 1)), (131, (.getfield 21, 3)), (134, (.aload_n 0, 1))]
theorem td_R_readObject_6 : ∀ q ∈ tb_R_readObject_6, decode prog_3_method_5_code q.1 = .ok q.2 := by decide +kernel
def tb_R_readObject_7 : List (Nat × (Instr × Nat)) := [(135, (.getfield 9, 3)), (138, (.invokevirtual 116, 3)), (141, (.return_, 1))]
theorem td_R_readObject_7 : ∀ q ∈ tb_R_readObject_7, decode prog_3_method_5_code q.1 = .ok q.2 := by decide +kernel
def tb_R_readObject : Nat → Option (Instr × Nat) := (am_nd 76 (am_nd 40 (am_nd 18 (am_look tb_R_readObject_0) (am_look tb_R_readObject_1)) (am_nd 56 (am_look tb_R_readObject_2) (am_look tb_R_readObject_3))) (am_nd 116 (am_nd 96 (am_look tb_R_readObject_4) (am_look tb_R_readObject_5)) (am_nd 135 (am_look tb_R_readObject_6) (am_look tb_R_readObject_7))))
theorem td_R_readObject : am_dok prog_3_method_5_code tb_R_readObject := (am_dok_nd (am_dok_nd (am_dok_nd (am_dok_lf td_R_readObject_0) (am_dok_lf td_R_readObject_1)) (am_dok_nd (am_dok_lf td_R_readObject_2) (am_dok_lf td_R_readObject_3))) (am_dok_nd (am_dok_nd (am_dok_lf td_R_readObject_4) (am_dok_lf td_R_readObject_5)) (am_dok_nd (am_dok_lf td_R_readObject_6) (am_dok_lf td_R_readObject_7))))
def m_R_readObject : am_M := (⟨"SyntaxRows$Reader", "readObject", "(II)V"⟩, prog_3_method_5_code, 7, none, 1, 2, tb_R_readObject)
set_option maxRecDepth 100000 in
theorem ok_R_readObject : am_ok m_R_readObject := ⟨td_R_readObject, am_in 467 rfl rfl, am_in 101 (by decide +kernel) rfl, by decide, ⟨by decide, by decide, by decide +kernel⟩, rfl, by decide⟩
theorem oi_R_readObject : am_inst m_R_readObject := ⟨am_in 466 (by decide +kernel) rfl, am_in 1 (by decide +kernel) rfl⟩
def tb_R_readValue_0 : List (Nat × (Instr × Nat)) := [(0, (.aload_n 0, 1)), (1, (.aload_n 0, 1)), (2, (.getfield 33, 3)), (5, (.aload_n 0, 1)), (6, (.getfield 9, 3)), (9, (.invokevirtual 56, 3)), (12, (.putfield 9, 3)), (15, (.aload_n 0, 1)), (16, (.getfield 33, 3)), (19, (.aload_n 0, 1))]
theorem td_R_readValue_0 : ∀ q ∈ tb_R_readValue_0, decode prog_3_method_9_code q.1 = .ok q.2 := by decide +kernel
def tb_R_readValue_1 : List (Nat × (Instr × Nat)) := [(20, (.getfield 9, 3)), (23, (.invokevirtual 125, 3)), (26, (.istore_n 2, 1)), (27, (.iload_n 2, 1)), (28, (.iconst (-1), 1)), (29, (.if_icmp .ne 13, 3)), (32, (.aload_n 0, 1)), (33, (.iconst 1, 1)), (34, (.aload_n 0, 1)), (35, (.getfield 9, 3))]
theorem td_R_readValue_1 : ∀ q ∈ tb_R_readValue_1, decode prog_3_method_9_code q.1 = .ok q.2 := by decide +kernel
def tb_R_readValue_2 : List (Nat × (Instr × Nat)) := [(38, (.invokevirtual 122, 3)), (41, (.ireturn, 1)), (42, (.iload_n 2, 1)), (43, (.bipush 60, 2)), (45, (.if_icmp .ne 25, 3)), (48, (.aload_n 0, 1)), (49, (.getfield 33, 3)), (52, (.aload_n 0, 1)), (53, (.getfield 9, 3)), (56, (.iconst 1, 1))]
theorem td_R_readValue_2 : ∀ q ∈ tb_R_readValue_2, decode prog_3_method_9_code q.1 = .ok q.2 := by decide +kernel
def tb_R_readValue_3 : List (Nat × (Instr × Nat)) := [(57, (.iadd, 1)), (58, (.invokevirtual 125, 3)), (61, (.bipush 60, 2)), (63, (.if_icmp .ne 7, 3)), (66, (.iconst 1, 1)), (67, (.goto 4, 3)), (70, (.iconst 0, 1)), (71, (.istore_n 3, 1)), (72, (.iload_n 2, 1)), (73, (.bipush 91, 2))]
theorem td_R_readValue_3 : ∀ q ∈ tb_R_readValue_3, decode prog_3_method_9_code q.1 = .ok q.2 := by decide +kernel
def tb_R_readValue_4 : List (Nat × (Instr × Nat)) := [(75, (.if_icmp .eq 7, 3)), (78, (.iload_n 3, 1)), (79, (.ifCond .eq 19, 3)), (82, (.iload_n 1, 1)), (83, (.bipush 8, 2)), (85, (.if_icmp .lt 13, 3)), (88, (.aload_n 0, 1)), (89, (.iconst 5, 1)), (90, (.aload_n 0, 1)), (91, (.getfield 9, 3))]
theorem td_R_readValue_4 : ∀ q ∈ tb_R_readValue_4, decode prog_3_method_9_code q.1 = .ok q.2 := by decide +kernel
def tb_R_readValue_5 : List (Nat × (Instr × Nat)) := [(94, (.invokevirtual 122, 3)), (97, (.ireturn, 1)), (98, (.iload_n 2, 1)), (99, (.invokestatic 131, 3)), (102, (.ifCond .ne 13, 3)), (105, (.aload_n 0, 1)), (106, (.iconst 2, 1)), (107, (.aload_n 0, 1)), (108, (.getfield 9, 3)), (111, (.invokevirtual 122, 3))]
theorem td_R_readValue_5 : ∀ q ∈ tb_R_readValue_5, decode prog_3_method_9_code q.1 = .ok q.2 := by decide +kernel
def tb_R_readValue_6 : List (Nat × (Instr × Nat)) := [(114, (.ireturn, 1)), (115, (.aload_n 0, 1)), (116, (.getfield 37, 3)), (119, (.invokevirtual 134, 3)), (122, (.istore 4, 2)), (124, (.iload 4, 2)), (126, (.iconst (-1), 1)), (127, (.if_icmp .ne 14, 3)), (130, (.aload_n 0, 1)), (131, (.bipush 6, 2))]
theorem td_R_readValue_6 : ∀ q ∈ tb_R_readValue_6, decode prog_3_method_9_code q.1 = .ok q.2 := by decide +kernel
def tb_R_readValue_7 : List (Nat × (Instr × Nat)) := [(133, (.aload_n 0, 1)), (134, (.getfield 9, 3)), (137, (.invokevirtual 122, 3)), (140, (.ireturn, 1)), (141, (.iload_n 3, 1)), (142, (.ifCond .eq 11, 3)), (145, (.aload_n 0, 1)), (146, (.iload 4, 2)), (148, (.iload_n 1, 1)), (149, (.invokevirtual 137, 3))]
theorem td_R_readValue_7 : ∀ q ∈ tb_R_readValue_7, decode prog_3_method_9_code q.1 = .ok q.2 := by decide +kernel
def tb_R_readValue_8 : List (Nat × (Instr × Nat)) := [(152, (.ireturn, 1)), (153, (.iload_n 2, 1)), (154, (.lookupswitch 71 #[(40, 57), (47, 50), (60, 64), (91, 42)], 42)), (196, (.aload_n 0, 1)), (197, (.iload 4, 2)), (199, (.iload_n 1, 1)), (200, (.invokevirtual 140, 3)), (203, (.ireturn, 1)), (204, (.aload_n 0, 1)), (205, (.iload 4, 2))]
theorem td_R_readValue_8 : ∀ q ∈ tb_R_readValue_8, decode prog_3_method_9_code q.1 = .ok q.2 := by decide +kernel
def tb_R_readValue_9 : List (Nat × (Instr × Nat)) := [(207, (.invokevirtual 143, 3)), (210, (.ireturn, 1)), (211, (.aload_n 0, 1)), (212, (.iload 4, 2)), (214, (.invokevirtual 146, 3)), (217, (.ireturn, 1)), (218, (.aload_n 0, 1)), (219, (.iload 4, 2)), (221, (.invokevirtual 149, 3)), (224, (.ireturn, 1))]
theorem td_R_readValue_9 : ∀ q ∈ tb_R_readValue_9, decode prog_3_method_9_code q.1 = .ok q.2 := by decide +kernel
def tb_R_readValue_10 : List (Nat × (Instr × Nat)) := [(225, (.aload_n 0, 1)), (226, (.iload 4, 2)), (228, (.invokevirtual 152, 3)), (231, (.ireturn, 1))]
theorem td_R_readValue_10 : ∀ q ∈ tb_R_readValue_10, decode prog_3_method_9_code q.1 = .ok q.2 := by decide +kernel
def tb_R_readValue : Nat → Option (Instr × Nat) := (am_nd 94 (am_nd 38 (am_nd 20 (am_look tb_R_readValue_0) (am_look tb_R_readValue_1)) (am_nd 57 (am_look tb_R_readValue_2) (am_nd 75 (am_look tb_R_readValue_3) (am_look tb_R_readValue_4)))) (am_nd 152 (am_nd 114 (am_look tb_R_readValue_5) (am_nd 133 (am_look tb_R_readValue_6) (am_look tb_R_readValue_7))) (am_nd 207 (am_look tb_R_readValue_8) (am_nd 225 (am_look tb_R_readValue_9) (am_look tb_R_readValue_10)))))
theorem td_R_readValue : am_dok prog_3_method_9_code tb_R_readValue := (am_dok_nd (am_dok_nd (am_dok_nd (am_dok_lf td_R_readValue_0) (am_dok_lf td_R_readValue_1)) (am_dok_nd (am_dok_lf td_R_readValue_2) (am_dok_nd (am_dok_lf td_R_readValue_3) (am_dok_lf td_R_readValue_4)))) (am_dok_nd (am_dok_nd (am_dok_lf td_R_readValue_5) (am_dok_nd (am_dok_lf td_R_readValue_6) (am_dok_lf td_R_readValue_7))) (am_dok_nd (am_dok_lf td_R_readValue_8) (am_dok_nd (am_dok_lf td_R_readValue_9) (am_dok_lf td_R_readValue_10)))))
def m_R_readValue : am_M := (⟨"SyntaxRows$Reader", "readValue", "(I)I"⟩, prog_3_method_9_code, 5, (some .int), 1, 1, tb_R_readValue)
set_option maxRecDepth 100000 in
theorem ok_R_readValue : am_ok m_R_readValue := ⟨td_R_readValue, am_in 492 rfl rfl, am_in 101 (by decide +kernel) rfl, by decide, ⟨by decide, by decide, by decide +kernel⟩, rfl, by decide⟩
theorem oi_R_readValue : am_inst m_R_readValue := ⟨am_in 491 (by decide +kernel) rfl, am_in 3 (by decide +kernel) rfl⟩
def tb_R_fail_0 : List (Nat × (Instr × Nat)) := [(0, (.aload_n 0, 1)), (1, (.iload_n 1, 1)), (2, (.putfield 15, 3)), (5, (.aload_n 0, 1)), (6, (.iload_n 2, 1)), (7, (.putfield 18, 3)), (10, (.iconst (-1), 1)), (11, (.ireturn, 1))]
theorem td_R_fail_0 : ∀ q ∈ tb_R_fail_0, decode prog_3_method_6_code q.1 = .ok q.2 := by decide +kernel
def tb_R_fail : Nat → Option (Instr × Nat) := (am_look tb_R_fail_0)
theorem td_R_fail : am_dok prog_3_method_6_code tb_R_fail := (am_dok_lf td_R_fail_0)
def m_R_fail : am_M := (⟨"SyntaxRows$Reader", "fail", "(II)I"⟩, prog_3_method_6_code, 3, (some .int), 1, 2, tb_R_fail)
set_option maxRecDepth 100000 in
theorem ok_R_fail : am_ok m_R_fail := ⟨td_R_fail, am_in 497 rfl rfl, am_in 101 (by decide +kernel) rfl, by decide, ⟨by decide, by decide, by decide +kernel⟩, rfl, by decide⟩
theorem oi_R_fail : am_inst m_R_fail := ⟨am_in 496 (by decide +kernel) rfl, am_in 4 (by decide +kernel) rfl⟩
def tb_R_beginsValue_0 : List (Nat × (Instr × Nat)) := [(0, (.iload_n 0, 1)), (1, (.invokestatic 127, 3)), (4, (.ifCond .ne 27, 3)), (7, (.iload_n 0, 1)), (8, (.bipush 47, 2)), (10, (.if_icmp .eq 21, 3)), (13, (.iload_n 0, 1)), (14, (.bipush 40, 2)), (16, (.if_icmp .eq 15, 3)), (19, (.iload_n 0, 1))]
theorem td_R_beginsValue_0 : ∀ q ∈ tb_R_beginsValue_0, decode prog_3_method_10_code q.1 = .ok q.2 := by decide +kernel
def tb_R_beginsValue_1 : List (Nat × (Instr × Nat)) := [(20, (.bipush 60, 2)), (22, (.if_icmp .eq 9, 3)), (25, (.iload_n 0, 1)), (26, (.bipush 91, 2)), (28, (.if_icmp .ne 7, 3)), (31, (.iconst 1, 1)), (32, (.goto 4, 3)), (35, (.iconst 0, 1)), (36, (.ireturn, 1))]
theorem td_R_beginsValue_1 : ∀ q ∈ tb_R_beginsValue_1, decode prog_3_method_10_code q.1 = .ok q.2 := by decide +kernel
def tb_R_beginsValue : Nat → Option (Instr × Nat) := (am_nd 20 (am_look tb_R_beginsValue_0) (am_look tb_R_beginsValue_1))
theorem td_R_beginsValue : am_dok prog_3_method_10_code tb_R_beginsValue := (am_dok_nd (am_dok_lf td_R_beginsValue_0) (am_dok_lf td_R_beginsValue_1))
def m_R_beginsValue : am_M := (⟨"SyntaxRows$Reader", "beginsValue", "(I)Z"⟩, prog_3_method_10_code, 1, (some .boolean), 1, 1, tb_R_beginsValue)
set_option maxRecDepth 100000 in
theorem ok_R_beginsValue : am_ok m_R_beginsValue := ⟨td_R_beginsValue, am_in 500 rfl rfl, am_in 101 (by decide +kernel) rfl, by decide, ⟨by decide, by decide, by decide +kernel⟩, rfl, by decide⟩
theorem os_R_beginsValue : am_stat m_R_beginsValue := am_in 499 (by decide +kernel) rfl
def tb_R_readDictionary_0 : List (Nat × (Instr × Nat)) := [(0, (.aload_n 0, 1)), (1, (.getfield 37, 3)), (4, (.iload_n 1, 1)), (5, (.bipush 7, 2)), (7, (.lconst 0, 1)), (8, (.invokevirtual 155, 3)), (11, (.aload_n 0, 1)), (12, (.dup, 1)), (13, (.getfield 9, 3)), (16, (.iconst 2, 1))]
theorem td_R_readDictionary_0 : ∀ q ∈ tb_R_readDictionary_0, decode prog_3_method_12_code q.1 = .ok q.2 := by decide +kernel
def tb_R_readDictionary_1 : List (Nat × (Instr × Nat)) := [(17, (.iadd, 1)), (18, (.putfield 9, 3)), (21, (.iconst 0, 1)), (22, (.istore_n 3, 1)), (23, (.iload_n 3, 1)), (24, (.sipush 1600, 3)), (27, (.if_icmp .gt 123, 3)), (30, (.aload_n 0, 1)), (31, (.getfield 15, 3)), (34, (.ifCond .ne 116, 3))]
theorem td_R_readDictionary_1 : ∀ q ∈ tb_R_readDictionary_1, decode prog_3_method_12_code q.1 = .ok q.2 := by decide +kernel
def tb_R_readDictionary_2 : List (Nat × (Instr × Nat)) := [(37, (.aload_n 0, 1)), (38, (.aload_n 0, 1)), (39, (.getfield 33, 3)), (42, (.aload_n 0, 1)), (43, (.getfield 9, 3)), (46, (.invokevirtual 56, 3)), (49, (.putfield 9, 3)), (52, (.aload_n 0, 1)), (53, (.getfield 33, 3)), (56, (.aload_n 0, 1))]
theorem td_R_readDictionary_2 : ∀ q ∈ tb_R_readDictionary_2, decode prog_3_method_12_code q.1 = .ok q.2 := by decide +kernel
def tb_R_readDictionary_3 : List (Nat × (Instr × Nat)) := [(57, (.getfield 9, 3)), (60, (.ldc 162, 2)), (62, (.invokevirtual 164, 3)), (65, (.ifCond .eq 15, 3)), (68, (.aload_n 0, 1)), (69, (.dup, 1)), (70, (.getfield 9, 3)), (73, (.iconst 2, 1)), (74, (.iadd, 1)), (75, (.putfield 9, 3))]
theorem td_R_readDictionary_3 : ∀ q ∈ tb_R_readDictionary_3, decode prog_3_method_12_code q.1 = .ok q.2 := by decide +kernel
def tb_R_readDictionary_4 : List (Nat × (Instr × Nat)) := [(78, (.iload_n 1, 1)), (79, (.ireturn, 1)), (80, (.aload_n 0, 1)), (81, (.invokevirtual 167, 3)), (84, (.istore 4, 2)), (86, (.iload 4, 2)), (88, (.iconst (-1), 1)), (89, (.if_icmp .eq 11, 3)), (92, (.aload_n 0, 1)), (93, (.iload 4, 2))]
theorem td_R_readDictionary_4 : ∀ q ∈ tb_R_readDictionary_4, decode prog_3_method_12_code q.1 = .ok q.2 := by decide +kernel
def tb_R_readDictionary_5 : List (Nat × (Instr × Nat)) := [(95, (.invokevirtual 143, 3)), (98, (.istore 4, 2)), (100, (.iload 4, 2)), (102, (.iconst (-1), 1)), (103, (.if_icmp .ne 7, 3)), (106, (.iconst (-1), 1)), (107, (.goto 10, 3)), (110, (.aload_n 0, 1)), (111, (.iload_n 2, 1)), (112, (.iconst 1, 1))]
theorem td_R_readDictionary_5 : ∀ q ∈ tb_R_readDictionary_5, decode prog_3_method_12_code q.1 = .ok q.2 := by decide +kernel
def tb_R_readDictionary_6 : List (Nat × (Instr × Nat)) := [(113, (.iadd, 1)), (114, (.invokevirtual 104, 3)), (117, (.istore 5, 2)), (119, (.iload 5, 2)), (121, (.iconst (-1), 1)), (122, (.if_icmp .eq 22, 3)), (125, (.aload_n 0, 1)), (126, (.iload_n 1, 1)), (127, (.iload 4, 2)), (129, (.iload 5, 2))]
theorem td_R_readDictionary_6 : ∀ q ∈ tb_R_readDictionary_6, decode prog_3_method_12_code q.1 = .ok q.2 := by decide +kernel
def tb_R_readDictionary_7 : List (Nat × (Instr × Nat)) := [(131, (.aload_n 0, 1)), (132, (.getfield 37, 3)), (135, (.iload_n 1, 1)), (136, (.iload 4, 2)), (138, (.invokevirtual 170, 3)), (141, (.invokevirtual 173, 3)), (144, (.iinc 3 1, 3)), (147, (.goto (-124), 3)), (150, (.iconst (-1), 1)), (151, (.ireturn, 1))]
theorem td_R_readDictionary_7 : ∀ q ∈ tb_R_readDictionary_7, decode prog_3_method_12_code q.1 = .ok q.2 := by decide +kernel
def tb_R_readDictionary : Nat → Option (Instr × Nat) := (am_nd 78 (am_nd 37 (am_nd 17 (am_look tb_R_readDictionary_0) (am_look tb_R_readDictionary_1)) (am_nd 57 (am_look tb_R_readDictionary_2) (am_look tb_R_readDictionary_3))) (am_nd 113 (am_nd 95 (am_look tb_R_readDictionary_4) (am_look tb_R_readDictionary_5)) (am_nd 131 (am_look tb_R_readDictionary_6) (am_look tb_R_readDictionary_7))))
theorem td_R_readDictionary : am_dok prog_3_method_12_code tb_R_readDictionary := (am_dok_nd (am_dok_nd (am_dok_nd (am_dok_lf td_R_readDictionary_0) (am_dok_lf td_R_readDictionary_1)) (am_dok_nd (am_dok_lf td_R_readDictionary_2) (am_dok_lf td_R_readDictionary_3))) (am_dok_nd (am_dok_nd (am_dok_lf td_R_readDictionary_4) (am_dok_lf td_R_readDictionary_5)) (am_dok_nd (am_dok_lf td_R_readDictionary_6) (am_dok_lf td_R_readDictionary_7))))
def m_R_readDictionary : am_M := (⟨"SyntaxRows$Reader", "readDictionary", "(II)I"⟩, prog_3_method_12_code, 6, (some .int), 1, 2, tb_R_readDictionary)
set_option maxRecDepth 100000 in
theorem ok_R_readDictionary : am_ok m_R_readDictionary := ⟨td_R_readDictionary, am_in 509 rfl rfl, am_in 101 (by decide +kernel) rfl, by decide, ⟨by decide, by decide, by decide +kernel⟩, rfl, by decide⟩
theorem oi_R_readDictionary : am_inst m_R_readDictionary := ⟨am_in 508 (by decide +kernel) rfl, am_in 5 (by decide +kernel) rfl⟩
def tb_R_beginKey_0 : List (Nat × (Instr × Nat)) := [(0, (.aload_n 0, 1)), (1, (.getfield 9, 3)), (4, (.aload_n 0, 1)), (5, (.getfield 33, 3)), (8, (.invokevirtual 62, 3)), (11, (.if_icmp .lt 13, 3)), (14, (.aload_n 0, 1)), (15, (.iconst 1, 1)), (16, (.aload_n 0, 1)), (17, (.getfield 9, 3))]
theorem td_R_beginKey_0 : ∀ q ∈ tb_R_beginKey_0, decode prog_3_method_13_code q.1 = .ok q.2 := by decide +kernel
def tb_R_beginKey_1 : List (Nat × (Instr × Nat)) := [(20, (.invokevirtual 122, 3)), (23, (.ireturn, 1)), (24, (.aload_n 0, 1)), (25, (.getfield 33, 3)), (28, (.aload_n 0, 1)), (29, (.getfield 9, 3)), (32, (.invokevirtual 125, 3)), (35, (.bipush 47, 2)), (37, (.if_icmp .eq 14, 3)), (40, (.aload_n 0, 1))]
theorem td_R_beginKey_1 : ∀ q ∈ tb_R_beginKey_1, decode prog_3_method_13_code q.1 = .ok q.2 := by decide +kernel
def tb_R_beginKey_2 : List (Nat × (Instr × Nat)) := [(41, (.bipush 7, 2)), (43, (.aload_n 0, 1)), (44, (.getfield 9, 3)), (47, (.invokevirtual 122, 3)), (50, (.ireturn, 1)), (51, (.aload_n 0, 1)), (52, (.getfield 37, 3)), (55, (.invokevirtual 134, 3)), (58, (.istore_n 1, 1)), (59, (.iload_n 1, 1))]
theorem td_R_beginKey_2 : ∀ q ∈ tb_R_beginKey_2, decode prog_3_method_13_code q.1 = .ok q.2 := by decide +kernel
def tb_R_beginKey_3 : List (Nat × (Instr × Nat)) := [(60, (.iconst (-1), 1)), (61, (.if_icmp .ne 16, 3)), (64, (.aload_n 0, 1)), (65, (.bipush 6, 2)), (67, (.aload_n 0, 1)), (68, (.getfield 9, 3)), (71, (.invokevirtual 122, 3)), (74, (.goto 4, 3)), (77, (.iload_n 1, 1)), (78, (.ireturn, 1))]
theorem td_R_beginKey_3 : ∀ q ∈ tb_R_beginKey_3, decode prog_3_method_13_code q.1 = .ok q.2 := by decide +kernel
def tb_R_beginKey : Nat → Option (Instr × Nat) := (am_nd 41 (am_nd 20 (am_look tb_R_beginKey_0) (am_look tb_R_beginKey_1)) (am_nd 60 (am_look tb_R_beginKey_2) (am_look tb_R_beginKey_3)))
theorem td_R_beginKey : am_dok prog_3_method_13_code tb_R_beginKey := (am_dok_nd (am_dok_nd (am_dok_lf td_R_beginKey_0) (am_dok_lf td_R_beginKey_1)) (am_dok_nd (am_dok_lf td_R_beginKey_2) (am_dok_lf td_R_beginKey_3)))
def m_R_beginKey : am_M := (⟨"SyntaxRows$Reader", "beginKey", "()I"⟩, prog_3_method_13_code, 2, (some .int), 1, 0, tb_R_beginKey)
set_option maxRecDepth 100000 in
theorem ok_R_beginKey : am_ok m_R_beginKey := ⟨td_R_beginKey, am_in 523 rfl rfl, am_in 101 (by decide +kernel) rfl, by decide, ⟨by decide, by decide, by decide +kernel⟩, rfl, by decide⟩
theorem oi_R_beginKey : am_inst m_R_beginKey := ⟨am_in 522 (by decide +kernel) rfl, am_in 6 (by decide +kernel) rfl⟩
def tb_R_readName_0 : List (Nat × (Instr × Nat)) := [(0, (.aload_n 0, 1)), (1, (.getfield 9, 3)), (4, (.istore_n 2, 1)), (5, (.aload_n 0, 1)), (6, (.getfield 33, 3)), (9, (.iload_n 2, 1)), (10, (.iconst 1, 1)), (11, (.iadd, 1)), (12, (.invokevirtual 190, 3)), (15, (.istore_n 3, 1))]
theorem td_R_readName_0 : ∀ q ∈ tb_R_readName_0, decode prog_3_method_15_code q.1 = .ok q.2 := by decide +kernel
def tb_R_readName_1 : List (Nat × (Instr × Nat)) := [(16, (.aload_n 0, 1)), (17, (.getfield 37, 3)), (20, (.iload_n 1, 1)), (21, (.iconst 4, 1)), (22, (.lconst 0, 1)), (23, (.invokevirtual 155, 3)), (26, (.aload_n 0, 1)), (27, (.dup, 1)), (28, (.getfield 9, 3)), (31, (.iconst 1, 1))]
theorem td_R_readName_1 : ∀ q ∈ tb_R_readName_1, decode prog_3_method_15_code q.1 = .ok q.2 := by decide +kernel
def tb_R_readName_2 : List (Nat × (Instr × Nat)) := [(32, (.iadd, 1)), (33, (.putfield 9, 3)), (36, (.iconst 0, 1)), (37, (.istore 4, 2)), (39, (.iload 4, 2)), (41, (.sipush 1600, 3)), (44, (.if_icmp .ge 162, 3)), (47, (.aload_n 0, 1)), (48, (.getfield 9, 3)), (51, (.iload_n 3, 1))]
theorem td_R_readName_2 : ∀ q ∈ tb_R_readName_2, decode prog_3_method_15_code q.1 = .ok q.2 := by decide +kernel
def tb_R_readName_3 : List (Nat × (Instr × Nat)) := [(52, (.if_icmp .ge 154, 3)), (55, (.aload_n 0, 1)), (56, (.getfield 33, 3)), (59, (.aload_n 0, 1)), (60, (.getfield 9, 3)), (63, (.invokevirtual 125, 3)), (66, (.istore 5, 2)), (68, (.aload_n 0, 1)), (69, (.getfield 33, 3)), (72, (.aload_n 0, 1))]
theorem td_R_readName_3 : ∀ q ∈ tb_R_readName_3, decode prog_3_method_15_code q.1 = .ok q.2 := by decide +kernel
def tb_R_readName_4 : List (Nat × (Instr × Nat)) := [(73, (.getfield 9, 3)), (76, (.iconst 1, 1)), (77, (.iadd, 1)), (78, (.invokevirtual 125, 3)), (81, (.invokestatic 193, 3)), (84, (.istore 6, 2)), (86, (.aload_n 0, 1)), (87, (.getfield 33, 3)), (90, (.aload_n 0, 1)), (91, (.getfield 9, 3))]
theorem td_R_readName_4 : ∀ q ∈ tb_R_readName_4, decode prog_3_method_15_code q.1 = .ok q.2 := by decide +kernel
def tb_R_readName_5 : List (Nat × (Instr × Nat)) := [(94, (.iconst 2, 1)), (95, (.iadd, 1)), (96, (.invokevirtual 125, 3)), (99, (.invokestatic 193, 3)), (102, (.istore 7, 2)), (104, (.iload 5, 2)), (106, (.bipush 35, 2)), (108, (.if_icmp .ne 19, 3)), (111, (.iload 6, 2)), (113, (.iconst (-1), 1))]
theorem td_R_readName_5 : ∀ q ∈ tb_R_readName_5, decode prog_3_method_15_code q.1 = .ok q.2 := by decide +kernel
def tb_R_readName_6 : List (Nat × (Instr × Nat)) := [(114, (.if_icmp .eq 13, 3)), (117, (.iload 7, 2)), (119, (.iconst (-1), 1)), (120, (.if_icmp .eq 7, 3)), (123, (.iconst 1, 1)), (124, (.goto 4, 3)), (127, (.iconst 0, 1)), (128, (.istore 8, 2)), (130, (.iload 8, 2)), (132, (.ifCond .eq 18, 3))]
theorem td_R_readName_6 : ∀ q ∈ tb_R_readName_6, decode prog_3_method_15_code q.1 = .ok q.2 := by decide +kernel
def tb_R_readName_7 : List (Nat × (Instr × Nat)) := [(135, (.iload 6, 2)), (137, (.iload 7, 2)), (139, (.iadd, 1)), (140, (.ifCond .ne 10, 3)), (143, (.aload_n 0, 1)), (144, (.iconst 3, 1)), (145, (.iload_n 2, 1)), (146, (.invokevirtual 122, 3)), (149, (.ireturn, 1)), (150, (.aload_n 0, 1))]
theorem td_R_readName_7 : ∀ q ∈ tb_R_readName_7, decode prog_3_method_15_code q.1 = .ok q.2 := by decide +kernel
def tb_R_readName_8 : List (Nat × (Instr × Nat)) := [(151, (.iload_n 1, 1)), (152, (.iload 8, 2)), (154, (.ifCond .eq 14, 3)), (157, (.iload 6, 2)), (159, (.bipush 16, 2)), (161, (.imul, 1)), (162, (.iload 7, 2)), (164, (.iadd, 1)), (165, (.goto 5, 3)), (168, (.iload 5, 2))]
theorem td_R_readName_8 : ∀ q ∈ tb_R_readName_8, decode prog_3_method_15_code q.1 = .ok q.2 := by decide +kernel
def tb_R_readName_9 : List (Nat × (Instr × Nat)) := [(170, (.bipush 40, 2)), (172, (.iload_n 2, 1)), (173, (.invokevirtual 196, 3)), (176, (.ifCond .ne 5, 3)), (179, (.iconst (-1), 1)), (180, (.ireturn, 1)), (181, (.aload_n 0, 1)), (182, (.dup, 1)), (183, (.getfield 9, 3)), (186, (.iload 8, 2))]
theorem td_R_readName_9 : ∀ q ∈ tb_R_readName_9, decode prog_3_method_15_code q.1 = .ok q.2 := by decide +kernel
def tb_R_readName_10 : List (Nat × (Instr × Nat)) := [(188, (.ifCond .eq 7, 3)), (191, (.iconst 3, 1)), (192, (.goto 4, 3)), (195, (.iconst 1, 1)), (196, (.iadd, 1)), (197, (.putfield 9, 3)), (200, (.iinc 4 1, 3)), (203, (.goto (-164), 3)), (206, (.iload_n 1, 1)), (207, (.ireturn, 1))]
theorem td_R_readName_10 : ∀ q ∈ tb_R_readName_10, decode prog_3_method_15_code q.1 = .ok q.2 := by decide +kernel
def tb_R_readName : Nat → Option (Instr × Nat) := (am_nd 94 (am_nd 32 (am_nd 16 (am_look tb_R_readName_0) (am_look tb_R_readName_1)) (am_nd 52 (am_look tb_R_readName_2) (am_nd 73 (am_look tb_R_readName_3) (am_look tb_R_readName_4)))) (am_nd 151 (am_nd 114 (am_look tb_R_readName_5) (am_nd 135 (am_look tb_R_readName_6) (am_look tb_R_readName_7))) (am_nd 170 (am_look tb_R_readName_8) (am_nd 188 (am_look tb_R_readName_9) (am_look tb_R_readName_10)))))
theorem td_R_readName : am_dok prog_3_method_15_code tb_R_readName := (am_dok_nd (am_dok_nd (am_dok_nd (am_dok_lf td_R_readName_0) (am_dok_lf td_R_readName_1)) (am_dok_nd (am_dok_lf td_R_readName_2) (am_dok_nd (am_dok_lf td_R_readName_3) (am_dok_lf td_R_readName_4)))) (am_dok_nd (am_dok_nd (am_dok_lf td_R_readName_5) (am_dok_nd (am_dok_lf td_R_readName_6) (am_dok_lf td_R_readName_7))) (am_dok_nd (am_dok_lf td_R_readName_8) (am_dok_nd (am_dok_lf td_R_readName_9) (am_dok_lf td_R_readName_10)))))
def m_R_readName : am_M := (⟨"SyntaxRows$Reader", "readName", "(I)I"⟩, prog_3_method_15_code, 9, (some .int), 1, 1, tb_R_readName)
set_option maxRecDepth 100000 in
theorem ok_R_readName : am_ok m_R_readName := ⟨td_R_readName, am_in 527 rfl rfl, am_in 101 (by decide +kernel) rfl, by decide, ⟨by decide, by decide, by decide +kernel⟩, rfl, by decide⟩
theorem oi_R_readName : am_inst m_R_readName := ⟨am_in 526 (by decide +kernel) rfl, am_in 7 (by decide +kernel) rfl⟩
def tb_R_putByte_0 : List (Nat × (Instr × Nat)) := [(0, (.aload_n 0, 1)), (1, (.getfield 37, 3)), (4, (.iload_n 1, 1)), (5, (.invokevirtual 200, 3)), (8, (.iload_n 3, 1)), (9, (.if_icmp .lt 13, 3)), (12, (.aload_n 0, 1)), (13, (.iconst 3, 1)), (14, (.iload 4, 2)), (16, (.invokevirtual 122, 3))]
theorem td_R_putByte_0 : ∀ q ∈ tb_R_putByte_0, decode prog_3_method_16_code q.1 = .ok q.2 := by decide +kernel
def tb_R_putByte_1 : List (Nat × (Instr × Nat)) := [(19, (.pop, 1)), (20, (.iconst 0, 1)), (21, (.ireturn, 1)), (22, (.aload_n 0, 1)), (23, (.getfield 37, 3)), (26, (.iload_n 1, 1)), (27, (.iload_n 2, 1)), (28, (.invokevirtual 203, 3)), (31, (.ifCond .ne 14, 3)), (34, (.aload_n 0, 1))]
theorem td_R_putByte_1 : ∀ q ∈ tb_R_putByte_1, decode prog_3_method_16_code q.1 = .ok q.2 := by decide +kernel
def tb_R_putByte_2 : List (Nat × (Instr × Nat)) := [(35, (.bipush 6, 2)), (37, (.iload 4, 2)), (39, (.invokevirtual 122, 3)), (42, (.pop, 1)), (43, (.iconst 0, 1)), (44, (.ireturn, 1)), (45, (.iconst 1, 1)), (46, (.ireturn, 1))]
theorem td_R_putByte_2 : ∀ q ∈ tb_R_putByte_2, decode prog_3_method_16_code q.1 = .ok q.2 := by decide +kernel
def tb_R_putByte : Nat → Option (Instr × Nat) := (am_nd 19 (am_look tb_R_putByte_0) (am_nd 35 (am_look tb_R_putByte_1) (am_look tb_R_putByte_2)))
theorem td_R_putByte : am_dok prog_3_method_16_code tb_R_putByte := (am_dok_nd (am_dok_lf td_R_putByte_0) (am_dok_nd (am_dok_lf td_R_putByte_1) (am_dok_lf td_R_putByte_2)))
def m_R_putByte : am_M := (⟨"SyntaxRows$Reader", "putByte", "(IIII)Z"⟩, prog_3_method_16_code, 5, (some .boolean), 1, 4, tb_R_putByte)
set_option maxRecDepth 100000 in
theorem ok_R_putByte : am_ok m_R_putByte := ⟨td_R_putByte, am_in 539 rfl rfl, am_in 101 (by decide +kernel) rfl, by decide, ⟨by decide, by decide, by decide +kernel⟩, rfl, by decide⟩
theorem oi_R_putByte : am_inst m_R_putByte := ⟨am_in 538 (by decide +kernel) rfl, am_in 8 (by decide +kernel) rfl⟩
def tb_R_enter_0 : List (Nat × (Instr × Nat)) := [(0, (.aload_n 0, 1)), (1, (.getfield 37, 3)), (4, (.iload_n 3, 1)), (5, (.invokevirtual 177, 3)), (8, (.ifCond .ne 7, 3)), (11, (.iconst 1, 1)), (12, (.goto 4, 3)), (15, (.iconst 0, 1)), (16, (.istore 5, 2)), (18, (.iload 4, 2))]
theorem td_R_enter_0 : ∀ q ∈ tb_R_enter_0, decode prog_3_method_14_code q.1 = .ok q.2 := by decide +kernel
def tb_R_enter_1 : List (Nat × (Instr × Nat)) := [(20, (.iconst (-1), 1)), (21, (.if_icmp .ne 19, 3)), (24, (.iload 5, 2)), (26, (.ifCond .ne 13, 3)), (29, (.aload_n 0, 1)), (30, (.getfield 37, 3)), (33, (.iload_n 1, 1)), (34, (.iload_n 2, 1)), (35, (.iload_n 3, 1)), (36, (.invokevirtual 180, 3))]
theorem td_R_enter_1 : ∀ q ∈ tb_R_enter_1, decode prog_3_method_14_code q.1 = .ok q.2 := by decide +kernel
def tb_R_enter_2 : List (Nat × (Instr × Nat)) := [(39, (.return_, 1)), (40, (.aload_n 0, 1)), (41, (.dup, 1)), (42, (.getfield 21, 3)), (45, (.iconst 2, 1)), (46, (.ior, 1)), (47, (.putfield 21, 3)), (50, (.iload 5, 2)), (52, (.ifCond .eq 16, 3)), (55, (.aload_n 0, 1))]
theorem td_R_enter_2 : ∀ q ∈ tb_R_enter_2, decode prog_3_method_14_code q.1 = .ok q.2 := by decide +kernel
def tb_R_enter_3 : List (Nat × (Instr × Nat)) := [(56, (.getfield 37, 3)), (59, (.iload_n 1, 1)), (60, (.iload 4, 2)), (62, (.invokevirtual 184, 3)), (65, (.goto 13, 3)), (68, (.aload_n 0, 1)), (69, (.getfield 37, 3)), (72, (.iload 4, 2)), (74, (.iload_n 3, 1)), (75, (.invokevirtual 187, 3))]
theorem td_R_enter_3 : ∀ q ∈ tb_R_enter_3, decode prog_3_method_14_code q.1 = .ok q.2 := by decide +kernel
def tb_R_enter_4 : List (Nat × (Instr × Nat)) := [(78, (.return_, 1))]
theorem td_R_enter_4 : ∀ q ∈ tb_R_enter_4, decode prog_3_method_14_code q.1 = .ok q.2 := by decide +kernel
def tb_R_enter : Nat → Option (Instr × Nat) := (am_nd 39 (am_nd 20 (am_look tb_R_enter_0) (am_look tb_R_enter_1)) (am_nd 56 (am_look tb_R_enter_2) (am_nd 78 (am_look tb_R_enter_3) (am_look tb_R_enter_4))))
theorem td_R_enter : am_dok prog_3_method_14_code tb_R_enter := (am_dok_nd (am_dok_nd (am_dok_lf td_R_enter_0) (am_dok_lf td_R_enter_1)) (am_dok_nd (am_dok_lf td_R_enter_2) (am_dok_nd (am_dok_lf td_R_enter_3) (am_dok_lf td_R_enter_4))))
def m_R_enter : am_M := (⟨"SyntaxRows$Reader", "enter", "(IIII)V"⟩, prog_3_method_14_code, 6, none, 1, 4, tb_R_enter)
set_option maxRecDepth 100000 in
theorem ok_R_enter : am_ok m_R_enter := ⟨td_R_enter, am_in 572 rfl rfl, am_in 101 (by decide +kernel) rfl, by decide, ⟨by decide, by decide, by decide +kernel⟩, rfl, by decide⟩
theorem oi_R_enter : am_inst m_R_enter := ⟨am_in 571 (by decide +kernel) rfl, am_in 10 (by decide +kernel) rfl⟩
def tb_R_readArray_0 : List (Nat × (Instr × Nat)) := [(0, (.aload_n 0, 1)), (1, (.getfield 37, 3)), (4, (.iload_n 1, 1)), (5, (.bipush 6, 2)), (7, (.lconst 0, 1)), (8, (.invokevirtual 155, 3)), (11, (.aload_n 0, 1)), (12, (.dup, 1)), (13, (.getfield 9, 3)), (16, (.iconst 1, 1))]
theorem td_R_readArray_0 : ∀ q ∈ tb_R_readArray_0, decode prog_3_method_11_code q.1 = .ok q.2 := by decide +kernel
def tb_R_readArray_1 : List (Nat × (Instr × Nat)) := [(17, (.iadd, 1)), (18, (.putfield 9, 3)), (21, (.iconst 0, 1)), (22, (.istore_n 3, 1)), (23, (.iload_n 3, 1)), (24, (.sipush 1600, 3)), (27, (.if_icmp .gt 74, 3)), (30, (.aload_n 0, 1)), (31, (.getfield 15, 3)), (34, (.ifCond .ne 67, 3))]
theorem td_R_readArray_1 : ∀ q ∈ tb_R_readArray_1, decode prog_3_method_11_code q.1 = .ok q.2 := by decide +kernel
def tb_R_readArray_2 : List (Nat × (Instr × Nat)) := [(37, (.aload_n 0, 1)), (38, (.aload_n 0, 1)), (39, (.getfield 33, 3)), (42, (.aload_n 0, 1)), (43, (.getfield 9, 3)), (46, (.invokevirtual 56, 3)), (49, (.putfield 9, 3)), (52, (.aload_n 0, 1)), (53, (.getfield 33, 3)), (56, (.aload_n 0, 1))]
theorem td_R_readArray_2 : ∀ q ∈ tb_R_readArray_2, decode prog_3_method_11_code q.1 = .ok q.2 := by decide +kernel
def tb_R_readArray_3 : List (Nat × (Instr × Nat)) := [(57, (.getfield 9, 3)), (60, (.invokevirtual 125, 3)), (63, (.bipush 93, 2)), (65, (.if_icmp .ne 15, 3)), (68, (.aload_n 0, 1)), (69, (.dup, 1)), (70, (.getfield 9, 3)), (73, (.iconst 1, 1)), (74, (.iadd, 1)), (75, (.putfield 9, 3))]
theorem td_R_readArray_3 : ∀ q ∈ tb_R_readArray_3, decode prog_3_method_11_code q.1 = .ok q.2 := by decide +kernel
def tb_R_readArray_4 : List (Nat × (Instr × Nat)) := [(78, (.iload_n 1, 1)), (79, (.ireturn, 1)), (80, (.aload_n 0, 1)), (81, (.getfield 37, 3)), (84, (.iload_n 1, 1)), (85, (.aload_n 0, 1)), (86, (.iload_n 2, 1)), (87, (.iconst 1, 1)), (88, (.iadd, 1)), (89, (.invokevirtual 104, 3))]
theorem td_R_readArray_4 : ∀ q ∈ tb_R_readArray_4, decode prog_3_method_11_code q.1 = .ok q.2 := by decide +kernel
def tb_R_readArray_5 : List (Nat × (Instr × Nat)) := [(92, (.invokevirtual 159, 3)), (95, (.iinc 3 1, 3)), (98, (.goto (-75), 3)), (101, (.iconst (-1), 1)), (102, (.ireturn, 1))]
theorem td_R_readArray_5 : ∀ q ∈ tb_R_readArray_5, decode prog_3_method_11_code q.1 = .ok q.2 := by decide +kernel
def tb_R_readArray : Nat → Option (Instr × Nat) := (am_nd 57 (am_nd 17 (am_look tb_R_readArray_0) (am_nd 37 (am_look tb_R_readArray_1) (am_look tb_R_readArray_2))) (am_nd 78 (am_look tb_R_readArray_3) (am_nd 92 (am_look tb_R_readArray_4) (am_look tb_R_readArray_5))))
theorem td_R_readArray : am_dok prog_3_method_11_code tb_R_readArray := (am_dok_nd (am_dok_nd (am_dok_lf td_R_readArray_0) (am_dok_nd (am_dok_lf td_R_readArray_1) (am_dok_lf td_R_readArray_2))) (am_dok_nd (am_dok_lf td_R_readArray_3) (am_dok_nd (am_dok_lf td_R_readArray_4) (am_dok_lf td_R_readArray_5))))
def m_R_readArray : am_M := (⟨"SyntaxRows$Reader", "readArray", "(II)I"⟩, prog_3_method_11_code, 4, (some .int), 1, 2, tb_R_readArray)
set_option maxRecDepth 100000 in
theorem ok_R_readArray : am_ok m_R_readArray := ⟨td_R_readArray, am_in 596 rfl rfl, am_in 101 (by decide +kernel) rfl, by decide, ⟨by decide, by decide, by decide +kernel⟩, rfl, by decide⟩
theorem oi_R_readArray : am_inst m_R_readArray := ⟨am_in 595 (by decide +kernel) rfl, am_in 12 (by decide +kernel) rfl⟩
def tb_R_readString_0 : List (Nat × (Instr × Nat)) := [(0, (.aload_n 0, 1)), (1, (.getfield 9, 3)), (4, (.istore_n 2, 1)), (5, (.iconst 1, 1)), (6, (.istore_n 3, 1)), (7, (.aload_n 0, 1)), (8, (.getfield 37, 3)), (11, (.iload_n 1, 1)), (12, (.iconst 5, 1)), (13, (.lconst 0, 1))]
theorem td_R_readString_0 : ∀ q ∈ tb_R_readString_0, decode prog_3_method_17_code q.1 = .ok q.2 := by decide +kernel
def tb_R_readString_1 : List (Nat × (Instr × Nat)) := [(14, (.invokevirtual 155, 3)), (17, (.aload_n 0, 1)), (18, (.dup, 1)), (19, (.getfield 9, 3)), (22, (.iconst 1, 1)), (23, (.iadd, 1)), (24, (.putfield 9, 3)), (27, (.iconst 0, 1)), (28, (.istore 4, 2)), (30, (.iload 4, 2))]
theorem td_R_readString_1 : ∀ q ∈ tb_R_readString_1, decode prog_3_method_17_code q.1 = .ok q.2 := by decide +kernel
def tb_R_readString_2 : List (Nat × (Instr × Nat)) := [(32, (.sipush 1600, 3)), (35, (.if_icmp .ge 169, 3)), (38, (.aload_n 0, 1)), (39, (.getfield 9, 3)), (42, (.aload_n 0, 1)), (43, (.getfield 33, 3)), (46, (.invokevirtual 62, 3)), (49, (.if_icmp .ge 155, 3)), (52, (.aload_n 0, 1)), (53, (.getfield 33, 3))]
theorem td_R_readString_2 : ∀ q ∈ tb_R_readString_2, decode prog_3_method_17_code q.1 = .ok q.2 := by decide +kernel
def tb_R_readString_3 : List (Nat × (Instr × Nat)) := [(56, (.aload_n 0, 1)), (57, (.getfield 9, 3)), (60, (.invokevirtual 125, 3)), (63, (.istore 5, 2)), (65, (.iload 5, 2)), (67, (.bipush 41, 2)), (69, (.if_icmp .ne 20, 3)), (72, (.iload_n 3, 1)), (73, (.iconst 1, 1)), (74, (.if_icmp .ne 15, 3))]
theorem td_R_readString_3 : ∀ q ∈ tb_R_readString_3, decode prog_3_method_17_code q.1 = .ok q.2 := by decide +kernel
def tb_R_readString_4 : List (Nat × (Instr × Nat)) := [(77, (.aload_n 0, 1)), (78, (.dup, 1)), (79, (.getfield 9, 3)), (82, (.iconst 1, 1)), (83, (.iadd, 1)), (84, (.putfield 9, 3)), (87, (.iload_n 1, 1)), (88, (.ireturn, 1)), (89, (.iload 5, 2)), (91, (.istore 6, 2))]
theorem td_R_readString_4 : ∀ q ∈ tb_R_readString_4, decode prog_3_method_17_code q.1 = .ok q.2 := by decide +kernel
def tb_R_readString_5 : List (Nat × (Instr × Nat)) := [(93, (.iload 5, 2)), (95, (.bipush 92, 2)), (97, (.if_icmp .ne 12, 3)), (100, (.aload_n 0, 1)), (101, (.invokevirtual 207, 3)), (104, (.istore 6, 2)), (106, (.goto 69, 3)), (109, (.iload 5, 2)), (111, (.invokestatic 210, 3)), (114, (.ifCond .eq 25, 3))]
theorem td_R_readString_5 : ∀ q ∈ tb_R_readString_5, decode prog_3_method_17_code q.1 = .ok q.2 := by decide +kernel
def tb_R_readString_6 : List (Nat × (Instr × Nat)) := [(117, (.bipush 10, 2)), (119, (.istore 6, 2)), (121, (.aload_n 0, 1)), (122, (.aload_n 0, 1)), (123, (.getfield 33, 3)), (126, (.aload_n 0, 1)), (127, (.getfield 9, 3)), (130, (.invokevirtual 213, 3)), (133, (.putfield 9, 3)), (136, (.goto 39, 3))]
theorem td_R_readString_6 : ∀ q ∈ tb_R_readString_6, decode prog_3_method_17_code q.1 = .ok q.2 := by decide +kernel
def tb_R_readString_7 : List (Nat × (Instr × Nat)) := [(139, (.iload_n 3, 1)), (140, (.iload 5, 2)), (142, (.bipush 40, 2)), (144, (.if_icmp .ne 7, 3)), (147, (.iconst 1, 1)), (148, (.goto 15, 3)), (151, (.iload 5, 2)), (153, (.bipush 41, 2)), (155, (.if_icmp .ne 7, 3)), (158, (.iconst (-1), 1))]
theorem td_R_readString_7 : ∀ q ∈ tb_R_readString_7, decode prog_3_method_17_code q.1 = .ok q.2 := by decide +kernel
def tb_R_readString_8 : List (Nat × (Instr × Nat)) := [(159, (.goto 4, 3)), (162, (.iconst 0, 1)), (163, (.iadd, 1)), (164, (.istore_n 3, 1)), (165, (.aload_n 0, 1)), (166, (.dup, 1)), (167, (.getfield 9, 3)), (170, (.iconst 1, 1)), (171, (.iadd, 1)), (172, (.putfield 9, 3))]
theorem td_R_readString_8 : ∀ q ∈ tb_R_readString_8, decode prog_3_method_17_code q.1 = .ok q.2 := by decide +kernel
def tb_R_readString_9 : List (Nat × (Instr × Nat)) := [(175, (.iload 6, 2)), (177, (.bipush (-2), 2)), (179, (.if_icmp .eq 19, 3)), (182, (.aload_n 0, 1)), (183, (.iload_n 1, 1)), (184, (.iload 6, 2)), (186, (.sipush 200, 3)), (189, (.iload_n 2, 1)), (190, (.invokevirtual 196, 3)), (193, (.ifCond .ne 5, 3))]
theorem td_R_readString_9 : ∀ q ∈ tb_R_readString_9, decode prog_3_method_17_code q.1 = .ok q.2 := by decide +kernel
def tb_R_readString_10 : List (Nat × (Instr × Nat)) := [(196, (.iconst (-1), 1)), (197, (.ireturn, 1)), (198, (.iinc 4 1, 3)), (201, (.goto (-171), 3)), (204, (.aload_n 0, 1)), (205, (.iconst 1, 1)), (206, (.aload_n 0, 1)), (207, (.getfield 33, 3)), (210, (.invokevirtual 62, 3)), (213, (.invokevirtual 122, 3))]
theorem td_R_readString_10 : ∀ q ∈ tb_R_readString_10, decode prog_3_method_17_code q.1 = .ok q.2 := by decide +kernel
def tb_R_readString_11 : List (Nat × (Instr × Nat)) := [(216, (.ireturn, 1))]
theorem td_R_readString_11 : ∀ q ∈ tb_R_readString_11, decode prog_3_method_17_code q.1 = .ok q.2 := by decide +kernel
def tb_R_readString : Nat → Option (Instr × Nat) := (am_nd 117 (am_nd 56 (am_nd 14 (am_look tb_R_readString_0) (am_nd 32 (am_look tb_R_readString_1) (am_look tb_R_readString_2))) (am_nd 77 (am_look tb_R_readString_3) (am_nd 93 (am_look tb_R_readString_4) (am_look tb_R_readString_5)))) (am_nd 175 (am_nd 139 (am_look tb_R_readString_6) (am_nd 159 (am_look tb_R_readString_7) (am_look tb_R_readString_8))) (am_nd 196 (am_look tb_R_readString_9) (am_nd 216 (am_look tb_R_readString_10) (am_look tb_R_readString_11)))))
theorem td_R_readString : am_dok prog_3_method_17_code tb_R_readString := (am_dok_nd (am_dok_nd (am_dok_nd (am_dok_lf td_R_readString_0) (am_dok_nd (am_dok_lf td_R_readString_1) (am_dok_lf td_R_readString_2))) (am_dok_nd (am_dok_lf td_R_readString_3) (am_dok_nd (am_dok_lf td_R_readString_4) (am_dok_lf td_R_readString_5)))) (am_dok_nd (am_dok_nd (am_dok_lf td_R_readString_6) (am_dok_nd (am_dok_lf td_R_readString_7) (am_dok_lf td_R_readString_8))) (am_dok_nd (am_dok_lf td_R_readString_9) (am_dok_nd (am_dok_lf td_R_readString_10) (am_dok_lf td_R_readString_11)))))
def m_R_readString : am_M := (⟨"SyntaxRows$Reader", "readString", "(I)I"⟩, prog_3_method_17_code, 7, (some .int), 1, 1, tb_R_readString)
set_option maxRecDepth 100000 in
theorem ok_R_readString : am_ok m_R_readString := ⟨td_R_readString, am_in 604 rfl rfl, am_in 101 (by decide +kernel) rfl, by decide, ⟨by decide, by decide, by decide +kernel⟩, rfl, by decide⟩
theorem oi_R_readString : am_inst m_R_readString := ⟨am_in 603 (by decide +kernel) rfl, am_in 13 (by decide +kernel) rfl⟩
def tb_R_readEscape_0 : List (Nat × (Instr × Nat)) := [(0, (.aload_n 0, 1)), (1, (.dup, 1)), (2, (.getfield 9, 3)), (5, (.iconst 1, 1)), (6, (.iadd, 1)), (7, (.putfield 9, 3)), (10, (.aload_n 0, 1)), (11, (.getfield 33, 3)), (14, (.aload_n 0, 1)), (15, (.getfield 9, 3))]
theorem td_R_readEscape_0 : ∀ q ∈ tb_R_readEscape_0, decode prog_3_method_18_code q.1 = .ok q.2 := by decide +kernel
def tb_R_readEscape_1 : List (Nat × (Instr × Nat)) := [(18, (.invokevirtual 125, 3)), (21, (.istore_n 1, 1)), (22, (.iload_n 1, 1)), (23, (.iconst (-1), 1)), (24, (.if_icmp .ne 6, 3)), (27, (.bipush (-2), 2)), (29, (.ireturn, 1)), (30, (.iload_n 1, 1)), (31, (.invokestatic 210, 3)), (34, (.ifCond .eq 21, 3))]
theorem td_R_readEscape_1 : ∀ q ∈ tb_R_readEscape_1, decode prog_3_method_18_code q.1 = .ok q.2 := by decide +kernel
def tb_R_readEscape_2 : List (Nat × (Instr × Nat)) := [(37, (.aload_n 0, 1)), (38, (.aload_n 0, 1)), (39, (.getfield 33, 3)), (42, (.aload_n 0, 1)), (43, (.getfield 9, 3)), (46, (.invokevirtual 213, 3)), (49, (.putfield 9, 3)), (52, (.bipush (-2), 2)), (54, (.ireturn, 1)), (55, (.iload_n 1, 1))]
theorem td_R_readEscape_2 : ∀ q ∈ tb_R_readEscape_2, decode prog_3_method_18_code q.1 = .ok q.2 := by decide +kernel
def tb_R_readEscape_3 : List (Nat × (Instr × Nat)) := [(56, (.bipush 48, 2)), (58, (.if_icmp .lt 14, 3)), (61, (.iload_n 1, 1)), (62, (.bipush 55, 2)), (64, (.if_icmp .gt 8, 3)), (67, (.aload_n 0, 1)), (68, (.invokevirtual 216, 3)), (71, (.ireturn, 1)), (72, (.aload_n 0, 1)), (73, (.dup, 1))]
theorem td_R_readEscape_3 : ∀ q ∈ tb_R_readEscape_3, decode prog_3_method_18_code q.1 = .ok q.2 := by decide +kernel
def tb_R_readEscape_4 : List (Nat × (Instr × Nat)) := [(74, (.getfield 9, 3)), (77, (.iconst 1, 1)), (78, (.iadd, 1)), (79, (.putfield 9, 3)), (82, (.iload_n 1, 1)), (83, (.lookupswitch 64 #[(98, 58), (102, 61), (110, 49), (114, 52), (116, 55)], 49)), (132, (.bipush 10, 2)), (134, (.ireturn, 1)), (135, (.bipush 13, 2)), (137, (.ireturn, 1))]
theorem td_R_readEscape_4 : ∀ q ∈ tb_R_readEscape_4, decode prog_3_method_18_code q.1 = .ok q.2 := by decide +kernel
def tb_R_readEscape_5 : List (Nat × (Instr × Nat)) := [(138, (.bipush 9, 2)), (140, (.ireturn, 1)), (141, (.bipush 8, 2)), (143, (.ireturn, 1)), (144, (.bipush 12, 2)), (146, (.ireturn, 1)), (147, (.iload_n 1, 1)), (148, (.ireturn, 1))]
theorem td_R_readEscape_5 : ∀ q ∈ tb_R_readEscape_5, decode prog_3_method_18_code q.1 = .ok q.2 := by decide +kernel
def tb_R_readEscape : Nat → Option (Instr × Nat) := (am_nd 56 (am_nd 18 (am_look tb_R_readEscape_0) (am_nd 37 (am_look tb_R_readEscape_1) (am_look tb_R_readEscape_2))) (am_nd 74 (am_look tb_R_readEscape_3) (am_nd 138 (am_look tb_R_readEscape_4) (am_look tb_R_readEscape_5))))
theorem td_R_readEscape : am_dok prog_3_method_18_code tb_R_readEscape := (am_dok_nd (am_dok_nd (am_dok_lf td_R_readEscape_0) (am_dok_nd (am_dok_lf td_R_readEscape_1) (am_dok_lf td_R_readEscape_2))) (am_dok_nd (am_dok_lf td_R_readEscape_3) (am_dok_nd (am_dok_lf td_R_readEscape_4) (am_dok_lf td_R_readEscape_5))))
def m_R_readEscape : am_M := (⟨"SyntaxRows$Reader", "readEscape", "()I"⟩, prog_3_method_18_code, 2, (some .int), 1, 0, tb_R_readEscape)
set_option maxRecDepth 100000 in
theorem ok_R_readEscape : am_ok m_R_readEscape := ⟨td_R_readEscape, am_in 608 rfl rfl, am_in 101 (by decide +kernel) rfl, by decide, ⟨by decide, by decide, by decide +kernel⟩, rfl, by decide⟩
theorem oi_R_readEscape : am_inst m_R_readEscape := ⟨am_in 607 (by decide +kernel) rfl, am_in 14 (by decide +kernel) rfl⟩
def tb_R_readOctal_0 : List (Nat × (Instr × Nat)) := [(0, (.iconst 0, 1)), (1, (.istore_n 1, 1)), (2, (.iconst 0, 1)), (3, (.istore_n 2, 1)), (4, (.iload_n 2, 1)), (5, (.iconst 3, 1)), (6, (.if_icmp .ge 71, 3)), (9, (.aload_n 0, 1)), (10, (.getfield 33, 3)), (13, (.aload_n 0, 1))]
theorem td_R_readOctal_0 : ∀ q ∈ tb_R_readOctal_0, decode prog_3_method_19_code q.1 = .ok q.2 := by decide +kernel
def tb_R_readOctal_1 : List (Nat × (Instr × Nat)) := [(14, (.getfield 9, 3)), (17, (.invokevirtual 125, 3)), (20, (.bipush 48, 2)), (22, (.if_icmp .lt 55, 3)), (25, (.aload_n 0, 1)), (26, (.getfield 33, 3)), (29, (.aload_n 0, 1)), (30, (.getfield 9, 3)), (33, (.invokevirtual 125, 3)), (36, (.bipush 55, 2))]
theorem td_R_readOctal_1 : ∀ q ∈ tb_R_readOctal_1, decode prog_3_method_19_code q.1 = .ok q.2 := by decide +kernel
def tb_R_readOctal_2 : List (Nat × (Instr × Nat)) := [(38, (.if_icmp .gt 39, 3)), (41, (.iload_n 1, 1)), (42, (.bipush 8, 2)), (44, (.imul, 1)), (45, (.aload_n 0, 1)), (46, (.getfield 33, 3)), (49, (.aload_n 0, 1)), (50, (.getfield 9, 3)), (53, (.invokevirtual 125, 3)), (56, (.iadd, 1))]
theorem td_R_readOctal_2 : ∀ q ∈ tb_R_readOctal_2, decode prog_3_method_19_code q.1 = .ok q.2 := by decide +kernel
def tb_R_readOctal_3 : List (Nat × (Instr × Nat)) := [(57, (.bipush 48, 2)), (59, (.isub, 1)), (60, (.istore_n 1, 1)), (61, (.aload_n 0, 1)), (62, (.dup, 1)), (63, (.getfield 9, 3)), (66, (.iconst 1, 1)), (67, (.iadd, 1)), (68, (.putfield 9, 3)), (71, (.iinc 2 1, 3))]
theorem td_R_readOctal_3 : ∀ q ∈ tb_R_readOctal_3, decode prog_3_method_19_code q.1 = .ok q.2 := by decide +kernel
def tb_R_readOctal_4 : List (Nat × (Instr × Nat)) := [(74, (.goto (-70), 3)), (77, (.iload_n 1, 1)), (78, (.sipush 255, 3)), (81, (.iand, 1)), (82, (.ireturn, 1))]
theorem td_R_readOctal_4 : ∀ q ∈ tb_R_readOctal_4, decode prog_3_method_19_code q.1 = .ok q.2 := by decide +kernel
def tb_R_readOctal : Nat → Option (Instr × Nat) := (am_nd 38 (am_nd 14 (am_look tb_R_readOctal_0) (am_look tb_R_readOctal_1)) (am_nd 57 (am_look tb_R_readOctal_2) (am_nd 74 (am_look tb_R_readOctal_3) (am_look tb_R_readOctal_4))))
theorem td_R_readOctal : am_dok prog_3_method_19_code tb_R_readOctal := (am_dok_nd (am_dok_nd (am_dok_lf td_R_readOctal_0) (am_dok_lf td_R_readOctal_1)) (am_dok_nd (am_dok_lf td_R_readOctal_2) (am_dok_nd (am_dok_lf td_R_readOctal_3) (am_dok_lf td_R_readOctal_4))))
def m_R_readOctal : am_M := (⟨"SyntaxRows$Reader", "readOctal", "()I"⟩, prog_3_method_19_code, 3, (some .int), 1, 0, tb_R_readOctal)
set_option maxRecDepth 100000 in
theorem ok_R_readOctal : am_ok m_R_readOctal := ⟨td_R_readOctal, am_in 617 rfl rfl, am_in 101 (by decide +kernel) rfl, by decide, ⟨by decide, by decide, by decide +kernel⟩, rfl, by decide⟩
theorem oi_R_readOctal : am_inst m_R_readOctal := ⟨am_in 616 (by decide +kernel) rfl, am_in 15 (by decide +kernel) rfl⟩
def tb_R_readFigureString_0 : List (Nat × (Instr × Nat)) := [(0, (.aload_n 0, 1)), (1, (.getfield 9, 3)), (4, (.istore_n 2, 1)), (5, (.iconst (-1), 1)), (6, (.istore_n 3, 1)), (7, (.aload_n 0, 1)), (8, (.getfield 37, 3)), (11, (.iload_n 1, 1)), (12, (.iconst 5, 1)), (13, (.lconst 0, 1))]
theorem td_R_readFigureString_0 : ∀ q ∈ tb_R_readFigureString_0, decode prog_3_method_20_code q.1 = .ok q.2 := by decide +kernel
def tb_R_readFigureString_1 : List (Nat × (Instr × Nat)) := [(14, (.invokevirtual 155, 3)), (17, (.aload_n 0, 1)), (18, (.dup, 1)), (19, (.getfield 9, 3)), (22, (.iconst 1, 1)), (23, (.iadd, 1)), (24, (.putfield 9, 3)), (27, (.iconst 0, 1)), (28, (.istore 4, 2)), (30, (.iload 4, 2))]
theorem td_R_readFigureString_1 : ∀ q ∈ tb_R_readFigureString_1, decode prog_3_method_20_code q.1 = .ok q.2 := by decide +kernel
def tb_R_readFigureString_2 : List (Nat × (Instr × Nat)) := [(32, (.sipush 1600, 3)), (35, (.if_icmp .ge 138, 3)), (38, (.aload_n 0, 1)), (39, (.getfield 9, 3)), (42, (.aload_n 0, 1)), (43, (.getfield 33, 3)), (46, (.invokevirtual 62, 3)), (49, (.if_icmp .ge 124, 3)), (52, (.aload_n 0, 1)), (53, (.getfield 33, 3))]
theorem td_R_readFigureString_2 : ∀ q ∈ tb_R_readFigureString_2, decode prog_3_method_20_code q.1 = .ok q.2 := by decide +kernel
def tb_R_readFigureString_3 : List (Nat × (Instr × Nat)) := [(56, (.aload_n 0, 1)), (57, (.getfield 9, 3)), (60, (.invokevirtual 125, 3)), (63, (.istore 5, 2)), (65, (.iload 5, 2)), (67, (.bipush 62, 2)), (69, (.if_icmp .ne 11, 3)), (72, (.aload_n 0, 1)), (73, (.iload_n 1, 1)), (74, (.iload_n 3, 1))]
theorem td_R_readFigureString_3 : ∀ q ∈ tb_R_readFigureString_3, decode prog_3_method_20_code q.1 = .ok q.2 := by decide +kernel
def tb_R_readFigureString_4 : List (Nat × (Instr × Nat)) := [(75, (.iload_n 2, 1)), (76, (.invokevirtual 219, 3)), (79, (.ireturn, 1)), (80, (.iload 5, 2)), (82, (.invokestatic 193, 3)), (85, (.istore 6, 2)), (87, (.iload 6, 2)), (89, (.iconst (-1), 1)), (90, (.if_icmp .ne 21, 3)), (93, (.iload 5, 2))]
theorem td_R_readFigureString_4 : ∀ q ∈ tb_R_readFigureString_4, decode prog_3_method_20_code q.1 = .ok q.2 := by decide +kernel
def tb_R_readFigureString_5 : List (Nat × (Instr × Nat)) := [(95, (.invokestatic 222, 3)), (98, (.ifCond .ne 13, 3)), (101, (.aload_n 0, 1)), (102, (.iconst 2, 1)), (103, (.aload_n 0, 1)), (104, (.getfield 9, 3)), (107, (.invokevirtual 122, 3)), (110, (.ireturn, 1)), (111, (.iload 6, 2)), (113, (.iconst (-1), 1))]
theorem td_R_readFigureString_5 : ∀ q ∈ tb_R_readFigureString_5, decode prog_3_method_20_code q.1 = .ok q.2 := by decide +kernel
def tb_R_readFigureString_6 : List (Nat × (Instr × Nat)) := [(114, (.if_icmp .eq 14, 3)), (117, (.iload_n 3, 1)), (118, (.iconst (-1), 1)), (119, (.if_icmp .ne 9, 3)), (122, (.iload 6, 2)), (124, (.istore_n 3, 1)), (125, (.goto 32, 3)), (128, (.iload 6, 2)), (130, (.iconst (-1), 1)), (131, (.if_icmp .eq 26, 3))]
theorem td_R_readFigureString_6 : ∀ q ∈ tb_R_readFigureString_6, decode prog_3_method_20_code q.1 = .ok q.2 := by decide +kernel
def tb_R_readFigureString_7 : List (Nat × (Instr × Nat)) := [(134, (.aload_n 0, 1)), (135, (.iload_n 1, 1)), (136, (.iload_n 3, 1)), (137, (.bipush 16, 2)), (139, (.imul, 1)), (140, (.iload 6, 2)), (142, (.iadd, 1)), (143, (.sipush 200, 3)), (146, (.iload_n 2, 1)), (147, (.invokevirtual 196, 3))]
theorem td_R_readFigureString_7 : ∀ q ∈ tb_R_readFigureString_7, decode prog_3_method_20_code q.1 = .ok q.2 := by decide +kernel
def tb_R_readFigureString_8 : List (Nat × (Instr × Nat)) := [(150, (.ifCond .ne 5, 3)), (153, (.iconst (-1), 1)), (154, (.ireturn, 1)), (155, (.iconst (-1), 1)), (156, (.istore_n 3, 1)), (157, (.aload_n 0, 1)), (158, (.dup, 1)), (159, (.getfield 9, 3)), (162, (.iconst 1, 1)), (163, (.iadd, 1))]
theorem td_R_readFigureString_8 : ∀ q ∈ tb_R_readFigureString_8, decode prog_3_method_20_code q.1 = .ok q.2 := by decide +kernel
def tb_R_readFigureString_9 : List (Nat × (Instr × Nat)) := [(164, (.putfield 9, 3)), (167, (.iinc 4 1, 3)), (170, (.goto (-140), 3)), (173, (.aload_n 0, 1)), (174, (.iconst 1, 1)), (175, (.aload_n 0, 1)), (176, (.getfield 33, 3)), (179, (.invokevirtual 62, 3)), (182, (.invokevirtual 122, 3)), (185, (.ireturn, 1))]
theorem td_R_readFigureString_9 : ∀ q ∈ tb_R_readFigureString_9, decode prog_3_method_20_code q.1 = .ok q.2 := by decide +kernel
def tb_R_readFigureString : Nat → Option (Instr × Nat) := (am_nd 95 (am_nd 32 (am_nd 14 (am_look tb_R_readFigureString_0) (am_look tb_R_readFigureString_1)) (am_nd 56 (am_look tb_R_readFigureString_2) (am_nd 75 (am_look tb_R_readFigureString_3) (am_look tb_R_readFigureString_4)))) (am_nd 134 (am_nd 114 (am_look tb_R_readFigureString_5) (am_look tb_R_readFigureString_6)) (am_nd 150 (am_look tb_R_readFigureString_7) (am_nd 164 (am_look tb_R_readFigureString_8) (am_look tb_R_readFigureString_9)))))
theorem td_R_readFigureString : am_dok prog_3_method_20_code tb_R_readFigureString := (am_dok_nd (am_dok_nd (am_dok_nd (am_dok_lf td_R_readFigureString_0) (am_dok_lf td_R_readFigureString_1)) (am_dok_nd (am_dok_lf td_R_readFigureString_2) (am_dok_nd (am_dok_lf td_R_readFigureString_3) (am_dok_lf td_R_readFigureString_4)))) (am_dok_nd (am_dok_nd (am_dok_lf td_R_readFigureString_5) (am_dok_lf td_R_readFigureString_6)) (am_dok_nd (am_dok_lf td_R_readFigureString_7) (am_dok_nd (am_dok_lf td_R_readFigureString_8) (am_dok_lf td_R_readFigureString_9)))))
def m_R_readFigureString : am_M := (⟨"SyntaxRows$Reader", "readFigureString", "(I)I"⟩, prog_3_method_20_code, 7, (some .int), 1, 1, tb_R_readFigureString)
set_option maxRecDepth 100000 in
theorem ok_R_readFigureString : am_ok m_R_readFigureString := ⟨td_R_readFigureString, am_in 621 rfl rfl, am_in 101 (by decide +kernel) rfl, by decide, ⟨by decide, by decide, by decide +kernel⟩, rfl, by decide⟩
theorem oi_R_readFigureString : am_inst m_R_readFigureString := ⟨am_in 620 (by decide +kernel) rfl, am_in 16 (by decide +kernel) rfl⟩
def tb_R_endFigureString_0 : List (Nat × (Instr × Nat)) := [(0, (.aload_n 0, 1)), (1, (.dup, 1)), (2, (.getfield 9, 3)), (5, (.iconst 1, 1)), (6, (.iadd, 1)), (7, (.putfield 9, 3)), (10, (.iload_n 2, 1)), (11, (.iconst (-1), 1)), (12, (.if_icmp .ne 5, 3)), (15, (.iload_n 1, 1))]
theorem td_R_endFigureString_0 : ∀ q ∈ tb_R_endFigureString_0, decode prog_3_method_21_code q.1 = .ok q.2 := by decide +kernel
def tb_R_endFigureString_1 : List (Nat × (Instr × Nat)) := [(16, (.ireturn, 1)), (17, (.aload_n 0, 1)), (18, (.iload_n 1, 1)), (19, (.iload_n 2, 1)), (20, (.bipush 16, 2)), (22, (.imul, 1)), (23, (.sipush 200, 3)), (26, (.iload_n 3, 1)), (27, (.invokevirtual 196, 3)), (30, (.ifCond .ne 5, 3))]
theorem td_R_endFigureString_1 : ∀ q ∈ tb_R_endFigureString_1, decode prog_3_method_21_code q.1 = .ok q.2 := by decide +kernel
def tb_R_endFigureString_2 : List (Nat × (Instr × Nat)) := [(33, (.iconst (-1), 1)), (34, (.ireturn, 1)), (35, (.aload_n 0, 1)), (36, (.dup, 1)), (37, (.getfield 21, 3)), (40, (.iconst 1, 1)), (41, (.ior, 1)), (42, (.putfield 21, 3)), (45, (.iload_n 1, 1)), (46, (.ireturn, 1))]
theorem td_R_endFigureString_2 : ∀ q ∈ tb_R_endFigureString_2, decode prog_3_method_21_code q.1 = .ok q.2 := by decide +kernel
def tb_R_endFigureString : Nat → Option (Instr × Nat) := (am_nd 16 (am_look tb_R_endFigureString_0) (am_nd 33 (am_look tb_R_endFigureString_1) (am_look tb_R_endFigureString_2)))
theorem td_R_endFigureString : am_dok prog_3_method_21_code tb_R_endFigureString := (am_dok_nd (am_dok_lf td_R_endFigureString_0) (am_dok_nd (am_dok_lf td_R_endFigureString_1) (am_dok_lf td_R_endFigureString_2)))
def m_R_endFigureString : am_M := (⟨"SyntaxRows$Reader", "endFigureString", "(III)I"⟩, prog_3_method_21_code, 4, (some .int), 1, 3, tb_R_endFigureString)
set_option maxRecDepth 100000 in
theorem ok_R_endFigureString : am_ok m_R_endFigureString := ⟨td_R_endFigureString, am_in 625 rfl rfl, am_in 101 (by decide +kernel) rfl, by decide, ⟨by decide, by decide, by decide +kernel⟩, rfl, by decide⟩
theorem oi_R_endFigureString : am_inst m_R_endFigureString := ⟨am_in 624 (by decide +kernel) rfl, am_in 17 (by decide +kernel) rfl⟩
def tb_R_readWord_0 : List (Nat × (Instr × Nat)) := [(0, (.aload_n 0, 1)), (1, (.getfield 9, 3)), (4, (.istore_n 2, 1)), (5, (.aload_n 0, 1)), (6, (.iload_n 2, 1)), (7, (.ldc 225, 2)), (9, (.invokevirtual 72, 3)), (12, (.istore_n 3, 1)), (13, (.iload_n 3, 1)), (14, (.iconst (-1), 1))]
theorem td_R_readWord_0 : ∀ q ∈ tb_R_readWord_0, decode prog_3_method_22_code q.1 = .ok q.2 := by decide +kernel
def tb_R_readWord_1 : List (Nat × (Instr × Nat)) := [(15, (.if_icmp .eq 35, 3)), (18, (.aload_n 0, 1)), (19, (.getfield 37, 3)), (22, (.iload_n 1, 1)), (23, (.bipush 8, 2)), (25, (.aload_n 0, 1)), (26, (.getfield 30, 3)), (29, (.i2l, 1)), (30, (.ldc2_w 227, 3)), (33, (.lmul, 1))]
theorem td_R_readWord_1 : ∀ q ∈ tb_R_readWord_1, decode prog_3_method_22_code q.1 = .ok q.2 := by decide +kernel
def tb_R_readWord_2 : List (Nat × (Instr × Nat)) := [(34, (.aload_n 0, 1)), (35, (.getfield 27, 3)), (38, (.i2l, 1)), (39, (.ladd, 1)), (40, (.invokevirtual 155, 3)), (43, (.aload_n 0, 1)), (44, (.iload_n 3, 1)), (45, (.putfield 9, 3)), (48, (.iload_n 1, 1)), (49, (.ireturn, 1))]
theorem td_R_readWord_2 : ∀ q ∈ tb_R_readWord_2, decode prog_3_method_22_code q.1 = .ok q.2 := by decide +kernel
def tb_R_readWord_3 : List (Nat × (Instr × Nat)) := [(50, (.aload_n 0, 1)), (51, (.aload_n 0, 1)), (52, (.getfield 33, 3)), (55, (.iload_n 2, 1)), (56, (.invokevirtual 190, 3)), (59, (.putfield 9, 3)), (62, (.aload_n 0, 1)), (63, (.getfield 33, 3)), (66, (.iload_n 2, 1)), (67, (.ldc 229, 2))]
theorem td_R_readWord_3 : ∀ q ∈ tb_R_readWord_3, decode prog_3_method_22_code q.1 = .ok q.2 := by decide +kernel
def tb_R_readWord_4 : List (Nat × (Instr × Nat)) := [(69, (.invokevirtual 83, 3)), (72, (.ifCond .eq 5, 3)), (75, (.iload_n 1, 1)), (76, (.ireturn, 1)), (77, (.aload_n 0, 1)), (78, (.getfield 33, 3)), (81, (.iload_n 2, 1)), (82, (.ldc 231, 2)), (84, (.invokevirtual 83, 3)), (87, (.ifCond .ne 16, 3))]
theorem td_R_readWord_4 : ∀ q ∈ tb_R_readWord_4, decode prog_3_method_22_code q.1 = .ok q.2 := by decide +kernel
def tb_R_readWord_5 : List (Nat × (Instr × Nat)) := [(90, (.aload_n 0, 1)), (91, (.getfield 33, 3)), (94, (.iload_n 2, 1)), (95, (.ldc 233, 2)), (97, (.invokevirtual 83, 3)), (100, (.ifCond .eq 32, 3)), (103, (.aload_n 0, 1)), (104, (.getfield 37, 3)), (107, (.iload_n 1, 1)), (108, (.iconst 1, 1))]
theorem td_R_readWord_5 : ∀ q ∈ tb_R_readWord_5, decode prog_3_method_22_code q.1 = .ok q.2 := by decide +kernel
def tb_R_readWord_6 : List (Nat × (Instr × Nat)) := [(109, (.aload_n 0, 1)), (110, (.getfield 33, 3)), (113, (.iload_n 2, 1)), (114, (.invokevirtual 125, 3)), (117, (.bipush 116, 2)), (119, (.if_icmp .ne 7, 3)), (122, (.lconst 1, 1)), (123, (.goto 4, 3)), (126, (.lconst 0, 1)), (127, (.invokevirtual 155, 3))]
theorem td_R_readWord_6 : ∀ q ∈ tb_R_readWord_6, decode prog_3_method_22_code q.1 = .ok q.2 := by decide +kernel
def tb_R_readWord_7 : List (Nat × (Instr × Nat)) := [(130, (.iload_n 1, 1)), (131, (.ireturn, 1)), (132, (.aload_n 0, 1)), (133, (.iload_n 1, 1)), (134, (.iload_n 2, 1)), (135, (.aload_n 0, 1)), (136, (.getfield 9, 3)), (139, (.invokevirtual 235, 3)), (142, (.ireturn, 1))]
theorem td_R_readWord_7 : ∀ q ∈ tb_R_readWord_7, decode prog_3_method_22_code q.1 = .ok q.2 := by decide +kernel
def tb_R_readWord : Nat → Option (Instr × Nat) := (am_nd 69 (am_nd 34 (am_nd 15 (am_look tb_R_readWord_0) (am_look tb_R_readWord_1)) (am_nd 50 (am_look tb_R_readWord_2) (am_look tb_R_readWord_3))) (am_nd 109 (am_nd 90 (am_look tb_R_readWord_4) (am_look tb_R_readWord_5)) (am_nd 130 (am_look tb_R_readWord_6) (am_look tb_R_readWord_7))))
theorem td_R_readWord : am_dok prog_3_method_22_code tb_R_readWord := (am_dok_nd (am_dok_nd (am_dok_nd (am_dok_lf td_R_readWord_0) (am_dok_lf td_R_readWord_1)) (am_dok_nd (am_dok_lf td_R_readWord_2) (am_dok_lf td_R_readWord_3))) (am_dok_nd (am_dok_nd (am_dok_lf td_R_readWord_4) (am_dok_lf td_R_readWord_5)) (am_dok_nd (am_dok_lf td_R_readWord_6) (am_dok_lf td_R_readWord_7))))
def m_R_readWord : am_M := (⟨"SyntaxRows$Reader", "readWord", "(I)I"⟩, prog_3_method_22_code, 4, (some .int), 1, 1, tb_R_readWord)
set_option maxRecDepth 100000 in
theorem ok_R_readWord : am_ok m_R_readWord := ⟨td_R_readWord, am_in 630 rfl rfl, am_in 101 (by decide +kernel) rfl, by decide, ⟨by decide, by decide, by decide +kernel⟩, rfl, by decide⟩
theorem oi_R_readWord : am_inst m_R_readWord := ⟨am_in 629 (by decide +kernel) rfl, am_in 18 (by decide +kernel) rfl⟩
def tb_R_readNumber_0 : List (Nat × (Instr × Nat)) := [(0, (.iconst 0, 1)), (1, (.istore 4, 2)), (3, (.iconst 0, 1)), (4, (.istore 5, 2)), (6, (.iconst 0, 1)), (7, (.istore 6, 2)), (9, (.iconst 0, 1)), (10, (.istore 7, 2)), (12, (.lconst 0, 1)), (13, (.lstore 8, 2))]
theorem td_R_readNumber_0 : ∀ q ∈ tb_R_readNumber_0, decode prog_3_method_23_code q.1 = .ok q.2 := by decide +kernel
def tb_R_readNumber_1 : List (Nat × (Instr × Nat)) := [(15, (.iload_n 2, 1)), (16, (.istore 10, 2)), (18, (.iload 10, 2)), (20, (.iload_n 3, 1)), (21, (.if_icmp .ge 116, 3)), (24, (.aload_n 0, 1)), (25, (.getfield 33, 3)), (28, (.iload 10, 2)), (30, (.invokevirtual 125, 3)), (33, (.istore 11, 2))]
theorem td_R_readNumber_1 : ∀ q ∈ tb_R_readNumber_1, decode prog_3_method_23_code q.1 = .ok q.2 := by decide +kernel
def tb_R_readNumber_2 : List (Nat × (Instr × Nat)) := [(35, (.iload 11, 2)), (37, (.bipush 43, 2)), (39, (.if_icmp .eq 10, 3)), (42, (.iload 11, 2)), (44, (.bipush 45, 2)), (46, (.if_icmp .ne 17, 3)), (49, (.iload 6, 2)), (51, (.iload 5, 2)), (53, (.iadd, 1)), (54, (.ifCond .ne 9, 3))]
theorem td_R_readNumber_2 : ∀ q ∈ tb_R_readNumber_2, decode prog_3_method_23_code q.1 = .ok q.2 := by decide +kernel
def tb_R_readNumber_3 : List (Nat × (Instr × Nat)) := [(57, (.iinc 4 1, 3)), (60, (.goto 71, 3)), (63, (.iload 11, 2)), (65, (.bipush 46, 2)), (67, (.if_icmp .ne 14, 3)), (70, (.iload 5, 2)), (72, (.ifCond .ne 9, 3)), (75, (.iinc 5 1, 3)), (78, (.goto 53, 3)), (81, (.iload 11, 2))]
theorem td_R_readNumber_3 : ∀ q ∈ tb_R_readNumber_3, decode prog_3_method_23_code q.1 = .ok q.2 := by decide +kernel
def tb_R_readNumber_4 : List (Nat × (Instr × Nat)) := [(83, (.invokestatic 238, 3)), (86, (.ifCond .eq 38, 3)), (89, (.lload 8, 2)), (91, (.ldc2_w 241, 3)), (94, (.lmul, 1)), (95, (.iload 11, 2)), (97, (.i2l, 1)), (98, (.ladd, 1)), (99, (.ldc2_w 243, 3)), (102, (.lsub, 1))]
theorem td_R_readNumber_4 : ∀ q ∈ tb_R_readNumber_4, decode prog_3_method_23_code q.1 = .ok q.2 := by decide +kernel
def tb_R_readNumber_5 : List (Nat × (Instr × Nat)) := [(103, (.lstore 8, 2)), (105, (.iload 6, 2)), (107, (.iconst 1, 1)), (108, (.iload 5, 2)), (110, (.isub, 1)), (111, (.iadd, 1)), (112, (.istore 6, 2)), (114, (.iload 7, 2)), (116, (.iload 5, 2)), (118, (.iadd, 1))]
theorem td_R_readNumber_5 : ∀ q ∈ tb_R_readNumber_5, decode prog_3_method_23_code q.1 = .ok q.2 := by decide +kernel
def tb_R_readNumber_6 : List (Nat × (Instr × Nat)) := [(119, (.istore 7, 2)), (121, (.goto 10, 3)), (124, (.aload_n 0, 1)), (125, (.iconst 2, 1)), (126, (.iload_n 2, 1)), (127, (.invokevirtual 122, 3)), (130, (.ireturn, 1)), (131, (.iinc 10 1, 3)), (134, (.goto (-116), 3)), (137, (.iload 6, 2))]
theorem td_R_readNumber_6 : ∀ q ∈ tb_R_readNumber_6, decode prog_3_method_23_code q.1 = .ok q.2 := by decide +kernel
def tb_R_readNumber_7 : List (Nat × (Instr × Nat)) := [(139, (.iload 7, 2)), (141, (.iadd, 1)), (142, (.ifCond .ne 10, 3)), (145, (.aload_n 0, 1)), (146, (.iconst 2, 1)), (147, (.iload_n 2, 1)), (148, (.invokevirtual 122, 3)), (151, (.ireturn, 1)), (152, (.iload 6, 2)), (154, (.bipush 9, 2))]
theorem td_R_readNumber_7 : ∀ q ∈ tb_R_readNumber_7, decode prog_3_method_23_code q.1 = .ok q.2 := by decide +kernel
def tb_R_readNumber_8 : List (Nat × (Instr × Nat)) := [(156, (.if_icmp .gt 10, 3)), (159, (.iload 7, 2)), (161, (.bipush 6, 2)), (163, (.if_icmp .le 10, 3)), (166, (.aload_n 0, 1)), (167, (.iconst 4, 1)), (168, (.iload_n 2, 1)), (169, (.invokevirtual 122, 3)), (172, (.ireturn, 1)), (173, (.iload 7, 2))]
theorem td_R_readNumber_8 : ∀ q ∈ tb_R_readNumber_8, decode prog_3_method_23_code q.1 = .ok q.2 := by decide +kernel
def tb_R_readNumber_9 : List (Nat × (Instr × Nat)) := [(175, (.istore 10, 2)), (177, (.iload 5, 2)), (179, (.ifCond .le 24, 3)), (182, (.iload 10, 2)), (184, (.bipush 6, 2)), (186, (.if_icmp .ge 17, 3)), (189, (.lload 8, 2)), (191, (.ldc2_w 241, 3)), (194, (.lmul, 1)), (195, (.lstore 8, 2))]
theorem td_R_readNumber_9 : ∀ q ∈ tb_R_readNumber_9, decode prog_3_method_23_code q.1 = .ok q.2 := by decide +kernel
def tb_R_readNumber_10 : List (Nat × (Instr × Nat)) := [(197, (.iinc 10 1, 3)), (200, (.goto (-23), 3)), (203, (.aload_n 0, 1)), (204, (.dup, 1)), (205, (.getfield 21, 3)), (208, (.iload 4, 2)), (210, (.iconst 1, 1)), (211, (.if_icmp .le 7, 3)), (214, (.iconst 1, 1)), (215, (.goto 4, 3))]
theorem td_R_readNumber_10 : ∀ q ∈ tb_R_readNumber_10, decode prog_3_method_23_code q.1 = .ok q.2 := by decide +kernel
def tb_R_readNumber_11 : List (Nat × (Instr × Nat)) := [(218, (.iconst 0, 1)), (219, (.ior, 1)), (220, (.putfield 21, 3)), (223, (.aload_n 0, 1)), (224, (.getfield 37, 3)), (227, (.iload_n 1, 1)), (228, (.iload 5, 2)), (230, (.ifCond .le 7, 3)), (233, (.iconst 3, 1)), (234, (.goto 4, 3))]
theorem td_R_readNumber_11 : ∀ q ∈ tb_R_readNumber_11, decode prog_3_method_23_code q.1 = .ok q.2 := by decide +kernel
def tb_R_readNumber_12 : List (Nat × (Instr × Nat)) := [(237, (.iconst 2, 1)), (238, (.aload_n 0, 1)), (239, (.getfield 33, 3)), (242, (.iload_n 2, 1)), (243, (.invokevirtual 125, 3)), (246, (.bipush 45, 2)), (248, (.if_icmp .ne 9, 3)), (251, (.lload 8, 2)), (253, (.lneg, 1)), (254, (.goto 5, 3))]
theorem td_R_readNumber_12 : ∀ q ∈ tb_R_readNumber_12, decode prog_3_method_23_code q.1 = .ok q.2 := by decide +kernel
def tb_R_readNumber_13 : List (Nat × (Instr × Nat)) := [(257, (.lload 8, 2)), (259, (.invokevirtual 155, 3)), (262, (.iload_n 1, 1)), (263, (.ireturn, 1))]
theorem td_R_readNumber_13 : ∀ q ∈ tb_R_readNumber_13, decode prog_3_method_23_code q.1 = .ok q.2 := by decide +kernel
def tb_R_readNumber : Nat → Option (Instr × Nat) := (am_nd 139 (am_nd 57 (am_nd 15 (am_look tb_R_readNumber_0) (am_nd 35 (am_look tb_R_readNumber_1) (am_look tb_R_readNumber_2))) (am_nd 103 (am_nd 83 (am_look tb_R_readNumber_3) (am_look tb_R_readNumber_4)) (am_nd 119 (am_look tb_R_readNumber_5) (am_look tb_R_readNumber_6)))) (am_nd 197 (am_nd 156 (am_look tb_R_readNumber_7) (am_nd 175 (am_look tb_R_readNumber_8) (am_look tb_R_readNumber_9))) (am_nd 237 (am_nd 218 (am_look tb_R_readNumber_10) (am_look tb_R_readNumber_11)) (am_nd 257 (am_look tb_R_readNumber_12) (am_look tb_R_readNumber_13)))))
theorem td_R_readNumber : am_dok prog_3_method_23_code tb_R_readNumber := (am_dok_nd (am_dok_nd (am_dok_nd (am_dok_lf td_R_readNumber_0) (am_dok_nd (am_dok_lf td_R_readNumber_1) (am_dok_lf td_R_readNumber_2))) (am_dok_nd (am_dok_nd (am_dok_lf td_R_readNumber_3) (am_dok_lf td_R_readNumber_4)) (am_dok_nd (am_dok_lf td_R_readNumber_5) (am_dok_lf td_R_readNumber_6)))) (am_dok_nd (am_dok_nd (am_dok_lf td_R_readNumber_7) (am_dok_nd (am_dok_lf td_R_readNumber_8) (am_dok_lf td_R_readNumber_9))) (am_dok_nd (am_dok_nd (am_dok_lf td_R_readNumber_10) (am_dok_lf td_R_readNumber_11)) (am_dok_nd (am_dok_lf td_R_readNumber_12) (am_dok_lf td_R_readNumber_13)))))
def m_R_readNumber : am_M := (⟨"SyntaxRows$Reader", "readNumber", "(III)I"⟩, prog_3_method_23_code, 12, (some .int), 1, 3, tb_R_readNumber)
set_option maxRecDepth 100000 in
theorem ok_R_readNumber : am_ok m_R_readNumber := ⟨td_R_readNumber, am_in 639 rfl rfl, am_in 101 (by decide +kernel) rfl, by decide, ⟨by decide, by decide, by decide +kernel⟩, rfl, by decide⟩
theorem oi_R_readNumber : am_inst m_R_readNumber := ⟨am_in 638 (by decide +kernel) rfl, am_in 19 (by decide +kernel) rfl⟩
def tb_R_readStreamOf_0 : List (Nat × (Instr × Nat)) := [(0, (.aload_n 0, 1)), (1, (.aload_n 0, 1)), (2, (.getfield 33, 3)), (5, (.aload_n 0, 1)), (6, (.getfield 9, 3)), (9, (.invokevirtual 56, 3)), (12, (.putfield 9, 3)), (15, (.aload_n 0, 1)), (16, (.getfield 37, 3)), (19, (.iload_n 1, 1))]
theorem td_R_readStreamOf_0 : ∀ q ∈ tb_R_readStreamOf_0, decode prog_3_method_24_code q.1 = .ok q.2 := by decide +kernel
def tb_R_readStreamOf_1 : List (Nat × (Instr × Nat)) := [(20, (.invokevirtual 177, 3)), (23, (.bipush 7, 2)), (25, (.if_icmp .ne 19, 3)), (28, (.aload_n 0, 1)), (29, (.getfield 33, 3)), (32, (.aload_n 0, 1)), (33, (.getfield 9, 3)), (36, (.ldc 245, 2)), (38, (.invokevirtual 83, 3)), (41, (.ifCond .ne 5, 3))]
theorem td_R_readStreamOf_1 : ∀ q ∈ tb_R_readStreamOf_1, decode prog_3_method_24_code q.1 = .ok q.2 := by decide +kernel
def tb_R_readStreamOf_2 : List (Nat × (Instr × Nat)) := [(44, (.iload_n 1, 1)), (45, (.ireturn, 1)), (46, (.aload_n 0, 1)), (47, (.getfield 9, 3)), (50, (.istore_n 2, 1)), (51, (.aload_n 0, 1)), (52, (.getfield 37, 3)), (55, (.invokevirtual 134, 3)), (58, (.istore_n 3, 1)), (59, (.iload_n 3, 1))]
theorem td_R_readStreamOf_2 : ∀ q ∈ tb_R_readStreamOf_2, decode prog_3_method_24_code q.1 = .ok q.2 := by decide +kernel
def tb_R_readStreamOf_3 : List (Nat × (Instr × Nat)) := [(60, (.iconst (-1), 1)), (61, (.if_icmp .ne 11, 3)), (64, (.aload_n 0, 1)), (65, (.bipush 6, 2)), (67, (.iload_n 2, 1)), (68, (.invokevirtual 122, 3)), (71, (.ireturn, 1)), (72, (.aload_n 0, 1)), (73, (.iload_n 2, 1)), (74, (.ldc 245, 2))]
theorem td_R_readStreamOf_3 : ∀ q ∈ tb_R_readStreamOf_3, decode prog_3_method_24_code q.1 = .ok q.2 := by decide +kernel
def tb_R_readStreamOf_4 : List (Nat × (Instr × Nat)) := [(76, (.invokevirtual 91, 3)), (79, (.iadd, 1)), (80, (.invokevirtual 247, 3)), (83, (.istore 4, 2)), (85, (.iload 4, 2)), (87, (.iconst (-1), 1)), (88, (.if_icmp .ne 5, 3)), (91, (.iconst (-1), 1)), (92, (.ireturn, 1)), (93, (.aload_n 0, 1))]
theorem td_R_readStreamOf_4 : ∀ q ∈ tb_R_readStreamOf_4, decode prog_3_method_24_code q.1 = .ok q.2 := by decide +kernel
def tb_R_readStreamOf_5 : List (Nat × (Instr × Nat)) := [(94, (.iload_n 1, 1)), (95, (.invokevirtual 250, 3)), (98, (.istore 5, 2)), (100, (.iload 5, 2)), (102, (.ifCond .ge 7, 3)), (105, (.iconst (-1), 1)), (106, (.goto 12, 3)), (109, (.aload_n 0, 1)), (110, (.iload 4, 2)), (112, (.iload 5, 2))]
theorem td_R_readStreamOf_5 : ∀ q ∈ tb_R_readStreamOf_5, decode prog_3_method_24_code q.1 = .ok q.2 := by decide +kernel
def tb_R_readStreamOf_6 : List (Nat × (Instr × Nat)) := [(114, (.iadd, 1)), (115, (.invokevirtual 253, 3)), (118, (.istore 6, 2)), (120, (.iload 6, 2)), (122, (.iconst (-1), 1)), (123, (.if_icmp .ne 65, 3)), (126, (.aload_n 0, 1)), (127, (.getfield 33, 3)), (130, (.iload 4, 2)), (132, (.ldc_w 256, 3))]
theorem td_R_readStreamOf_6 : ∀ q ∈ tb_R_readStreamOf_6, decode prog_3_method_24_code q.1 = .ok q.2 := by decide +kernel
def tb_R_readStreamOf_7 : List (Nat × (Instr × Nat)) := [(135, (.invokevirtual 258, 3)), (138, (.istore 7, 2)), (140, (.iload 7, 2)), (142, (.iconst (-1), 1)), (143, (.if_icmp .ne 11, 3)), (146, (.aload_n 0, 1)), (147, (.bipush 8, 2)), (149, (.iload_n 2, 1)), (150, (.invokevirtual 122, 3)), (153, (.ireturn, 1))]
theorem td_R_readStreamOf_7 : ∀ q ∈ tb_R_readStreamOf_7, decode prog_3_method_24_code q.1 = .ok q.2 := by decide +kernel
def tb_R_readStreamOf_8 : List (Nat × (Instr × Nat)) := [(154, (.aload_n 0, 1)), (155, (.dup, 1)), (156, (.getfield 21, 3)), (159, (.iconst 4, 1)), (160, (.ior, 1)), (161, (.putfield 21, 3)), (164, (.aload_n 0, 1)), (165, (.iload 4, 2)), (167, (.iload 7, 2)), (169, (.invokevirtual 261, 3))]
theorem td_R_readStreamOf_8 : ∀ q ∈ tb_R_readStreamOf_8, decode prog_3_method_24_code q.1 = .ok q.2 := by decide +kernel
def tb_R_readStreamOf_9 : List (Nat × (Instr × Nat)) := [(172, (.iload 4, 2)), (174, (.isub, 1)), (175, (.istore 5, 2)), (177, (.iload 7, 2)), (179, (.ldc_w 256, 3)), (182, (.invokevirtual 91, 3)), (185, (.iadd, 1)), (186, (.istore 6, 2)), (188, (.aload_n 0, 1)), (189, (.getfield 37, 3))]
theorem td_R_readStreamOf_9 : ∀ q ∈ tb_R_readStreamOf_9, decode prog_3_method_24_code q.1 = .ok q.2 := by decide +kernel
def tb_R_readStreamOf_10 : List (Nat × (Instr × Nat)) := [(192, (.iload_n 3, 1)), (193, (.bipush 9, 2)), (195, (.lconst 0, 1)), (196, (.invokevirtual 155, 3)), (199, (.aload_n 0, 1)), (200, (.getfield 37, 3)), (203, (.iload_n 3, 1)), (204, (.iload_n 1, 1)), (205, (.invokevirtual 159, 3)), (208, (.aload_n 0, 1))]
theorem td_R_readStreamOf_10 : ∀ q ∈ tb_R_readStreamOf_10, decode prog_3_method_24_code q.1 = .ok q.2 := by decide +kernel
def tb_R_readStreamOf_11 : List (Nat × (Instr × Nat)) := [(209, (.iload 6, 2)), (211, (.putfield 9, 3)), (214, (.aload_n 0, 1)), (215, (.iload_n 3, 1)), (216, (.iload 4, 2)), (218, (.iload 5, 2)), (220, (.iload_n 2, 1)), (221, (.invokevirtual 264, 3)), (224, (.ifCond .eq 7, 3)), (227, (.iload_n 3, 1))]
theorem td_R_readStreamOf_11 : ∀ q ∈ tb_R_readStreamOf_11, decode prog_3_method_24_code q.1 = .ok q.2 := by decide +kernel
def tb_R_readStreamOf_12 : List (Nat × (Instr × Nat)) := [(228, (.goto 4, 3)), (231, (.iconst (-1), 1)), (232, (.ireturn, 1))]
theorem td_R_readStreamOf_12 : ∀ q ∈ tb_R_readStreamOf_12, decode prog_3_method_24_code q.1 = .ok q.2 := by decide +kernel
def tb_R_readStreamOf : Nat → Option (Instr × Nat) := (am_nd 114 (am_nd 60 (am_nd 20 (am_look tb_R_readStreamOf_0) (am_nd 44 (am_look tb_R_readStreamOf_1) (am_look tb_R_readStreamOf_2))) (am_nd 76 (am_look tb_R_readStreamOf_3) (am_nd 94 (am_look tb_R_readStreamOf_4) (am_look tb_R_readStreamOf_5)))) (am_nd 172 (am_nd 135 (am_look tb_R_readStreamOf_6) (am_nd 154 (am_look tb_R_readStreamOf_7) (am_look tb_R_readStreamOf_8))) (am_nd 209 (am_nd 192 (am_look tb_R_readStreamOf_9) (am_look tb_R_readStreamOf_10)) (am_nd 228 (am_look tb_R_readStreamOf_11) (am_look tb_R_readStreamOf_12)))))
theorem td_R_readStreamOf : am_dok prog_3_method_24_code tb_R_readStreamOf := (am_dok_nd (am_dok_nd (am_dok_nd (am_dok_lf td_R_readStreamOf_0) (am_dok_nd (am_dok_lf td_R_readStreamOf_1) (am_dok_lf td_R_readStreamOf_2))) (am_dok_nd (am_dok_lf td_R_readStreamOf_3) (am_dok_nd (am_dok_lf td_R_readStreamOf_4) (am_dok_lf td_R_readStreamOf_5)))) (am_dok_nd (am_dok_nd (am_dok_lf td_R_readStreamOf_6) (am_dok_nd (am_dok_lf td_R_readStreamOf_7) (am_dok_lf td_R_readStreamOf_8))) (am_dok_nd (am_dok_nd (am_dok_lf td_R_readStreamOf_9) (am_dok_lf td_R_readStreamOf_10)) (am_dok_nd (am_dok_lf td_R_readStreamOf_11) (am_dok_lf td_R_readStreamOf_12)))))
def m_R_readStreamOf : am_M := (⟨"SyntaxRows$Reader", "readStreamOf", "(I)I"⟩, prog_3_method_24_code, 8, (some .int), 1, 1, tb_R_readStreamOf)
set_option maxRecDepth 100000 in
theorem ok_R_readStreamOf : am_ok m_R_readStreamOf := ⟨td_R_readStreamOf, am_in 646 rfl rfl, am_in 101 (by decide +kernel) rfl, by decide, ⟨by decide, by decide, by decide +kernel⟩, rfl, by decide⟩
theorem oi_R_readStreamOf : am_inst m_R_readStreamOf := ⟨am_in 645 (by decide +kernel) rfl, am_in 20 (by decide +kernel) rfl⟩
def tb_R_behindStreamLine_0 : List (Nat × (Instr × Nat)) := [(0, (.aload_n 0, 1)), (1, (.getfield 33, 3)), (4, (.iload_n 1, 1)), (5, (.invokevirtual 125, 3)), (8, (.bipush 13, 2)), (10, (.if_icmp .ne 9, 3)), (13, (.iload_n 1, 1)), (14, (.iconst 1, 1)), (15, (.iadd, 1)), (16, (.goto 4, 3))]
theorem td_R_behindStreamLine_0 : ∀ q ∈ tb_R_behindStreamLine_0, decode prog_3_method_25_code q.1 = .ok q.2 := by decide +kernel
def tb_R_behindStreamLine_1 : List (Nat × (Instr × Nat)) := [(19, (.iload_n 1, 1)), (20, (.istore_n 2, 1)), (21, (.aload_n 0, 1)), (22, (.getfield 33, 3)), (25, (.iload_n 2, 1)), (26, (.invokevirtual 125, 3)), (29, (.bipush 10, 2)), (31, (.if_icmp .ne 7, 3)), (34, (.iload_n 2, 1)), (35, (.iconst 1, 1))]
theorem td_R_behindStreamLine_1 : ∀ q ∈ tb_R_behindStreamLine_1, decode prog_3_method_25_code q.1 = .ok q.2 := by decide +kernel
def tb_R_behindStreamLine_2 : List (Nat × (Instr × Nat)) := [(36, (.iadd, 1)), (37, (.ireturn, 1)), (38, (.aload_n 0, 1)), (39, (.iload_n 2, 1)), (40, (.aload_n 0, 1)), (41, (.getfield 33, 3)), (44, (.invokevirtual 62, 3)), (47, (.if_icmp .ge 7, 3)), (50, (.iconst 2, 1)), (51, (.goto 4, 3))]
theorem td_R_behindStreamLine_2 : ∀ q ∈ tb_R_behindStreamLine_2, decode prog_3_method_25_code q.1 = .ok q.2 := by decide +kernel
def tb_R_behindStreamLine_3 : List (Nat × (Instr × Nat)) := [(54, (.iconst 1, 1)), (55, (.iload_n 2, 1)), (56, (.invokevirtual 122, 3)), (59, (.ireturn, 1))]
theorem td_R_behindStreamLine_3 : ∀ q ∈ tb_R_behindStreamLine_3, decode prog_3_method_25_code q.1 = .ok q.2 := by decide +kernel
def tb_R_behindStreamLine : Nat → Option (Instr × Nat) := (am_nd 36 (am_nd 19 (am_look tb_R_behindStreamLine_0) (am_look tb_R_behindStreamLine_1)) (am_nd 54 (am_look tb_R_behindStreamLine_2) (am_look tb_R_behindStreamLine_3)))
theorem td_R_behindStreamLine : am_dok prog_3_method_25_code tb_R_behindStreamLine := (am_dok_nd (am_dok_nd (am_dok_lf td_R_behindStreamLine_0) (am_dok_lf td_R_behindStreamLine_1)) (am_dok_nd (am_dok_lf td_R_behindStreamLine_2) (am_dok_lf td_R_behindStreamLine_3)))
def m_R_behindStreamLine : am_M := (⟨"SyntaxRows$Reader", "behindStreamLine", "(I)I"⟩, prog_3_method_25_code, 3, (some .int), 1, 1, tb_R_behindStreamLine)
set_option maxRecDepth 100000 in
theorem ok_R_behindStreamLine : am_ok m_R_behindStreamLine := ⟨td_R_behindStreamLine, am_in 651 rfl rfl, am_in 101 (by decide +kernel) rfl, by decide, ⟨by decide, by decide, by decide +kernel⟩, rfl, by decide⟩
theorem oi_R_behindStreamLine : am_inst m_R_behindStreamLine := ⟨am_in 650 (by decide +kernel) rfl, am_in 21 (by decide +kernel) rfl⟩
def tb_R_lengthTold_0 : List (Nat × (Instr × Nat)) := [(0, (.aload_n 0, 1)), (1, (.getfield 37, 3)), (4, (.aload_n 0, 1)), (5, (.getfield 37, 3)), (8, (.iload_n 1, 1)), (9, (.ldc_w 267, 3)), (12, (.invokevirtual 269, 3)), (15, (.invokevirtual 272, 3)), (18, (.istore_n 2, 1)), (19, (.aload_n 0, 1))]
theorem td_R_lengthTold_0 : ∀ q ∈ tb_R_lengthTold_0, decode prog_3_method_26_code q.1 = .ok q.2 := by decide +kernel
def tb_R_lengthTold_1 : List (Nat × (Instr × Nat)) := [(20, (.getfield 37, 3)), (23, (.iload_n 2, 1)), (24, (.invokevirtual 177, 3)), (27, (.bipush 8, 2)), (29, (.if_icmp .ne 43, 3)), (32, (.aload_n 0, 1)), (33, (.getfield 37, 3)), (36, (.iload_n 2, 1)), (37, (.invokevirtual 275, 3)), (40, (.lstore_n 3, 1))]
theorem td_R_lengthTold_1 : ∀ q ∈ tb_R_lengthTold_1, decode prog_3_method_26_code q.1 = .ok q.2 := by decide +kernel
def tb_R_lengthTold_2 : List (Nat × (Instr × Nat)) := [(41, (.aload_n 0, 1)), (42, (.getfield 41, 3)), (45, (.lload_n 3, 1)), (46, (.ldc2_w 227, 3)), (49, (.lrem, 1)), (50, (.l2i, 1)), (51, (.lload_n 3, 1)), (52, (.ldc2_w 227, 3)), (55, (.ldiv, 1)), (56, (.l2i, 1))]
theorem td_R_lengthTold_2 : ∀ q ∈ tb_R_lengthTold_2, decode prog_3_method_26_code q.1 = .ok q.2 := by decide +kernel
def tb_R_lengthTold_3 : List (Nat × (Instr × Nat)) := [(57, (.invokevirtual 279, 3)), (60, (.istore 5, 2)), (62, (.aload_n 0, 1)), (63, (.getfield 41, 3)), (66, (.iload 5, 2)), (68, (.invokevirtual 282, 3)), (71, (.istore_n 2, 1)), (72, (.aload_n 0, 1)), (73, (.getfield 37, 3)), (76, (.iload_n 2, 1))]
theorem td_R_lengthTold_3 : ∀ q ∈ tb_R_lengthTold_3, decode prog_3_method_26_code q.1 = .ok q.2 := by decide +kernel
def tb_R_lengthTold_4 : List (Nat × (Instr × Nat)) := [(77, (.invokevirtual 177, 3)), (80, (.iconst 2, 1)), (81, (.if_icmp .ne 15, 3)), (84, (.aload_n 0, 1)), (85, (.getfield 37, 3)), (88, (.iload_n 2, 1)), (89, (.invokevirtual 275, 3)), (92, (.l2i, 1)), (93, (.goto 4, 3)), (96, (.iconst (-1), 1))]
theorem td_R_lengthTold_4 : ∀ q ∈ tb_R_lengthTold_4, decode prog_3_method_26_code q.1 = .ok q.2 := by decide +kernel
def tb_R_lengthTold_5 : List (Nat × (Instr × Nat)) := [(97, (.ireturn, 1))]
theorem td_R_lengthTold_5 : ∀ q ∈ tb_R_lengthTold_5, decode prog_3_method_26_code q.1 = .ok q.2 := by decide +kernel
def tb_R_lengthTold : Nat → Option (Instr × Nat) := (am_nd 57 (am_nd 20 (am_look tb_R_lengthTold_0) (am_nd 41 (am_look tb_R_lengthTold_1) (am_look tb_R_lengthTold_2))) (am_nd 77 (am_look tb_R_lengthTold_3) (am_nd 97 (am_look tb_R_lengthTold_4) (am_look tb_R_lengthTold_5))))
theorem td_R_lengthTold : am_dok prog_3_method_26_code tb_R_lengthTold := (am_dok_nd (am_dok_nd (am_dok_lf td_R_lengthTold_0) (am_dok_nd (am_dok_lf td_R_lengthTold_1) (am_dok_lf td_R_lengthTold_2))) (am_dok_nd (am_dok_lf td_R_lengthTold_3) (am_dok_nd (am_dok_lf td_R_lengthTold_4) (am_dok_lf td_R_lengthTold_5))))
def m_R_lengthTold : am_M := (⟨"SyntaxRows$Reader", "lengthTold", "(I)I"⟩, prog_3_method_26_code, 6, (some .int), 1, 1, tb_R_lengthTold)
set_option maxRecDepth 100000 in
theorem ok_R_lengthTold : am_ok m_R_lengthTold := ⟨td_R_lengthTold, am_in 655 rfl rfl, am_in 101 (by decide +kernel) rfl, by decide, ⟨by decide, by decide, by decide +kernel⟩, rfl, by decide⟩
theorem oi_R_lengthTold : am_inst m_R_lengthTold := ⟨am_in 654 (by decide +kernel) rfl, am_in 22 (by decide +kernel) rfl⟩
def tb_R_behindEndstream_0 : List (Nat × (Instr × Nat)) := [(0, (.aload_n 0, 1)), (1, (.getfield 33, 3)), (4, (.iload_n 1, 1)), (5, (.invokevirtual 213, 3)), (8, (.istore_n 2, 1)), (9, (.aload_n 0, 1)), (10, (.getfield 33, 3)), (13, (.iload_n 2, 1)), (14, (.ldc_w 256, 3)), (17, (.invokevirtual 83, 3))]
theorem td_R_behindEndstream_0 : ∀ q ∈ tb_R_behindEndstream_0, decode prog_3_method_27_code q.1 = .ok q.2 := by decide +kernel
def tb_R_behindEndstream_1 : List (Nat × (Instr × Nat)) := [(20, (.ifCond .eq 14, 3)), (23, (.iload_n 2, 1)), (24, (.ldc_w 256, 3)), (27, (.invokevirtual 91, 3)), (30, (.iadd, 1)), (31, (.goto 4, 3)), (34, (.iconst (-1), 1)), (35, (.ireturn, 1))]
theorem td_R_behindEndstream_1 : ∀ q ∈ tb_R_behindEndstream_1, decode prog_3_method_27_code q.1 = .ok q.2 := by decide +kernel
def tb_R_behindEndstream : Nat → Option (Instr × Nat) := (am_nd 20 (am_look tb_R_behindEndstream_0) (am_look tb_R_behindEndstream_1))
theorem td_R_behindEndstream : am_dok prog_3_method_27_code tb_R_behindEndstream := (am_dok_nd (am_dok_lf td_R_behindEndstream_0) (am_dok_lf td_R_behindEndstream_1))
def m_R_behindEndstream : am_M := (⟨"SyntaxRows$Reader", "behindEndstream", "(I)I"⟩, prog_3_method_27_code, 3, (some .int), 1, 1, tb_R_behindEndstream)
set_option maxRecDepth 100000 in
theorem ok_R_behindEndstream : am_ok m_R_behindEndstream := ⟨td_R_behindEndstream, am_in 690 rfl rfl, am_in 101 (by decide +kernel) rfl, by decide, ⟨by decide, by decide, by decide +kernel⟩, rfl, by decide⟩
theorem oi_R_behindEndstream : am_inst m_R_behindEndstream := ⟨am_in 689 (by decide +kernel) rfl, am_in 24 (by decide +kernel) rfl⟩
def tb_R_beforeLineEnd_0 : List (Nat × (Instr × Nat)) := [(0, (.iload_n 2, 1)), (1, (.iconst 2, 1)), (2, (.isub, 1)), (3, (.iload_n 1, 1)), (4, (.if_icmp .lt 21, 3)), (7, (.aload_n 0, 1)), (8, (.getfield 33, 3)), (11, (.iload_n 2, 1)), (12, (.iconst 2, 1)), (13, (.isub, 1))]
theorem td_R_beforeLineEnd_0 : ∀ q ∈ tb_R_beforeLineEnd_0, decode prog_3_method_28_code q.1 = .ok q.2 := by decide +kernel
def tb_R_beforeLineEnd_1 : List (Nat × (Instr × Nat)) := [(14, (.invokevirtual 213, 3)), (17, (.iload_n 2, 1)), (18, (.if_icmp .ne 7, 3)), (21, (.iload_n 2, 1)), (22, (.iconst 2, 1)), (23, (.isub, 1)), (24, (.ireturn, 1)), (25, (.iload_n 2, 1)), (26, (.iconst 1, 1)), (27, (.isub, 1))]
theorem td_R_beforeLineEnd_1 : ∀ q ∈ tb_R_beforeLineEnd_1, decode prog_3_method_28_code q.1 = .ok q.2 := by decide +kernel
def tb_R_beforeLineEnd_2 : List (Nat × (Instr × Nat)) := [(28, (.iload_n 1, 1)), (29, (.if_icmp .lt 25, 3)), (32, (.aload_n 0, 1)), (33, (.getfield 33, 3)), (36, (.iload_n 2, 1)), (37, (.iconst 1, 1)), (38, (.isub, 1)), (39, (.invokevirtual 125, 3)), (42, (.invokestatic 210, 3)), (45, (.ifCond .eq 9, 3))]
theorem td_R_beforeLineEnd_2 : ∀ q ∈ tb_R_beforeLineEnd_2, decode prog_3_method_28_code q.1 = .ok q.2 := by decide +kernel
def tb_R_beforeLineEnd_3 : List (Nat × (Instr × Nat)) := [(48, (.iload_n 2, 1)), (49, (.iconst 1, 1)), (50, (.isub, 1)), (51, (.goto 4, 3)), (54, (.iload_n 2, 1)), (55, (.ireturn, 1))]
theorem td_R_beforeLineEnd_3 : ∀ q ∈ tb_R_beforeLineEnd_3, decode prog_3_method_28_code q.1 = .ok q.2 := by decide +kernel
def tb_R_beforeLineEnd : Nat → Option (Instr × Nat) := (am_nd 28 (am_nd 14 (am_look tb_R_beforeLineEnd_0) (am_look tb_R_beforeLineEnd_1)) (am_nd 48 (am_look tb_R_beforeLineEnd_2) (am_look tb_R_beforeLineEnd_3)))
theorem td_R_beforeLineEnd : am_dok prog_3_method_28_code tb_R_beforeLineEnd := (am_dok_nd (am_dok_nd (am_dok_lf td_R_beforeLineEnd_0) (am_dok_lf td_R_beforeLineEnd_1)) (am_dok_nd (am_dok_lf td_R_beforeLineEnd_2) (am_dok_lf td_R_beforeLineEnd_3)))
def m_R_beforeLineEnd : am_M := (⟨"SyntaxRows$Reader", "beforeLineEnd", "(II)I"⟩, prog_3_method_28_code, 3, (some .int), 1, 2, tb_R_beforeLineEnd)
set_option maxRecDepth 100000 in
theorem ok_R_beforeLineEnd : am_ok m_R_beforeLineEnd := ⟨td_R_beforeLineEnd, am_in 699 rfl rfl, am_in 101 (by decide +kernel) rfl, by decide, ⟨by decide, by decide, by decide +kernel⟩, rfl, by decide⟩
theorem oi_R_beforeLineEnd : am_inst m_R_beforeLineEnd := ⟨am_in 698 (by decide +kernel) rfl, am_in 25 (by decide +kernel) rfl⟩
def tb_R_copyStream_0 : List (Nat × (Instr × Nat)) := [(0, (.iload_n 3, 1)), (1, (.sipush 400, 3)), (4, (.if_icmp .le 14, 3)), (7, (.aload_n 0, 1)), (8, (.bipush 8, 2)), (10, (.iload 4, 2)), (12, (.invokevirtual 122, 3)), (15, (.pop, 1)), (16, (.iconst 0, 1)), (17, (.ireturn, 1))]
theorem td_R_copyStream_0 : ∀ q ∈ tb_R_copyStream_0, decode prog_3_method_29_code q.1 = .ok q.2 := by decide +kernel
def tb_R_copyStream_1 : List (Nat × (Instr × Nat)) := [(18, (.iconst 0, 1)), (19, (.istore 5, 2)), (21, (.iload 5, 2)), (23, (.iload_n 3, 1)), (24, (.if_icmp .ge 42, 3)), (27, (.aload_n 0, 1)), (28, (.getfield 37, 3)), (31, (.iload_n 1, 1)), (32, (.aload_n 0, 1)), (33, (.getfield 33, 3))]
theorem td_R_copyStream_1 : ∀ q ∈ tb_R_copyStream_1, decode prog_3_method_29_code q.1 = .ok q.2 := by decide +kernel
def tb_R_copyStream_2 : List (Nat × (Instr × Nat)) := [(36, (.iload_n 2, 1)), (37, (.iload 5, 2)), (39, (.iadd, 1)), (40, (.invokevirtual 125, 3)), (43, (.invokevirtual 203, 3)), (46, (.ifCond .ne 14, 3)), (49, (.aload_n 0, 1)), (50, (.bipush 6, 2)), (52, (.iload 4, 2)), (54, (.invokevirtual 122, 3))]
theorem td_R_copyStream_2 : ∀ q ∈ tb_R_copyStream_2, decode prog_3_method_29_code q.1 = .ok q.2 := by decide +kernel
def tb_R_copyStream_3 : List (Nat × (Instr × Nat)) := [(57, (.pop, 1)), (58, (.iconst 0, 1)), (59, (.ireturn, 1)), (60, (.iinc 5 1, 3)), (63, (.goto (-42), 3)), (66, (.iconst 1, 1)), (67, (.ireturn, 1))]
theorem td_R_copyStream_3 : ∀ q ∈ tb_R_copyStream_3, decode prog_3_method_29_code q.1 = .ok q.2 := by decide +kernel
def tb_R_copyStream : Nat → Option (Instr × Nat) := (am_nd 36 (am_nd 18 (am_look tb_R_copyStream_0) (am_look tb_R_copyStream_1)) (am_nd 57 (am_look tb_R_copyStream_2) (am_look tb_R_copyStream_3)))
theorem td_R_copyStream : am_dok prog_3_method_29_code tb_R_copyStream := (am_dok_nd (am_dok_nd (am_dok_lf td_R_copyStream_0) (am_dok_lf td_R_copyStream_1)) (am_dok_nd (am_dok_lf td_R_copyStream_2) (am_dok_lf td_R_copyStream_3)))
def m_R_copyStream : am_M := (⟨"SyntaxRows$Reader", "copyStream", "(IIII)Z"⟩, prog_3_method_29_code, 6, (some .boolean), 1, 4, tb_R_copyStream)
set_option maxRecDepth 100000 in
theorem ok_R_copyStream : am_ok m_R_copyStream := ⟨td_R_copyStream, am_in 703 rfl rfl, am_in 101 (by decide +kernel) rfl, by decide, ⟨by decide, by decide, by decide +kernel⟩, rfl, by decide⟩
theorem oi_R_copyStream : am_inst m_R_copyStream := ⟨am_in 702 (by decide +kernel) rfl, am_in 26 (by decide +kernel) rfl⟩
def tb_R_readEnd_0 : List (Nat × (Instr × Nat)) := [(0, (.aload_n 0, 1)), (1, (.aload_n 0, 1)), (2, (.getfield 33, 3)), (5, (.aload_n 0, 1)), (6, (.getfield 9, 3)), (9, (.invokevirtual 56, 3)), (12, (.putfield 9, 3)), (15, (.aload_n 0, 1)), (16, (.getfield 33, 3)), (19, (.aload_n 0, 1))]
theorem td_R_readEnd_0 : ∀ q ∈ tb_R_readEnd_0, decode prog_3_method_7_code q.1 = .ok q.2 := by decide +kernel
def tb_R_readEnd_1 : List (Nat × (Instr × Nat)) := [(20, (.getfield 9, 3)), (23, (.ldc 120, 2)), (25, (.invokevirtual 83, 3)), (28, (.ifCond .ne 33, 3)), (31, (.aload_n 0, 1)), (32, (.aload_n 0, 1)), (33, (.getfield 9, 3)), (36, (.aload_n 0, 1)), (37, (.getfield 33, 3)), (40, (.invokevirtual 62, 3))]
theorem td_R_readEnd_1 : ∀ q ∈ tb_R_readEnd_1, decode prog_3_method_7_code q.1 = .ok q.2 := by decide +kernel
def tb_R_readEnd_2 : List (Nat × (Instr × Nat)) := [(43, (.if_icmp .ge 7, 3)), (46, (.iconst 2, 1)), (47, (.goto 4, 3)), (50, (.iconst 1, 1)), (51, (.aload_n 0, 1)), (52, (.getfield 9, 3)), (55, (.invokevirtual 122, 3)), (58, (.pop, 1)), (59, (.iconst 0, 1)), (60, (.ireturn, 1))]
theorem td_R_readEnd_2 : ∀ q ∈ tb_R_readEnd_2, decode prog_3_method_7_code q.1 = .ok q.2 := by decide +kernel
def tb_R_readEnd_3 : List (Nat × (Instr × Nat)) := [(61, (.aload_n 0, 1)), (62, (.dup, 1)), (63, (.getfield 9, 3)), (66, (.ldc 120, 2)), (68, (.invokevirtual 91, 3)), (71, (.iadd, 1)), (72, (.putfield 9, 3)), (75, (.iconst 1, 1)), (76, (.ireturn, 1))]
theorem td_R_readEnd_3 : ∀ q ∈ tb_R_readEnd_3, decode prog_3_method_7_code q.1 = .ok q.2 := by decide +kernel
def tb_R_readEnd : Nat → Option (Instr × Nat) := (am_nd 43 (am_nd 20 (am_look tb_R_readEnd_0) (am_look tb_R_readEnd_1)) (am_nd 61 (am_look tb_R_readEnd_2) (am_look tb_R_readEnd_3)))
theorem td_R_readEnd : am_dok prog_3_method_7_code tb_R_readEnd := (am_dok_nd (am_dok_nd (am_dok_lf td_R_readEnd_0) (am_dok_lf td_R_readEnd_1)) (am_dok_nd (am_dok_lf td_R_readEnd_2) (am_dok_lf td_R_readEnd_3)))
def m_R_readEnd : am_M := (⟨"SyntaxRows$Reader", "readEnd", "()Z"⟩, prog_3_method_7_code, 1, (some .boolean), 1, 0, tb_R_readEnd)
set_option maxRecDepth 100000 in
theorem ok_R_readEnd : am_ok m_R_readEnd := ⟨td_R_readEnd, am_in 707 rfl rfl, am_in 101 (by decide +kernel) rfl, by decide, ⟨by decide, by decide, by decide +kernel⟩, rfl, by decide⟩
theorem oi_R_readEnd : am_inst m_R_readEnd := ⟨am_in 706 (by decide +kernel) rfl, am_in 27 (by decide +kernel) rfl⟩
def tb_R_behindNextEnd_0 : List (Nat × (Instr × Nat)) := [(0, (.iload_n 1, 1)), (1, (.istore_n 2, 1)), (2, (.iload_n 2, 1)), (3, (.aload_n 0, 1)), (4, (.getfield 33, 3)), (7, (.invokevirtual 62, 3)), (10, (.if_icmp .ge 46, 3)), (13, (.aload_n 0, 1)), (14, (.getfield 33, 3)), (17, (.iload_n 2, 1))]
theorem td_R_behindNextEnd_0 : ∀ q ∈ tb_R_behindNextEnd_0, decode prog_3_method_8_code q.1 = .ok q.2 := by decide +kernel
def tb_R_behindNextEnd_1 : List (Nat × (Instr × Nat)) := [(18, (.ldc 120, 2)), (20, (.invokevirtual 83, 3)), (23, (.ifCond .eq 27, 3)), (26, (.aload_n 0, 1)), (27, (.getfield 33, 3)), (30, (.iload_n 2, 1)), (31, (.iconst 1, 1)), (32, (.isub, 1)), (33, (.invokevirtual 125, 3)), (36, (.invokestatic 127, 3))]
theorem td_R_behindNextEnd_1 : ∀ q ∈ tb_R_behindNextEnd_1, decode prog_3_method_8_code q.1 = .ok q.2 := by decide +kernel
def tb_R_behindNextEnd_2 : List (Nat × (Instr × Nat)) := [(39, (.ifCond .ne 11, 3)), (42, (.iload_n 2, 1)), (43, (.ldc 120, 2)), (45, (.invokevirtual 91, 3)), (48, (.iadd, 1)), (49, (.ireturn, 1)), (50, (.iinc 2 1, 3)), (53, (.goto (-51), 3)), (56, (.aload_n 0, 1)), (57, (.getfield 33, 3))]
theorem td_R_behindNextEnd_2 : ∀ q ∈ tb_R_behindNextEnd_2, decode prog_3_method_8_code q.1 = .ok q.2 := by decide +kernel
def tb_R_behindNextEnd_3 : List (Nat × (Instr × Nat)) := [(60, (.invokevirtual 62, 3)), (63, (.ireturn, 1))]
theorem td_R_behindNextEnd_3 : ∀ q ∈ tb_R_behindNextEnd_3, decode prog_3_method_8_code q.1 = .ok q.2 := by decide +kernel
def tb_R_behindNextEnd : Nat → Option (Instr × Nat) := (am_nd 39 (am_nd 18 (am_look tb_R_behindNextEnd_0) (am_look tb_R_behindNextEnd_1)) (am_nd 60 (am_look tb_R_behindNextEnd_2) (am_look tb_R_behindNextEnd_3)))
theorem td_R_behindNextEnd : am_dok prog_3_method_8_code tb_R_behindNextEnd := (am_dok_nd (am_dok_nd (am_dok_lf td_R_behindNextEnd_0) (am_dok_lf td_R_behindNextEnd_1)) (am_dok_nd (am_dok_lf td_R_behindNextEnd_2) (am_dok_lf td_R_behindNextEnd_3)))
def m_R_behindNextEnd : am_M := (⟨"SyntaxRows$Reader", "behindNextEnd", "(I)I"⟩, prog_3_method_8_code, 3, (some .int), 1, 1, tb_R_behindNextEnd)
set_option maxRecDepth 100000 in
theorem ok_R_behindNextEnd : am_ok m_R_behindNextEnd := ⟨td_R_behindNextEnd, am_in 712 rfl rfl, am_in 101 (by decide +kernel) rfl, by decide, ⟨by decide, by decide, by decide +kernel⟩, rfl, by decide⟩
theorem oi_R_behindNextEnd : am_inst m_R_behindNextEnd := ⟨am_in 711 (by decide +kernel) rfl, am_in 28 (by decide +kernel) rfl⟩
def tb_R_strayBytes_0 : List (Nat × (Instr × Nat)) := [(0, (.aload_n 0, 1)), (1, (.getfield 24, 3)), (4, (.ireturn, 1))]
theorem td_R_strayBytes_0 : ∀ q ∈ tb_R_strayBytes_0, decode prog_3_method_2_code q.1 = .ok q.2 := by decide +kernel
def tb_R_strayBytes : Nat → Option (Instr × Nat) := (am_look tb_R_strayBytes_0)
theorem td_R_strayBytes : am_dok prog_3_method_2_code tb_R_strayBytes := (am_dok_lf td_R_strayBytes_0)
def m_R_strayBytes : am_M := (⟨"SyntaxRows$Reader", "strayBytes", "()I"⟩, prog_3_method_2_code, 1, (some .int), 1, 0, tb_R_strayBytes)
set_option maxRecDepth 100000 in
theorem ok_R_strayBytes : am_ok m_R_strayBytes := ⟨td_R_strayBytes, am_in 1031 rfl rfl, am_in 101 (by decide +kernel) rfl, by decide, ⟨by decide, by decide, by decide +kernel⟩, rfl, by decide⟩
theorem oi_R_strayBytes : am_inst m_R_strayBytes := ⟨am_in 1029 (by decide +kernel) rfl, am_in 1030 (by decide +kernel) rfl⟩
