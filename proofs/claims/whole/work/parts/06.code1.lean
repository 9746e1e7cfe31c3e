/-! decoded code of methods, printed by wip/gen/gen06.py -/
def tb_T_init_0 : List (Nat × (Instr × Nat)) := [(0, (.aload_n 0, 1)), (1, (.invokespecial 3, 3)), (4, (.aload_n 0, 1)), (5, (.sipush 1600, 3)), (8, (.newarray .byte, 2)), (10, (.putfield 9, 3)), (13, (.aload_n 0, 1)), (14, (.iconst 0, 1)), (15, (.putfield 15, 3)), (18, (.return_, 1))]
theorem td_T_init_0 : ∀ q ∈ tb_T_init_0, decode prog_4_method_1_code q.1 = .ok q.2 := by decide +kernel
def tb_T_init : Nat → Option (Instr × Nat) := (am_look tb_T_init_0)
theorem td_T_init : am_dok prog_4_method_1_code tb_T_init := (am_dok_lf td_T_init_0)
def m_T_init : am_M := (⟨"SyntaxRows$Tape", "<init>", "()V"⟩, prog_4_method_1_code, 1, none, 2, 0, tb_T_init)
set_option maxRecDepth 100000 in
theorem ok_T_init : am_ok m_T_init := ⟨td_T_init, am_in 127 rfl rfl, am_in 98 (by decide +kernel) rfl, by decide, ⟨by decide, by decide, by decide +kernel⟩, rfl, by decide⟩
def tb_V_init_0 : List (Nat × (Instr × Nat)) := [(0, (.aload_n 0, 1)), (1, (.invokespecial 3, 3)), (4, (.aload_n 0, 1)), (5, (.sipush 300, 3)), (8, (.newarray .int, 2)), (10, (.putfield 9, 3)), (13, (.aload_n 0, 1)), (14, (.sipush 300, 3)), (17, (.newarray .long, 2)), (19, (.putfield 15, 3))]
theorem td_V_init_0 : ∀ q ∈ tb_V_init_0, decode prog_5_method_1_code q.1 = .ok q.2 := by decide +kernel
def tb_V_init_1 : List (Nat × (Instr × Nat)) := [(22, (.aload_n 0, 1)), (23, (.sipush 300, 3)), (26, (.newarray .int, 2)), (28, (.putfield 19, 3)), (31, (.aload_n 0, 1)), (32, (.sipush 300, 3)), (35, (.newarray .int, 2)), (37, (.putfield 22, 3)), (40, (.aload_n 0, 1)), (41, (.sipush 300, 3))]
theorem td_V_init_1 : ∀ q ∈ tb_V_init_1, decode prog_5_method_1_code q.1 = .ok q.2 := by decide +kernel
def tb_V_init_2 : List (Nat × (Instr × Nat)) := [(44, (.newarray .int, 2)), (46, (.putfield 25, 3)), (49, (.aload_n 0, 1)), (50, (.sipush 300, 3)), (53, (.newarray .int, 2)), (55, (.putfield 28, 3)), (58, (.aload_n 0, 1)), (59, (.sipush 300, 3)), (62, (.newarray .int, 2)), (64, (.putfield 31, 3))]
theorem td_V_init_2 : ∀ q ∈ tb_V_init_2, decode prog_5_method_1_code q.1 = .ok q.2 := by decide +kernel
def tb_V_init_3 : List (Nat × (Instr × Nat)) := [(67, (.aload_n 0, 1)), (68, (.sipush 300, 3)), (71, (.newarray .int, 2)), (73, (.putfield 34, 3)), (76, (.aload_n 0, 1)), (77, (.sipush 300, 3)), (80, (.newarray .int, 2)), (82, (.putfield 37, 3)), (85, (.aload_n 0, 1)), (86, (.sipush 2000, 3))]
theorem td_V_init_3 : ∀ q ∈ tb_V_init_3, decode prog_5_method_1_code q.1 = .ok q.2 := by decide +kernel
def tb_V_init_4 : List (Nat × (Instr × Nat)) := [(89, (.newarray .byte, 2)), (91, (.putfield 40, 3)), (94, (.aload_n 0, 1)), (95, (.iconst 0, 1)), (96, (.putfield 44, 3)), (99, (.aload_n 0, 1)), (100, (.iconst 0, 1)), (101, (.putfield 48, 3)), (104, (.return_, 1))]
theorem td_V_init_4 : ∀ q ∈ tb_V_init_4, decode prog_5_method_1_code q.1 = .ok q.2 := by decide +kernel
def tb_V_init : Nat → Option (Instr × Nat) := (am_nd 44 (am_nd 22 (am_look tb_V_init_0) (am_look tb_V_init_1)) (am_nd 67 (am_look tb_V_init_2) (am_nd 89 (am_look tb_V_init_3) (am_look tb_V_init_4))))
theorem td_V_init : am_dok prog_5_method_1_code tb_V_init := (am_dok_nd (am_dok_nd (am_dok_lf td_V_init_0) (am_dok_lf td_V_init_1)) (am_dok_nd (am_dok_lf td_V_init_2) (am_dok_nd (am_dok_lf td_V_init_3) (am_dok_lf td_V_init_4))))
def m_V_init : am_M := (⟨"SyntaxRows$Values", "<init>", "()V"⟩, prog_5_method_1_code, 1, none, 3, 0, tb_V_init)
set_option maxRecDepth 100000 in
theorem ok_V_init : am_ok m_V_init := ⟨td_V_init, am_in 141 rfl rfl, am_in 99 (by decide +kernel) rfl, by decide, ⟨by decide, by decide, by decide +kernel⟩, rfl, by decide⟩
def tb_O_init_0 : List (Nat × (Instr × Nat)) := [(0, (.aload_n 0, 1)), (1, (.invokespecial 3, 3)), (4, (.aload_n 0, 1)), (5, (.sipush 160, 3)), (8, (.newarray .int, 2)), (10, (.putfield 11, 3)), (13, (.aload_n 0, 1)), (14, (.iconst 0, 1)), (15, (.putfield 15, 3)), (18, (.return_, 1))]
theorem td_O_init_0 : ∀ q ∈ tb_O_init_0, decode prog_2_method_1_code q.1 = .ok q.2 := by decide +kernel
def tb_O_init : Nat → Option (Instr × Nat) := (am_look tb_O_init_0)
theorem td_O_init : am_dok prog_2_method_1_code tb_O_init := (am_dok_lf td_O_init_0)
def m_O_init : am_M := (⟨"SyntaxRows$ObjectRows", "<init>", "()V"⟩, prog_2_method_1_code, 1, none, 0, 0, tb_O_init)
set_option maxRecDepth 100000 in
theorem ok_O_init : am_ok m_O_init := ⟨td_O_init, am_in 186 rfl rfl, am_in 100 (by decide +kernel) rfl, by decide, ⟨by decide, by decide, by decide +kernel⟩, rfl, by decide⟩
def tb_T_size_0 : List (Nat × (Instr × Nat)) := [(0, (.aload_n 0, 1)), (1, (.getfield 15, 3)), (4, (.ireturn, 1))]
theorem td_T_size_0 : ∀ q ∈ tb_T_size_0, decode prog_4_method_2_code q.1 = .ok q.2 := by decide +kernel
def tb_T_size : Nat → Option (Instr × Nat) := (am_look tb_T_size_0)
theorem td_T_size : am_dok prog_4_method_2_code tb_T_size := (am_dok_lf td_T_size_0)
def m_T_size : am_M := (⟨"SyntaxRows$Tape", "size", "()I"⟩, prog_4_method_2_code, 1, (some .int), 2, 0, tb_T_size)
set_option maxRecDepth 100000 in
theorem ok_T_size : am_ok m_T_size := ⟨td_T_size, am_in 286 rfl rfl, am_in 98 (by decide +kernel) rfl, by decide, ⟨by decide, by decide, by decide +kernel⟩, rfl, by decide⟩
theorem oi_T_size : am_inst m_T_size := ⟨am_in 284 (by decide +kernel) rfl, am_in 285 (by decide +kernel) rfl⟩
def tb_T_clear_0 : List (Nat × (Instr × Nat)) := [(0, (.aload_n 0, 1)), (1, (.iconst 0, 1)), (2, (.putfield 15, 3)), (5, (.return_, 1))]
theorem td_T_clear_0 : ∀ q ∈ tb_T_clear_0, decode prog_4_method_3_code q.1 = .ok q.2 := by decide +kernel
def tb_T_clear : Nat → Option (Instr × Nat) := (am_look tb_T_clear_0)
theorem td_T_clear : am_dok prog_4_method_3_code tb_T_clear := (am_dok_lf td_T_clear_0)
def m_T_clear : am_M := (⟨"SyntaxRows$Tape", "clear", "()V"⟩, prog_4_method_3_code, 1, none, 2, 0, tb_T_clear)
set_option maxRecDepth 100000 in
theorem ok_T_clear : am_ok m_T_clear := ⟨td_T_clear, am_in 290 rfl rfl, am_in 98 (by decide +kernel) rfl, by decide, ⟨by decide, by decide, by decide +kernel⟩, rfl, by decide⟩
theorem oi_T_clear : am_inst m_T_clear := ⟨am_in 288 (by decide +kernel) rfl, am_in 289 (by decide +kernel) rfl⟩
def tb_V_cutBack_0 : List (Nat × (Instr × Nat)) := [(0, (.aload_n 0, 1)), (1, (.iconst 0, 1)), (2, (.aload_n 0, 1)), (3, (.getfield 44, 3)), (6, (.iload_n 1, 1)), (7, (.invokestatic 51, 3)), (10, (.invokestatic 57, 3)), (13, (.putfield 44, 3)), (16, (.aload_n 0, 1)), (17, (.iconst 0, 1))]
theorem td_V_cutBack_0 : ∀ q ∈ tb_V_cutBack_0, decode prog_5_method_5_code q.1 = .ok q.2 := by decide +kernel
def tb_V_cutBack_1 : List (Nat × (Instr × Nat)) := [(18, (.aload_n 0, 1)), (19, (.getfield 48, 3)), (22, (.iload_n 2, 1)), (23, (.invokestatic 51, 3)), (26, (.invokestatic 57, 3)), (29, (.putfield 48, 3)), (32, (.return_, 1))]
theorem td_V_cutBack_1 : ∀ q ∈ tb_V_cutBack_1, decode prog_5_method_5_code q.1 = .ok q.2 := by decide +kernel
def tb_V_cutBack : Nat → Option (Instr × Nat) := (am_nd 18 (am_look tb_V_cutBack_0) (am_look tb_V_cutBack_1))
theorem td_V_cutBack : am_dok prog_5_method_5_code tb_V_cutBack := (am_dok_nd (am_dok_lf td_V_cutBack_0) (am_dok_lf td_V_cutBack_1))
def m_V_cutBack : am_M := (⟨"SyntaxRows$Values", "cutBack", "(II)V"⟩, prog_5_method_5_code, 3, none, 3, 2, tb_V_cutBack)
set_option maxRecDepth 100000 in
theorem ok_V_cutBack : am_ok m_V_cutBack := ⟨td_V_cutBack, am_in 302 rfl rfl, am_in 99 (by decide +kernel) rfl, by decide, ⟨by decide, by decide, by decide +kernel⟩, rfl, by decide⟩
theorem oi_V_cutBack : am_inst m_V_cutBack := ⟨am_in 300 (by decide +kernel) rfl, am_in 301 (by decide +kernel) rfl⟩
def tb_Q_min_0 : List (Nat × (Instr × Nat)) := [(0, (.iload_n 0, 1)), (1, (.iload_n 1, 1)), (2, (.if_icmp .gt 7, 3)), (5, (.iload_n 0, 1)), (6, (.goto 4, 3)), (9, (.iload_n 1, 1)), (10, (.ireturn, 1))]
theorem td_Q_min_0 : ∀ q ∈ tb_Q_min_0, decode prog_13_method_69_code q.1 = .ok q.2 := by decide +kernel
def tb_Q_min : Nat → Option (Instr × Nat) := (am_look tb_Q_min_0)
theorem td_Q_min : am_dok prog_13_method_69_code tb_Q_min := (am_dok_lf td_Q_min_0)
def m_Q_min : am_M := (⟨"java/lang/Math", "min", "(II)I"⟩, prog_13_method_69_code, 2, (some .int), 9, 2, tb_Q_min)
def tb_Q_max_0 : List (Nat × (Instr × Nat)) := [(0, (.iload_n 0, 1)), (1, (.iload_n 1, 1)), (2, (.if_icmp .lt 7, 3)), (5, (.iload_n 0, 1)), (6, (.goto 4, 3)), (9, (.iload_n 1, 1)), (10, (.ireturn, 1))]
theorem td_Q_max_0 : ∀ q ∈ tb_Q_max_0, decode prog_13_method_65_code q.1 = .ok q.2 := by decide +kernel
def tb_Q_max : Nat → Option (Instr × Nat) := (am_look tb_Q_max_0)
theorem td_Q_max : am_dok prog_13_method_65_code tb_Q_max := (am_dok_lf td_Q_max_0)
def m_Q_max : am_M := (⟨"java/lang/Math", "max", "(II)I"⟩, prog_13_method_65_code, 2, (some .int), 9, 2, tb_Q_max)
def tb_O_clear_0 : List (Nat × (Instr × Nat)) := [(0, (.aload_n 0, 1)), (1, (.iconst 0, 1)), (2, (.putfield 15, 3)), (5, (.return_, 1))]
theorem td_O_clear_0 : ∀ q ∈ tb_O_clear_0, decode prog_2_method_5_code q.1 = .ok q.2 := by decide +kernel
def tb_O_clear : Nat → Option (Instr × Nat) := (am_look tb_O_clear_0)
theorem td_O_clear : am_dok prog_2_method_5_code tb_O_clear := (am_dok_lf td_O_clear_0)
def m_O_clear : am_M := (⟨"SyntaxRows$ObjectRows", "clear", "()V"⟩, prog_2_method_5_code, 1, none, 0, 0, tb_O_clear)
set_option maxRecDepth 100000 in
theorem ok_O_clear : am_ok m_O_clear := ⟨td_O_clear, am_in 312 rfl rfl, am_in 100 (by decide +kernel) rfl, by decide, ⟨by decide, by decide, by decide +kernel⟩, rfl, by decide⟩
theorem oi_O_clear : am_inst m_O_clear := ⟨am_in 310 (by decide +kernel) rfl, am_in 311 (by decide +kernel) rfl⟩
def tb_T_behindWhite_0 : List (Nat × (Instr × Nat)) := [(0, (.iconst 0, 1)), (1, (.istore_n 2, 1)), (2, (.iload_n 1, 1)), (3, (.istore_n 3, 1)), (4, (.iload_n 3, 1)), (5, (.aload_n 0, 1)), (6, (.getfield 15, 3)), (9, (.if_icmp .ge 55, 3)), (12, (.aload_n 0, 1)), (13, (.iload_n 3, 1))]
theorem td_T_behindWhite_0 : ∀ q ∈ tb_T_behindWhite_0, decode prog_4_method_6_code q.1 = .ok q.2 := by decide +kernel
def tb_T_behindWhite_1 : List (Nat × (Instr × Nat)) := [(14, (.invokevirtual 19, 3)), (17, (.istore 4, 2)), (19, (.iload 4, 2)), (21, (.invokestatic 23, 3)), (24, (.ifCond .eq 8, 3)), (27, (.iconst 0, 1)), (28, (.istore_n 2, 1)), (29, (.goto 29, 3)), (32, (.iload 4, 2)), (34, (.bipush 37, 2))]
theorem td_T_behindWhite_1 : ∀ q ∈ tb_T_behindWhite_1, decode prog_4_method_6_code q.1 = .ok q.2 := by decide +kernel
def tb_T_behindWhite_2 : List (Nat × (Instr × Nat)) := [(36, (.if_icmp .ne 8, 3)), (39, (.iconst 1, 1)), (40, (.istore_n 2, 1)), (41, (.goto 17, 3)), (44, (.iload_n 2, 1)), (45, (.ifCond .ne 13, 3)), (48, (.iload 4, 2)), (50, (.invokestatic 27, 3)), (53, (.ifCond .ne 5, 3)), (56, (.iload_n 3, 1))]
theorem td_T_behindWhite_2 : ∀ q ∈ tb_T_behindWhite_2, decode prog_4_method_6_code q.1 = .ok q.2 := by decide +kernel
def tb_T_behindWhite_3 : List (Nat × (Instr × Nat)) := [(57, (.ireturn, 1)), (58, (.iinc 3 1, 3)), (61, (.goto (-57), 3)), (64, (.aload_n 0, 1)), (65, (.getfield 15, 3)), (68, (.ireturn, 1))]
theorem td_T_behindWhite_3 : ∀ q ∈ tb_T_behindWhite_3, decode prog_4_method_6_code q.1 = .ok q.2 := by decide +kernel
def tb_T_behindWhite : Nat → Option (Instr × Nat) := (am_nd 36 (am_nd 14 (am_look tb_T_behindWhite_0) (am_look tb_T_behindWhite_1)) (am_nd 57 (am_look tb_T_behindWhite_2) (am_look tb_T_behindWhite_3)))
theorem td_T_behindWhite : am_dok prog_4_method_6_code tb_T_behindWhite := (am_dok_nd (am_dok_nd (am_dok_lf td_T_behindWhite_0) (am_dok_lf td_T_behindWhite_1)) (am_dok_nd (am_dok_lf td_T_behindWhite_2) (am_dok_lf td_T_behindWhite_3)))
def m_T_behindWhite : am_M := (⟨"SyntaxRows$Tape", "behindWhite", "(I)I"⟩, prog_4_method_6_code, 5, (some .int), 2, 1, tb_T_behindWhite)
set_option maxRecDepth 100000 in
theorem ok_T_behindWhite : am_ok m_T_behindWhite := ⟨td_T_behindWhite, am_in 316 rfl rfl, am_in 98 (by decide +kernel) rfl, by decide, ⟨by decide, by decide, by decide +kernel⟩, rfl, by decide⟩
theorem oi_T_behindWhite : am_inst m_T_behindWhite := ⟨am_in 314 (by decide +kernel) rfl, am_in 315 (by decide +kernel) rfl⟩
def tb_T_at_0 : List (Nat × (Instr × Nat)) := [(0, (.iload_n 1, 1)), (1, (.ifCond .lt 11, 3)), (4, (.iload_n 1, 1)), (5, (.aload_n 0, 1)), (6, (.getfield 15, 3)), (9, (.if_icmp .lt 7, 3)), (12, (.iconst (-1), 1)), (13, (.goto 13, 3)), (16, (.aload_n 0, 1)), (17, (.getfield 9, 3))]
theorem td_T_at_0 : ∀ q ∈ tb_T_at_0, decode prog_4_method_5_code q.1 = .ok q.2 := by decide +kernel
def tb_T_at_1 : List (Nat × (Instr × Nat)) := [(20, (.iload_n 1, 1)), (21, (.baload, 1)), (22, (.sipush 255, 3)), (25, (.iand, 1)), (26, (.ireturn, 1))]
theorem td_T_at_1 : ∀ q ∈ tb_T_at_1, decode prog_4_method_5_code q.1 = .ok q.2 := by decide +kernel
def tb_T_at : Nat → Option (Instr × Nat) := (am_nd 20 (am_look tb_T_at_0) (am_look tb_T_at_1))
theorem td_T_at : am_dok prog_4_method_5_code tb_T_at := (am_dok_nd (am_dok_lf td_T_at_0) (am_dok_lf td_T_at_1))
def m_T_at : am_M := (⟨"SyntaxRows$Tape", "at", "(I)I"⟩, prog_4_method_5_code, 2, (some .int), 2, 1, tb_T_at)
set_option maxRecDepth 100000 in
theorem ok_T_at : am_ok m_T_at := ⟨td_T_at, am_in 320 rfl rfl, am_in 98 (by decide +kernel) rfl, by decide, ⟨by decide, by decide, by decide +kernel⟩, rfl, by decide⟩
theorem oi_T_at : am_inst m_T_at := ⟨am_in 318 (by decide +kernel) rfl, am_in 319 (by decide +kernel) rfl⟩
def tb_O_hasRoom_0 : List (Nat × (Instr × Nat)) := [(0, (.aload_n 0, 1)), (1, (.getfield 15, 3)), (4, (.bipush 20, 2)), (6, (.if_icmp .ge 7, 3)), (9, (.iconst 1, 1)), (10, (.goto 4, 3)), (13, (.iconst 0, 1)), (14, (.ireturn, 1))]
theorem td_O_hasRoom_0 : ∀ q ∈ tb_O_hasRoom_0, decode prog_2_method_4_code q.1 = .ok q.2 := by decide +kernel
def tb_O_hasRoom : Nat → Option (Instr × Nat) := (am_look tb_O_hasRoom_0)
theorem td_O_hasRoom : am_dok prog_2_method_4_code tb_O_hasRoom := (am_dok_lf td_O_hasRoom_0)
def m_O_hasRoom : am_M := (⟨"SyntaxRows$ObjectRows", "hasRoom", "()Z"⟩, prog_2_method_4_code, 1, (some .boolean), 0, 0, tb_O_hasRoom)
set_option maxRecDepth 100000 in
theorem ok_O_hasRoom : am_ok m_O_hasRoom := ⟨td_O_hasRoom, am_in 331 rfl rfl, am_in 100 (by decide +kernel) rfl, by decide, ⟨by decide, by decide, by decide +kernel⟩, rfl, by decide⟩
theorem oi_O_hasRoom : am_inst m_O_hasRoom := ⟨am_in 329 (by decide +kernel) rfl, am_in 330 (by decide +kernel) rfl⟩
def tb_T_behindFigures_0 : List (Nat × (Instr × Nat)) := [(0, (.iload_n 1, 1)), (1, (.istore_n 2, 1)), (2, (.iconst 0, 1)), (3, (.istore_n 3, 1)), (4, (.iload_n 3, 1)), (5, (.bipush 9, 2)), (7, (.if_icmp .ge 23, 3)), (10, (.aload_n 0, 1)), (11, (.iload_n 2, 1)), (12, (.invokevirtual 19, 3))]
theorem td_T_behindFigures_0 : ∀ q ∈ tb_T_behindFigures_0, decode prog_4_method_12_code q.1 = .ok q.2 := by decide +kernel
def tb_T_behindFigures_1 : List (Nat × (Instr × Nat)) := [(15, (.invokestatic 47, 3)), (18, (.ifCond .eq 12, 3)), (21, (.iinc 2 1, 3)), (24, (.iinc 3 1, 3)), (27, (.goto (-23), 3)), (30, (.iload_n 2, 1)), (31, (.iload_n 1, 1)), (32, (.if_icmp .eq 14, 3)), (35, (.aload_n 0, 1)), (36, (.iload_n 2, 1))]
theorem td_T_behindFigures_1 : ∀ q ∈ tb_T_behindFigures_1, decode prog_4_method_12_code q.1 = .ok q.2 := by decide +kernel
def tb_T_behindFigures_2 : List (Nat × (Instr × Nat)) := [(37, (.invokevirtual 19, 3)), (40, (.invokestatic 30, 3)), (43, (.ifCond .eq 7, 3)), (46, (.iconst (-1), 1)), (47, (.goto 4, 3)), (50, (.iload_n 2, 1)), (51, (.ireturn, 1))]
theorem td_T_behindFigures_2 : ∀ q ∈ tb_T_behindFigures_2, decode prog_4_method_12_code q.1 = .ok q.2 := by decide +kernel
def tb_T_behindFigures : Nat → Option (Instr × Nat) := (am_nd 15 (am_look tb_T_behindFigures_0) (am_nd 37 (am_look tb_T_behindFigures_1) (am_look tb_T_behindFigures_2)))
theorem td_T_behindFigures : am_dok prog_4_method_12_code tb_T_behindFigures := (am_dok_nd (am_dok_lf td_T_behindFigures_0) (am_dok_nd (am_dok_lf td_T_behindFigures_1) (am_dok_lf td_T_behindFigures_2)))
def m_T_behindFigures : am_M := (⟨"SyntaxRows$Tape", "behindFigures", "(I)I"⟩, prog_4_method_12_code, 4, (some .int), 2, 1, tb_T_behindFigures)
set_option maxRecDepth 100000 in
theorem ok_T_behindFigures : am_ok m_T_behindFigures := ⟨td_T_behindFigures, am_in 340 rfl rfl, am_in 98 (by decide +kernel) rfl, by decide, ⟨by decide, by decide, by decide +kernel⟩, rfl, by decide⟩
theorem oi_T_behindFigures : am_inst m_T_behindFigures := ⟨am_in 338 (by decide +kernel) rfl, am_in 339 (by decide +kernel) rfl⟩
def tb_J_indexOf_0 : List (Nat × (Instr × Nat)) := [(0, (.aload_n 0, 1)), (1, (.iload_n 1, 1)), (2, (.iconst 0, 1)), (3, (.invokevirtual 633, 3)), (6, (.ireturn, 1))]
theorem td_J_indexOf_0 : ∀ q ∈ tb_J_indexOf_0, decode prog_15_method_79_code q.1 = .ok q.2 := by decide +kernel
def tb_J_indexOf : Nat → Option (Instr × Nat) := (am_look tb_J_indexOf_0)
theorem td_J_indexOf : am_dok prog_15_method_79_code tb_J_indexOf := (am_dok_lf td_J_indexOf_0)
def m_J_indexOf : am_M := (⟨"java/lang/String", "indexOf", "(I)I"⟩, prog_15_method_79_code, 2, (some .int), 7, 1, tb_J_indexOf)
set_option maxRecDepth 100000 in
theorem ok_J_indexOf : am_ok m_J_indexOf := ⟨td_J_indexOf, am_in 351 rfl rfl, am_in 109 (by decide +kernel) rfl, by decide, ⟨by decide, by decide, by decide +kernel⟩, rfl, by decide⟩
theorem oi_J_indexOf : am_inst m_J_indexOf := ⟨am_in 349 (by decide +kernel) rfl, am_in 350 (by decide +kernel) rfl⟩
def tb_J_indexOf2_0 : List (Nat × (Instr × Nat)) := [(0, (.aload_n 0, 1)), (1, (.invokevirtual 492, 3)), (4, (.ifCond .eq 19, 3)), (7, (.aload_n 0, 1)), (8, (.getfield 9, 3)), (11, (.iload_n 1, 1)), (12, (.iload_n 2, 1)), (13, (.aload_n 0, 1)), (14, (.invokevirtual 505, 3)), (17, (.invokestatic 637, 3))]
theorem td_J_indexOf2_0 : ∀ q ∈ tb_J_indexOf2_0, decode prog_15_method_80_code q.1 = .ok q.2 := by decide +kernel
def tb_J_indexOf2_1 : List (Nat × (Instr × Nat)) := [(20, (.goto 16, 3)), (23, (.aload_n 0, 1)), (24, (.getfield 9, 3)), (27, (.iload_n 1, 1)), (28, (.iload_n 2, 1)), (29, (.aload_n 0, 1)), (30, (.invokevirtual 505, 3)), (33, (.invokestatic 640, 3)), (36, (.ireturn, 1))]
theorem td_J_indexOf2_1 : ∀ q ∈ tb_J_indexOf2_1, decode prog_15_method_80_code q.1 = .ok q.2 := by decide +kernel
def tb_J_indexOf2 : Nat → Option (Instr × Nat) := (am_nd 20 (am_look tb_J_indexOf2_0) (am_look tb_J_indexOf2_1))
theorem td_J_indexOf2 : am_dok prog_15_method_80_code tb_J_indexOf2 := (am_dok_nd (am_dok_lf td_J_indexOf2_0) (am_dok_lf td_J_indexOf2_1))
def m_J_indexOf2 : am_M := (⟨"java/lang/String", "indexOf", "(II)I"⟩, prog_15_method_80_code, 3, (some .int), 7, 2, tb_J_indexOf2)
set_option maxRecDepth 100000 in
theorem ok_J_indexOf2 : am_ok m_J_indexOf2 := ⟨td_J_indexOf2, am_in 355 rfl rfl, am_in 109 (by decide +kernel) rfl, by decide, ⟨by decide, by decide, by decide +kernel⟩, rfl, by decide⟩
theorem oi_J_indexOf2 : am_inst m_J_indexOf2 := ⟨am_in 353 (by decide +kernel) rfl, am_in 354 (by decide +kernel) rfl⟩
def tb_J_isLatin1_0 : List (Nat × (Instr × Nat)) := [(0, (.getstatic 38, 3)), (3, (.ifCond .eq 14, 3)), (6, (.aload_n 0, 1)), (7, (.getfield 15, 3)), (10, (.ifCond .ne 7, 3)), (13, (.iconst 1, 1)), (14, (.goto 4, 3)), (17, (.iconst 0, 1)), (18, (.ireturn, 1))]
theorem td_J_isLatin1_0 : ∀ q ∈ tb_J_isLatin1_0, decode prog_15_method_154_code q.1 = .ok q.2 := by decide +kernel
def tb_J_isLatin1 : Nat → Option (Instr × Nat) := (am_look tb_J_isLatin1_0)
theorem td_J_isLatin1 : am_dok prog_15_method_154_code tb_J_isLatin1 := (am_dok_lf td_J_isLatin1_0)
def m_J_isLatin1 : am_M := (⟨"java/lang/String", "isLatin1", "()Z"⟩, prog_15_method_154_code, 1, (some .boolean), 7, 0, tb_J_isLatin1)
set_option maxRecDepth 100000 in
theorem ok_J_isLatin1 : am_ok m_J_isLatin1 := ⟨td_J_isLatin1, am_in 359 rfl rfl, am_in 109 (by decide +kernel) rfl, by decide, ⟨by decide, by decide, by decide +kernel⟩, rfl, by decide⟩
theorem oi_J_isLatin1 : am_inst m_J_isLatin1 := ⟨am_in 357 (by decide +kernel) rfl, am_in 358 (by decide +kernel) rfl⟩
def tb_J_length_0 : List (Nat × (Instr × Nat)) := [(0, (.aload_n 0, 1)), (1, (.getfield 9, 3)), (4, (.arraylength, 1)), (5, (.aload_n 0, 1)), (6, (.invokevirtual 335, 3)), (9, (.ishr, 1)), (10, (.ireturn, 1))]
theorem td_J_length_0 : ∀ q ∈ tb_J_length_0, decode prog_15_method_54_code q.1 = .ok q.2 := by decide +kernel
def tb_J_length : Nat → Option (Instr × Nat) := (am_look tb_J_length_0)
theorem td_J_length : am_dok prog_15_method_54_code tb_J_length := (am_dok_lf td_J_length_0)
def m_J_length : am_M := (⟨"java/lang/String", "length", "()I"⟩, prog_15_method_54_code, 1, (some .int), 7, 0, tb_J_length)
set_option maxRecDepth 100000 in
theorem ok_J_length : am_ok m_J_length := ⟨td_J_length, am_in 365 rfl rfl, am_in 109 (by decide +kernel) rfl, by decide, ⟨by decide, by decide, by decide +kernel⟩, rfl, by decide⟩
theorem oi_J_length : am_inst m_J_length := ⟨am_in 363 (by decide +kernel) rfl, am_in 364 (by decide +kernel) rfl⟩
def tb_J_coder_0 : List (Nat × (Instr × Nat)) := [(0, (.getstatic 38, 3)), (3, (.ifCond .eq 10, 3)), (6, (.aload_n 0, 1)), (7, (.getfield 15, 3)), (10, (.goto 4, 3)), (13, (.iconst 1, 1)), (14, (.ireturn, 1))]
theorem td_J_coder_0 : ∀ q ∈ tb_J_coder_0, decode prog_15_method_152_code q.1 = .ok q.2 := by decide +kernel
def tb_J_coder : Nat → Option (Instr × Nat) := (am_look tb_J_coder_0)
theorem td_J_coder : am_dok prog_15_method_152_code tb_J_coder := (am_dok_lf td_J_coder_0)
def m_J_coder : am_M := (⟨"java/lang/String", "coder", "()B"⟩, prog_15_method_152_code, 1, (some .byte), 7, 0, tb_J_coder)
set_option maxRecDepth 100000 in
theorem ok_J_coder : am_ok m_J_coder := ⟨td_J_coder, am_in 369 rfl rfl, am_in 109 (by decide +kernel) rfl, by decide, ⟨by decide, by decide, by decide +kernel⟩, rfl, by decide⟩
theorem oi_J_coder : am_inst m_J_coder := ⟨am_in 367 (by decide +kernel) rfl, am_in 368 (by decide +kernel) rfl⟩
def tb_L_indexOf_0 : List (Nat × (Instr × Nat)) := [(0, (.iload_n 1, 1)), (1, (.invokestatic 88, 3)), (4, (.ifCond .ne 5, 3)), (7, (.iconst (-1), 1)), (8, (.ireturn, 1)), (9, (.iload_n 2, 1)), (10, (.iconst 0, 1)), (11, (.invokestatic 92, 3)), (14, (.istore_n 2, 1)), (15, (.iload_n 3, 1))]
theorem td_L_indexOf_0 : ∀ q ∈ tb_L_indexOf_0, decode prog_16_method_22_code q.1 = .ok q.2 := by decide +kernel
def tb_L_indexOf_1 : List (Nat × (Instr × Nat)) := [(16, (.aload_n 0, 1)), (17, (.arraylength, 1)), (18, (.invokestatic 38, 3)), (21, (.istore_n 3, 1)), (22, (.iload_n 2, 1)), (23, (.iload_n 3, 1)), (24, (.if_icmp .lt 5, 3)), (27, (.iconst (-1), 1)), (28, (.ireturn, 1)), (29, (.aload_n 0, 1))]
theorem td_L_indexOf_1 : ∀ q ∈ tb_L_indexOf_1, decode prog_16_method_22_code q.1 = .ok q.2 := by decide +kernel
def tb_L_indexOf_2 : List (Nat × (Instr × Nat)) := [(30, (.iload_n 1, 1)), (31, (.iload_n 2, 1)), (32, (.iload_n 3, 1)), (33, (.invokestatic 95, 3)), (36, (.ireturn, 1))]
theorem td_L_indexOf_2 : ∀ q ∈ tb_L_indexOf_2, decode prog_16_method_22_code q.1 = .ok q.2 := by decide +kernel
def tb_L_indexOf : Nat → Option (Instr × Nat) := (am_nd 16 (am_look tb_L_indexOf_0) (am_nd 30 (am_look tb_L_indexOf_1) (am_look tb_L_indexOf_2)))
theorem td_L_indexOf : am_dok prog_16_method_22_code tb_L_indexOf := (am_dok_nd (am_dok_lf td_L_indexOf_0) (am_dok_nd (am_dok_lf td_L_indexOf_1) (am_dok_lf td_L_indexOf_2)))
def m_L_indexOf : am_M := (⟨"java/lang/StringLatin1", "indexOf", "([BIII)I"⟩, prog_16_method_22_code, 4, (some .int), 8, 4, tb_L_indexOf)
set_option maxRecDepth 100000 in
theorem ok_L_indexOf : am_ok m_L_indexOf := ⟨td_L_indexOf, am_in 372 rfl rfl, am_in 110 (by decide +kernel) rfl, by decide, ⟨by decide, by decide, by decide +kernel⟩, rfl, by decide⟩
theorem os_L_indexOf : am_stat m_L_indexOf := am_in 371 (by decide +kernel) rfl
def tb_L_canEncode_0 : List (Nat × (Instr × Nat)) := [(0, (.iload_n 0, 1)), (1, (.ifCond .lt 14, 3)), (4, (.iload_n 0, 1)), (5, (.sipush 255, 3)), (8, (.if_icmp .gt 7, 3)), (11, (.iconst 1, 1)), (12, (.goto 4, 3)), (15, (.iconst 0, 1)), (16, (.ireturn, 1))]
theorem td_L_canEncode_0 : ∀ q ∈ tb_L_canEncode_0, decode prog_16_method_4_code q.1 = .ok q.2 := by decide +kernel
def tb_L_canEncode : Nat → Option (Instr × Nat) := (am_look tb_L_canEncode_0)
theorem td_L_canEncode : am_dok prog_16_method_4_code tb_L_canEncode := (am_dok_lf td_L_canEncode_0)
def m_L_canEncode : am_M := (⟨"java/lang/StringLatin1", "canEncode", "(I)Z"⟩, prog_16_method_4_code, 1, (some .boolean), 8, 1, tb_L_canEncode)
set_option maxRecDepth 100000 in
theorem ok_L_canEncode : am_ok m_L_canEncode := ⟨td_L_canEncode, am_in 375 rfl rfl, am_in 110 (by decide +kernel) rfl, by decide, ⟨by decide, by decide, by decide +kernel⟩, rfl, by decide⟩
theorem os_L_canEncode : am_stat m_L_canEncode := am_in 374 (by decide +kernel) rfl
def tb_L_indexOfChar_0 : List (Nat × (Instr × Nat)) := [(0, (.iload_n 1, 1)), (1, (.i2b, 1)), (2, (.istore 4, 2)), (4, (.iload_n 2, 1)), (5, (.istore 5, 2)), (7, (.iload 5, 2)), (9, (.iload_n 3, 1)), (10, (.if_icmp .ge 21, 3)), (13, (.aload_n 0, 1)), (14, (.iload 5, 2))]
theorem td_L_indexOfChar_0 : ∀ q ∈ tb_L_indexOfChar_0, decode prog_16_method_23_code q.1 = .ok q.2 := by decide +kernel
def tb_L_indexOfChar_1 : List (Nat × (Instr × Nat)) := [(16, (.baload, 1)), (17, (.iload 4, 2)), (19, (.if_icmp .ne 6, 3)), (22, (.iload 5, 2)), (24, (.ireturn, 1)), (25, (.iinc 5 1, 3)), (28, (.goto (-21), 3)), (31, (.iconst (-1), 1)), (32, (.ireturn, 1))]
theorem td_L_indexOfChar_1 : ∀ q ∈ tb_L_indexOfChar_1, decode prog_16_method_23_code q.1 = .ok q.2 := by decide +kernel
def tb_L_indexOfChar : Nat → Option (Instr × Nat) := (am_nd 16 (am_look tb_L_indexOfChar_0) (am_look tb_L_indexOfChar_1))
theorem td_L_indexOfChar : am_dok prog_16_method_23_code tb_L_indexOfChar := (am_dok_nd (am_dok_lf td_L_indexOfChar_0) (am_dok_lf td_L_indexOfChar_1))
def m_L_indexOfChar : am_M := (⟨"java/lang/StringLatin1", "indexOfChar", "([BIII)I"⟩, prog_16_method_23_code, 6, (some .int), 8, 4, tb_L_indexOfChar)
set_option maxRecDepth 100000 in
theorem ok_L_indexOfChar : am_ok m_L_indexOfChar := ⟨td_L_indexOfChar, am_in 380 rfl rfl, am_in 110 (by decide +kernel) rfl, by decide, ⟨by decide, by decide, by decide +kernel⟩, rfl, by decide⟩
theorem os_L_indexOfChar : am_stat m_L_indexOfChar := am_in 379 (by decide +kernel) rfl
def tb_T_wordStands_0 : List (Nat × (Instr × Nat)) := [(0, (.aload_n 0, 1)), (1, (.iload_n 1, 1)), (2, (.aload_n 2, 1)), (3, (.invokevirtual 43, 3)), (6, (.ifCond .eq 23, 3)), (9, (.aload_n 0, 1)), (10, (.iload_n 1, 1)), (11, (.aload_n 2, 1)), (12, (.invokevirtual 33, 3)), (15, (.iadd, 1))]
theorem td_T_wordStands_0 : ∀ q ∈ tb_T_wordStands_0, decode prog_4_method_10_code q.1 = .ok q.2 := by decide +kernel
def tb_T_wordStands_1 : List (Nat × (Instr × Nat)) := [(16, (.invokevirtual 19, 3)), (19, (.invokestatic 30, 3)), (22, (.ifCond .ne 7, 3)), (25, (.iconst 1, 1)), (26, (.goto 4, 3)), (29, (.iconst 0, 1)), (30, (.ireturn, 1))]
theorem td_T_wordStands_1 : ∀ q ∈ tb_T_wordStands_1, decode prog_4_method_10_code q.1 = .ok q.2 := by decide +kernel
def tb_T_wordStands : Nat → Option (Instr × Nat) := (am_nd 16 (am_look tb_T_wordStands_0) (am_look tb_T_wordStands_1))
theorem td_T_wordStands : am_dok prog_4_method_10_code tb_T_wordStands := (am_dok_nd (am_dok_lf td_T_wordStands_0) (am_dok_lf td_T_wordStands_1))
def m_T_wordStands : am_M := (⟨"SyntaxRows$Tape", "wordStands", "(ILjava/lang/String;)Z"⟩, prog_4_method_10_code, 3, (some .boolean), 2, 2, tb_T_wordStands)
set_option maxRecDepth 100000 in
theorem ok_T_wordStands : am_ok m_T_wordStands := ⟨td_T_wordStands, am_in 433 rfl rfl, am_in 98 (by decide +kernel) rfl, by decide, ⟨by decide, by decide, by decide +kernel⟩, rfl, by decide⟩
theorem oi_T_wordStands : am_inst m_T_wordStands := ⟨am_in 431 (by decide +kernel) rfl, am_in 432 (by decide +kernel) rfl⟩
def tb_T_textStands_0 : List (Nat × (Instr × Nat)) := [(0, (.iload_n 1, 1)), (1, (.ifCond .lt 16, 3)), (4, (.iload_n 1, 1)), (5, (.aload_n 0, 1)), (6, (.getfield 15, 3)), (9, (.aload_n 2, 1)), (10, (.invokevirtual 33, 3)), (13, (.isub, 1)), (14, (.if_icmp .le 5, 3)), (17, (.iconst 0, 1))]
theorem td_T_textStands_0 : ∀ q ∈ tb_T_textStands_0, decode prog_4_method_9_code q.1 = .ok q.2 := by decide +kernel
def tb_T_textStands_1 : List (Nat × (Instr × Nat)) := [(18, (.ireturn, 1)), (19, (.iconst 0, 1)), (20, (.istore_n 3, 1)), (21, (.iload_n 3, 1)), (22, (.aload_n 2, 1)), (23, (.invokevirtual 33, 3)), (26, (.if_icmp .ge 27, 3)), (29, (.aload_n 0, 1)), (30, (.getfield 9, 3)), (33, (.iload_n 1, 1))]
theorem td_T_textStands_1 : ∀ q ∈ tb_T_textStands_1, decode prog_4_method_9_code q.1 = .ok q.2 := by decide +kernel
def tb_T_textStands_2 : List (Nat × (Instr × Nat)) := [(34, (.iload_n 3, 1)), (35, (.iadd, 1)), (36, (.baload, 1)), (37, (.aload_n 2, 1)), (38, (.iload_n 3, 1)), (39, (.invokevirtual 39, 3)), (42, (.if_icmp .eq 5, 3)), (45, (.iconst 0, 1)), (46, (.ireturn, 1)), (47, (.iinc 3 1, 3))]
theorem td_T_textStands_2 : ∀ q ∈ tb_T_textStands_2, decode prog_4_method_9_code q.1 = .ok q.2 := by decide +kernel
def tb_T_textStands_3 : List (Nat × (Instr × Nat)) := [(50, (.goto (-29), 3)), (53, (.iconst 1, 1)), (54, (.ireturn, 1))]
theorem td_T_textStands_3 : ∀ q ∈ tb_T_textStands_3, decode prog_4_method_9_code q.1 = .ok q.2 := by decide +kernel
def tb_T_textStands : Nat → Option (Instr × Nat) := (am_nd 34 (am_nd 18 (am_look tb_T_textStands_0) (am_look tb_T_textStands_1)) (am_nd 50 (am_look tb_T_textStands_2) (am_look tb_T_textStands_3)))
theorem td_T_textStands : am_dok prog_4_method_9_code tb_T_textStands := (am_dok_nd (am_dok_nd (am_dok_lf td_T_textStands_0) (am_dok_lf td_T_textStands_1)) (am_dok_nd (am_dok_lf td_T_textStands_2) (am_dok_lf td_T_textStands_3)))
def m_T_textStands : am_M := (⟨"SyntaxRows$Tape", "textStands", "(ILjava/lang/String;)Z"⟩, prog_4_method_9_code, 4, (some .boolean), 2, 2, tb_T_textStands)
set_option maxRecDepth 100000 in
theorem ok_T_textStands : am_ok m_T_textStands := ⟨td_T_textStands, am_in 437 rfl rfl, am_in 98 (by decide +kernel) rfl, by decide, ⟨by decide, by decide, by decide +kernel⟩, rfl, by decide⟩
theorem oi_T_textStands : am_inst m_T_textStands := ⟨am_in 435 (by decide +kernel) rfl, am_in 436 (by decide +kernel) rfl⟩
def tb_J_charAt_0 : List (Nat × (Instr × Nat)) := [(0, (.aload_n 0, 1)), (1, (.invokevirtual 492, 3)), (4, (.ifCond .eq 12, 3)), (7, (.aload_n 0, 1)), (8, (.getfield 9, 3)), (11, (.iload_n 1, 1)), (12, (.invokestatic 495, 3)), (15, (.ireturn, 1)), (16, (.aload_n 0, 1)), (17, (.getfield 9, 3))]
theorem td_J_charAt_0 : ∀ q ∈ tb_J_charAt_0, decode prog_15_method_56_code q.1 = .ok q.2 := by decide +kernel
def tb_J_charAt_1 : List (Nat × (Instr × Nat)) := [(20, (.iload_n 1, 1)), (21, (.invokestatic 498, 3)), (24, (.ireturn, 1))]
theorem td_J_charAt_1 : ∀ q ∈ tb_J_charAt_1, decode prog_15_method_56_code q.1 = .ok q.2 := by decide +kernel
def tb_J_charAt : Nat → Option (Instr × Nat) := (am_nd 20 (am_look tb_J_charAt_0) (am_look tb_J_charAt_1))
theorem td_J_charAt : am_dok prog_15_method_56_code tb_J_charAt := (am_dok_nd (am_dok_lf td_J_charAt_0) (am_dok_lf td_J_charAt_1))
def m_J_charAt : am_M := (⟨"java/lang/String", "charAt", "(I)C"⟩, prog_15_method_56_code, 2, (some .char), 7, 1, tb_J_charAt)
set_option maxRecDepth 100000 in
theorem ok_J_charAt : am_ok m_J_charAt := ⟨td_J_charAt, am_in 442 rfl rfl, am_in 109 (by decide +kernel) rfl, by decide, ⟨by decide, by decide, by decide +kernel⟩, rfl, by decide⟩
theorem oi_J_charAt : am_inst m_J_charAt := ⟨am_in 440 (by decide +kernel) rfl, am_in 441 (by decide +kernel) rfl⟩
def tb_L_charAt_0 : List (Nat × (Instr × Nat)) := [(0, (.iload_n 1, 1)), (1, (.aload_n 0, 1)), (2, (.arraylength, 1)), (3, (.invokestatic 9, 3)), (6, (.aload_n 0, 1)), (7, (.iload_n 1, 1)), (8, (.baload, 1)), (9, (.sipush 255, 3)), (12, (.iand, 1)), (13, (.i2c, 1))]
theorem td_L_charAt_0 : ∀ q ∈ tb_L_charAt_0, decode prog_16_method_2_code q.1 = .ok q.2 := by decide +kernel
def tb_L_charAt_1 : List (Nat × (Instr × Nat)) := [(14, (.ireturn, 1))]
theorem td_L_charAt_1 : ∀ q ∈ tb_L_charAt_1, decode prog_16_method_2_code q.1 = .ok q.2 := by decide +kernel
def tb_L_charAt : Nat → Option (Instr × Nat) := (am_nd 14 (am_look tb_L_charAt_0) (am_look tb_L_charAt_1))
theorem td_L_charAt : am_dok prog_16_method_2_code tb_L_charAt := (am_dok_nd (am_dok_lf td_L_charAt_0) (am_dok_lf td_L_charAt_1))
def m_L_charAt : am_M := (⟨"java/lang/StringLatin1", "charAt", "([BI)C"⟩, prog_16_method_2_code, 2, (some .char), 8, 2, tb_L_charAt)
set_option maxRecDepth 100000 in
theorem ok_L_charAt : am_ok m_L_charAt := ⟨td_L_charAt, am_in 445 rfl rfl, am_in 110 (by decide +kernel) rfl, by decide, ⟨by decide, by decide, by decide +kernel⟩, rfl, by decide⟩
theorem os_L_charAt : am_stat m_L_charAt := am_in 444 (by decide +kernel) rfl
def tb_J_checkIndex_0 : List (Nat × (Instr × Nat)) := [(0, (.iload_n 0, 1)), (1, (.iload_n 1, 1)), (2, (.getstatic 1053, 3)), (5, (.invokestatic 1059, 3)), (8, (.pop, 1)), (9, (.return_, 1))]
theorem td_J_checkIndex_0 : ∀ q ∈ tb_J_checkIndex_0, decode prog_15_method_155_code q.1 = .ok q.2 := by decide +kernel
def tb_J_checkIndex : Nat → Option (Instr × Nat) := (am_look tb_J_checkIndex_0)
theorem td_J_checkIndex : am_dok prog_15_method_155_code tb_J_checkIndex := (am_dok_lf td_J_checkIndex_0)
def m_J_checkIndex : am_M := (⟨"java/lang/String", "checkIndex", "(II)V"⟩, prog_15_method_155_code, 2, none, 7, 2, tb_J_checkIndex)
set_option maxRecDepth 100000 in
theorem ok_J_checkIndex : am_ok m_J_checkIndex := ⟨td_J_checkIndex, am_in 448 rfl rfl, am_in 109 (by decide +kernel) rfl, by decide, ⟨by decide, by decide, by decide +kernel⟩, rfl, by decide⟩
theorem os_J_checkIndex : am_stat m_J_checkIndex := am_in 447 (by decide +kernel) rfl
def tb_P_checkIndex_0 : List (Nat × (Instr × Nat)) := [(0, (.iload_n 0, 1)), (1, (.ifCond .lt 8, 3)), (4, (.iload_n 0, 1)), (5, (.iload_n 1, 1)), (6, (.if_icmp .lt 10, 3)), (9, (.aload_n 2, 1)), (10, (.iload_n 0, 1)), (11, (.iload_n 1, 1)), (12, (.invokestatic 95, 3)), (15, (.athrow, 1))]
theorem td_P_checkIndex_0 : ∀ q ∈ tb_P_checkIndex_0, decode prog_19_method_11_code q.1 = .ok q.2 := by decide +kernel
def tb_P_checkIndex_1 : List (Nat × (Instr × Nat)) := [(16, (.iload_n 0, 1)), (17, (.ireturn, 1))]
theorem td_P_checkIndex_1 : ∀ q ∈ tb_P_checkIndex_1, decode prog_19_method_11_code q.1 = .ok q.2 := by decide +kernel
def tb_P_checkIndex : Nat → Option (Instr × Nat) := (am_nd 16 (am_look tb_P_checkIndex_0) (am_look tb_P_checkIndex_1))
theorem td_P_checkIndex : am_dok prog_19_method_11_code tb_P_checkIndex := (am_dok_nd (am_dok_lf td_P_checkIndex_0) (am_dok_lf td_P_checkIndex_1))
def m_P_checkIndex : am_M := (⟨"jdk/internal/util/Preconditions", "checkIndex", "(IILjava/util/function/BiFunction;)I"⟩, prog_19_method_11_code, 3, (some .int), 11, 3, tb_P_checkIndex)
set_option maxRecDepth 100000 in
theorem ok_P_checkIndex : am_ok m_P_checkIndex := ⟨td_P_checkIndex, am_in 451 rfl rfl, am_in 112 (by decide +kernel) rfl, by decide, ⟨by decide, by decide, by decide +kernel⟩, rfl, by decide⟩
theorem os_P_checkIndex : am_stat m_P_checkIndex := am_in 450 (by decide +kernel) rfl
def tb_T_figuresBetween_0 : List (Nat × (Instr × Nat)) := [(0, (.iconst 0, 1)), (1, (.istore_n 3, 1)), (2, (.iload_n 1, 1)), (3, (.istore 4, 2)), (5, (.iload 4, 2)), (7, (.iload_n 2, 1)), (8, (.if_icmp .ge 24, 3)), (11, (.iload_n 3, 1)), (12, (.bipush 10, 2)), (14, (.imul, 1))]
theorem td_T_figuresBetween_0 : ∀ q ∈ tb_T_figuresBetween_0, decode prog_4_method_13_code q.1 = .ok q.2 := by decide +kernel
def tb_T_figuresBetween_1 : List (Nat × (Instr × Nat)) := [(15, (.aload_n 0, 1)), (16, (.iload 4, 2)), (18, (.invokevirtual 19, 3)), (21, (.iadd, 1)), (22, (.bipush 48, 2)), (24, (.isub, 1)), (25, (.istore_n 3, 1)), (26, (.iinc 4 1, 3)), (29, (.goto (-24), 3)), (32, (.iload_n 3, 1))]
theorem td_T_figuresBetween_1 : ∀ q ∈ tb_T_figuresBetween_1, decode prog_4_method_13_code q.1 = .ok q.2 := by decide +kernel
def tb_T_figuresBetween_2 : List (Nat × (Instr × Nat)) := [(33, (.ireturn, 1))]
theorem td_T_figuresBetween_2 : ∀ q ∈ tb_T_figuresBetween_2, decode prog_4_method_13_code q.1 = .ok q.2 := by decide +kernel
def tb_T_figuresBetween : Nat → Option (Instr × Nat) := (am_nd 15 (am_look tb_T_figuresBetween_0) (am_nd 33 (am_look tb_T_figuresBetween_1) (am_look tb_T_figuresBetween_2)))
theorem td_T_figuresBetween : am_dok prog_4_method_13_code tb_T_figuresBetween := (am_dok_nd (am_dok_lf td_T_figuresBetween_0) (am_dok_nd (am_dok_lf td_T_figuresBetween_1) (am_dok_lf td_T_figuresBetween_2)))
def m_T_figuresBetween : am_M := (⟨"SyntaxRows$Tape", "figuresBetween", "(II)I"⟩, prog_4_method_13_code, 5, (some .int), 2, 2, tb_T_figuresBetween)
set_option maxRecDepth 100000 in
theorem ok_T_figuresBetween : am_ok m_T_figuresBetween := ⟨td_T_figuresBetween, am_in 462 rfl rfl, am_in 98 (by decide +kernel) rfl, by decide, ⟨by decide, by decide, by decide +kernel⟩, rfl, by decide⟩
theorem oi_T_figuresBetween : am_inst m_T_figuresBetween := ⟨am_in 460 (by decide +kernel) rfl, am_in 461 (by decide +kernel) rfl⟩
def tb_O_begin_0 : List (Nat × (Instr × Nat)) := [(0, (.aload_n 0, 1)), (1, (.invokevirtual 19, 3)), (4, (.ifCond .ne 5, 3)), (7, (.iconst (-1), 1)), (8, (.ireturn, 1)), (9, (.aload_n 0, 1)), (10, (.getfield 15, 3)), (13, (.istore 4, 2)), (15, (.aload_n 0, 1)), (16, (.dup, 1))]
theorem td_O_begin_0 : ∀ q ∈ tb_O_begin_0, decode prog_2_method_6_code q.1 = .ok q.2 := by decide +kernel
def tb_O_begin_1 : List (Nat × (Instr × Nat)) := [(17, (.getfield 15, 3)), (20, (.iconst 1, 1)), (21, (.iadd, 1)), (22, (.putfield 15, 3)), (25, (.aload_n 0, 1)), (26, (.iload 4, 2)), (28, (.iconst 0, 1)), (29, (.iload_n 1, 1)), (30, (.invokevirtual 23, 3)), (33, (.aload_n 0, 1))]
theorem td_O_begin_1 : ∀ q ∈ tb_O_begin_1, decode prog_2_method_6_code q.1 = .ok q.2 := by decide +kernel
def tb_O_begin_2 : List (Nat × (Instr × Nat)) := [(34, (.iload 4, 2)), (36, (.iconst 1, 1)), (37, (.iload_n 2, 1)), (38, (.invokevirtual 23, 3)), (41, (.aload_n 0, 1)), (42, (.iload 4, 2)), (44, (.iconst 2, 1)), (45, (.iconst (-1), 1)), (46, (.invokevirtual 23, 3)), (49, (.aload_n 0, 1))]
theorem td_O_begin_2 : ∀ q ∈ tb_O_begin_2, decode prog_2_method_6_code q.1 = .ok q.2 := by decide +kernel
def tb_O_begin_3 : List (Nat × (Instr × Nat)) := [(50, (.iload 4, 2)), (52, (.bipush 6, 2)), (54, (.iload_n 3, 1)), (55, (.invokevirtual 23, 3)), (58, (.iload 4, 2)), (60, (.ireturn, 1))]
theorem td_O_begin_3 : ∀ q ∈ tb_O_begin_3, decode prog_2_method_6_code q.1 = .ok q.2 := by decide +kernel
def tb_O_begin : Nat → Option (Instr × Nat) := (am_nd 34 (am_nd 17 (am_look tb_O_begin_0) (am_look tb_O_begin_1)) (am_nd 50 (am_look tb_O_begin_2) (am_look tb_O_begin_3)))
theorem td_O_begin : am_dok prog_2_method_6_code tb_O_begin := (am_dok_nd (am_dok_nd (am_dok_lf td_O_begin_0) (am_dok_lf td_O_begin_1)) (am_dok_nd (am_dok_lf td_O_begin_2) (am_dok_lf td_O_begin_3)))
def m_O_begin : am_M := (⟨"SyntaxRows$ObjectRows", "begin", "(III)I"⟩, prog_2_method_6_code, 5, (some .int), 0, 3, tb_O_begin)
set_option maxRecDepth 100000 in
theorem ok_O_begin : am_ok m_O_begin := ⟨td_O_begin, am_in 471 rfl rfl, am_in 100 (by decide +kernel) rfl, by decide, ⟨by decide, by decide, by decide +kernel⟩, rfl, by decide⟩
theorem oi_O_begin : am_inst m_O_begin := ⟨am_in 469 (by decide +kernel) rfl, am_in 470 (by decide +kernel) rfl⟩
def tb_O_setEntry_0 : List (Nat × (Instr × Nat)) := [(0, (.aload_n 0, 1)), (1, (.iload_n 1, 1)), (2, (.invokevirtual 27, 3)), (5, (.ifCond .eq 25, 3)), (8, (.iload_n 2, 1)), (9, (.ifCond .lt 21, 3)), (12, (.iload_n 2, 1)), (13, (.bipush 8, 2)), (15, (.if_icmp .ge 15, 3)), (18, (.aload_n 0, 1))]
theorem td_O_setEntry_0 : ∀ q ∈ tb_O_setEntry_0, decode prog_2_method_11_code q.1 = .ok q.2 := by decide +kernel
def tb_O_setEntry_1 : List (Nat × (Instr × Nat)) := [(19, (.getfield 11, 3)), (22, (.iload_n 1, 1)), (23, (.bipush 8, 2)), (25, (.imul, 1)), (26, (.iload_n 2, 1)), (27, (.iadd, 1)), (28, (.iload_n 3, 1)), (29, (.iastore, 1)), (30, (.return_, 1))]
theorem td_O_setEntry_1 : ∀ q ∈ tb_O_setEntry_1, decode prog_2_method_11_code q.1 = .ok q.2 := by decide +kernel
def tb_O_setEntry : Nat → Option (Instr × Nat) := (am_nd 19 (am_look tb_O_setEntry_0) (am_look tb_O_setEntry_1))
theorem td_O_setEntry : am_dok prog_2_method_11_code tb_O_setEntry := (am_dok_nd (am_dok_lf td_O_setEntry_0) (am_dok_lf td_O_setEntry_1))
def m_O_setEntry : am_M := (⟨"SyntaxRows$ObjectRows", "setEntry", "(III)V"⟩, prog_2_method_11_code, 4, none, 0, 3, tb_O_setEntry)
set_option maxRecDepth 100000 in
theorem ok_O_setEntry : am_ok m_O_setEntry := ⟨td_O_setEntry, am_in 476 rfl rfl, am_in 100 (by decide +kernel) rfl, by decide, ⟨by decide, by decide, by decide +kernel⟩, rfl, by decide⟩
theorem oi_O_setEntry : am_inst m_O_setEntry := ⟨am_in 475 (by decide +kernel) rfl, am_in 2 (by decide +kernel) rfl⟩
def tb_O_has_0 : List (Nat × (Instr × Nat)) := [(0, (.iload_n 1, 1)), (1, (.ifCond .lt 15, 3)), (4, (.iload_n 1, 1)), (5, (.aload_n 0, 1)), (6, (.getfield 15, 3)), (9, (.if_icmp .ge 7, 3)), (12, (.iconst 1, 1)), (13, (.goto 4, 3)), (16, (.iconst 0, 1)), (17, (.ireturn, 1))]
theorem td_O_has_0 : ∀ q ∈ tb_O_has_0, decode prog_2_method_3_code q.1 = .ok q.2 := by decide +kernel
def tb_O_has : Nat → Option (Instr × Nat) := (am_look tb_O_has_0)
theorem td_O_has : am_dok prog_2_method_3_code tb_O_has := (am_dok_lf td_O_has_0)
def m_O_has : am_M := (⟨"SyntaxRows$ObjectRows", "has", "(I)Z"⟩, prog_2_method_3_code, 2, (some .boolean), 0, 1, tb_O_has)
set_option maxRecDepth 100000 in
theorem ok_O_has : am_ok m_O_has := ⟨td_O_has, am_in 480 rfl rfl, am_in 100 (by decide +kernel) rfl, by decide, ⟨by decide, by decide, by decide +kernel⟩, rfl, by decide⟩
theorem oi_O_has : am_inst m_O_has := ⟨am_in 478 (by decide +kernel) rfl, am_in 479 (by decide +kernel) rfl⟩
def tb_V_size_0 : List (Nat × (Instr × Nat)) := [(0, (.aload_n 0, 1)), (1, (.getfield 44, 3)), (4, (.ireturn, 1))]
theorem td_V_size_0 : ∀ q ∈ tb_V_size_0, decode prog_5_method_2_code q.1 = .ok q.2 := by decide +kernel
def tb_V_size : Nat → Option (Instr × Nat) := (am_look tb_V_size_0)
theorem td_V_size : am_dok prog_5_method_2_code tb_V_size := (am_dok_lf td_V_size_0)
def m_V_size : am_M := (⟨"SyntaxRows$Values", "size", "()I"⟩, prog_5_method_2_code, 1, (some .int), 3, 0, tb_V_size)
set_option maxRecDepth 100000 in
theorem ok_V_size : am_ok m_V_size := ⟨td_V_size, am_in 484 rfl rfl, am_in 99 (by decide +kernel) rfl, by decide, ⟨by decide, by decide, by decide +kernel⟩, rfl, by decide⟩
theorem oi_V_size : am_inst m_V_size := ⟨am_in 482 (by decide +kernel) rfl, am_in 483 (by decide +kernel) rfl⟩
def tb_V_byteSize_0 : List (Nat × (Instr × Nat)) := [(0, (.aload_n 0, 1)), (1, (.getfield 48, 3)), (4, (.ireturn, 1))]
theorem td_V_byteSize_0 : ∀ q ∈ tb_V_byteSize_0, decode prog_5_method_3_code q.1 = .ok q.2 := by decide +kernel
def tb_V_byteSize : Nat → Option (Instr × Nat) := (am_look tb_V_byteSize_0)
theorem td_V_byteSize : am_dok prog_5_method_3_code tb_V_byteSize := (am_dok_lf td_V_byteSize_0)
def m_V_byteSize : am_M := (⟨"SyntaxRows$Values", "byteSize", "()I"⟩, prog_5_method_3_code, 1, (some .int), 3, 0, tb_V_byteSize)
set_option maxRecDepth 100000 in
theorem ok_V_byteSize : am_ok m_V_byteSize := ⟨td_V_byteSize, am_in 488 rfl rfl, am_in 99 (by decide +kernel) rfl, by decide, ⟨by decide, by decide, by decide +kernel⟩, rfl, by decide⟩
theorem oi_V_byteSize : am_inst m_V_byteSize := ⟨am_in 486 (by decide +kernel) rfl, am_in 487 (by decide +kernel) rfl⟩
def tb_V_add_0 : List (Nat × (Instr × Nat)) := [(0, (.aload_n 0, 1)), (1, (.getfield 44, 3)), (4, (.sipush 300, 3)), (7, (.if_icmp .lt 5, 3)), (10, (.iconst (-1), 1)), (11, (.ireturn, 1)), (12, (.aload_n 0, 1)), (13, (.getfield 44, 3)), (16, (.istore_n 1, 1)), (17, (.aload_n 0, 1))]
theorem td_V_add_0 : ∀ q ∈ tb_V_add_0, decode prog_5_method_6_code q.1 = .ok q.2 := by decide +kernel
def tb_V_add_1 : List (Nat × (Instr × Nat)) := [(18, (.dup, 1)), (19, (.getfield 44, 3)), (22, (.iconst 1, 1)), (23, (.iadd, 1)), (24, (.putfield 44, 3)), (27, (.aload_n 0, 1)), (28, (.getfield 9, 3)), (31, (.iload_n 1, 1)), (32, (.iconst 0, 1)), (33, (.iastore, 1))]
theorem td_V_add_1 : ∀ q ∈ tb_V_add_1, decode prog_5_method_6_code q.1 = .ok q.2 := by decide +kernel
def tb_V_add_2 : List (Nat × (Instr × Nat)) := [(34, (.aload_n 0, 1)), (35, (.getfield 15, 3)), (38, (.iload_n 1, 1)), (39, (.lconst 0, 1)), (40, (.lastore, 1)), (41, (.aload_n 0, 1)), (42, (.getfield 19, 3)), (45, (.iload_n 1, 1)), (46, (.aload_n 0, 1)), (47, (.getfield 48, 3))]
theorem td_V_add_2 : ∀ q ∈ tb_V_add_2, decode prog_5_method_6_code q.1 = .ok q.2 := by decide +kernel
def tb_V_add_3 : List (Nat × (Instr × Nat)) := [(50, (.iastore, 1)), (51, (.aload_n 0, 1)), (52, (.getfield 22, 3)), (55, (.iload_n 1, 1)), (56, (.iconst 0, 1)), (57, (.iastore, 1)), (58, (.aload_n 0, 1)), (59, (.getfield 25, 3)), (62, (.iload_n 1, 1)), (63, (.iconst 0, 1))]
theorem td_V_add_3 : ∀ q ∈ tb_V_add_3, decode prog_5_method_6_code q.1 = .ok q.2 := by decide +kernel
def tb_V_add_4 : List (Nat × (Instr × Nat)) := [(64, (.iastore, 1)), (65, (.aload_n 0, 1)), (66, (.getfield 28, 3)), (69, (.iload_n 1, 1)), (70, (.iconst (-1), 1)), (71, (.iastore, 1)), (72, (.aload_n 0, 1)), (73, (.getfield 31, 3)), (76, (.iload_n 1, 1)), (77, (.iconst (-1), 1))]
theorem td_V_add_4 : ∀ q ∈ tb_V_add_4, decode prog_5_method_6_code q.1 = .ok q.2 := by decide +kernel
def tb_V_add_5 : List (Nat × (Instr × Nat)) := [(78, (.iastore, 1)), (79, (.aload_n 0, 1)), (80, (.getfield 34, 3)), (83, (.iload_n 1, 1)), (84, (.iconst (-1), 1)), (85, (.iastore, 1)), (86, (.aload_n 0, 1)), (87, (.getfield 37, 3)), (90, (.iload_n 1, 1)), (91, (.iconst (-1), 1))]
theorem td_V_add_5 : ∀ q ∈ tb_V_add_5, decode prog_5_method_6_code q.1 = .ok q.2 := by decide +kernel
def tb_V_add_6 : List (Nat × (Instr × Nat)) := [(92, (.iastore, 1)), (93, (.iload_n 1, 1)), (94, (.ireturn, 1))]
theorem td_V_add_6 : ∀ q ∈ tb_V_add_6, decode prog_5_method_6_code q.1 = .ok q.2 := by decide +kernel
def tb_V_add : Nat → Option (Instr × Nat) := (am_nd 50 (am_nd 18 (am_look tb_V_add_0) (am_nd 34 (am_look tb_V_add_1) (am_look tb_V_add_2))) (am_nd 78 (am_nd 64 (am_look tb_V_add_3) (am_look tb_V_add_4)) (am_nd 92 (am_look tb_V_add_5) (am_look tb_V_add_6))))
theorem td_V_add : am_dok prog_5_method_6_code tb_V_add := (am_dok_nd (am_dok_nd (am_dok_lf td_V_add_0) (am_dok_nd (am_dok_lf td_V_add_1) (am_dok_lf td_V_add_2))) (am_dok_nd (am_dok_nd (am_dok_lf td_V_add_3) (am_dok_lf td_V_add_4)) (am_dok_nd (am_dok_lf td_V_add_5) (am_dok_lf td_V_add_6))))
def m_V_add : am_M := (⟨"SyntaxRows$Values", "add", "()I"⟩, prog_5_method_6_code, 2, (some .int), 3, 0, tb_V_add)
set_option maxRecDepth 100000 in
theorem ok_V_add : am_ok m_V_add := ⟨td_V_add, am_in 505 rfl rfl, am_in 99 (by decide +kernel) rfl, by decide, ⟨by decide, by decide, by decide +kernel⟩, rfl, by decide⟩
theorem oi_V_add : am_inst m_V_add := ⟨am_in 503 (by decide +kernel) rfl, am_in 504 (by decide +kernel) rfl⟩
def tb_V_setKind_0 : List (Nat × (Instr × Nat)) := [(0, (.aload_n 0, 1)), (1, (.iload_n 1, 1)), (2, (.invokevirtual 60, 3)), (5, (.ifCond .eq 17, 3)), (8, (.aload_n 0, 1)), (9, (.getfield 9, 3)), (12, (.iload_n 1, 1)), (13, (.iload_n 2, 1)), (14, (.iastore, 1)), (15, (.aload_n 0, 1))]
theorem td_V_setKind_0 : ∀ q ∈ tb_V_setKind_0, decode prog_5_method_7_code q.1 = .ok q.2 := by decide +kernel
def tb_V_setKind_1 : List (Nat × (Instr × Nat)) := [(16, (.getfield 15, 3)), (19, (.iload_n 1, 1)), (20, (.lload_n 3, 1)), (21, (.lastore, 1)), (22, (.return_, 1))]
theorem td_V_setKind_1 : ∀ q ∈ tb_V_setKind_1, decode prog_5_method_7_code q.1 = .ok q.2 := by decide +kernel
def tb_V_setKind : Nat → Option (Instr × Nat) := (am_nd 16 (am_look tb_V_setKind_0) (am_look tb_V_setKind_1))
theorem td_V_setKind : am_dok prog_5_method_7_code tb_V_setKind := (am_dok_nd (am_dok_lf td_V_setKind_0) (am_dok_lf td_V_setKind_1))
def m_V_setKind : am_M := (⟨"SyntaxRows$Values", "setKind", "(IIJ)V"⟩, prog_5_method_7_code, 5, none, 3, 3, tb_V_setKind)
set_option maxRecDepth 100000 in
theorem ok_V_setKind : am_ok m_V_setKind := ⟨td_V_setKind, am_in 513 rfl rfl, am_in 99 (by decide +kernel) rfl, by decide, ⟨by decide, by decide, by decide +kernel⟩, rfl, by decide⟩
theorem oi_V_setKind : am_inst m_V_setKind := ⟨am_in 511 (by decide +kernel) rfl, am_in 512 (by decide +kernel) rfl⟩
def tb_V_has_0 : List (Nat × (Instr × Nat)) := [(0, (.iload_n 1, 1)), (1, (.ifCond .lt 15, 3)), (4, (.iload_n 1, 1)), (5, (.aload_n 0, 1)), (6, (.getfield 44, 3)), (9, (.if_icmp .ge 7, 3)), (12, (.iconst 1, 1)), (13, (.goto 4, 3)), (16, (.iconst 0, 1)), (17, (.ireturn, 1))]
theorem td_V_has_0 : ∀ q ∈ tb_V_has_0, decode prog_5_method_4_code q.1 = .ok q.2 := by decide +kernel
def tb_V_has : Nat → Option (Instr × Nat) := (am_look tb_V_has_0)
theorem td_V_has : am_dok prog_5_method_4_code tb_V_has := (am_dok_lf td_V_has_0)
def m_V_has : am_M := (⟨"SyntaxRows$Values", "has", "(I)Z"⟩, prog_5_method_4_code, 2, (some .boolean), 3, 1, tb_V_has)
set_option maxRecDepth 100000 in
theorem ok_V_has : am_ok m_V_has := ⟨td_V_has, am_in 517 rfl rfl, am_in 99 (by decide +kernel) rfl, by decide, ⟨by decide, by decide, by decide +kernel⟩, rfl, by decide⟩
theorem oi_V_has : am_inst m_V_has := ⟨am_in 515 (by decide +kernel) rfl, am_in 516 (by decide +kernel) rfl⟩
def tb_T_behindWord_0 : List (Nat × (Instr × Nat)) := [(0, (.iload_n 1, 1)), (1, (.istore_n 2, 1)), (2, (.iload_n 2, 1)), (3, (.aload_n 0, 1)), (4, (.getfield 15, 3)), (7, (.if_icmp .ge 22, 3)), (10, (.aload_n 0, 1)), (11, (.iload_n 2, 1)), (12, (.invokevirtual 19, 3)), (15, (.invokestatic 30, 3))]
theorem td_T_behindWord_0 : ∀ q ∈ tb_T_behindWord_0, decode prog_4_method_7_code q.1 = .ok q.2 := by decide +kernel
def tb_T_behindWord_1 : List (Nat × (Instr × Nat)) := [(18, (.ifCond .ne 5, 3)), (21, (.iload_n 2, 1)), (22, (.ireturn, 1)), (23, (.iinc 2 1, 3)), (26, (.goto (-24), 3)), (29, (.aload_n 0, 1)), (30, (.getfield 15, 3)), (33, (.ireturn, 1))]
theorem td_T_behindWord_1 : ∀ q ∈ tb_T_behindWord_1, decode prog_4_method_7_code q.1 = .ok q.2 := by decide +kernel
def tb_T_behindWord : Nat → Option (Instr × Nat) := (am_nd 18 (am_look tb_T_behindWord_0) (am_look tb_T_behindWord_1))
theorem td_T_behindWord : am_dok prog_4_method_7_code tb_T_behindWord := (am_dok_nd (am_dok_lf td_T_behindWord_0) (am_dok_lf td_T_behindWord_1))
def m_T_behindWord : am_M := (⟨"SyntaxRows$Tape", "behindWord", "(I)I"⟩, prog_4_method_7_code, 3, (some .int), 2, 1, tb_T_behindWord)
set_option maxRecDepth 100000 in
theorem ok_T_behindWord : am_ok m_T_behindWord := ⟨td_T_behindWord, am_in 531 rfl rfl, am_in 98 (by decide +kernel) rfl, by decide, ⟨by decide, by decide, by decide +kernel⟩, rfl, by decide⟩
theorem oi_T_behindWord : am_inst m_T_behindWord := ⟨am_in 529 (by decide +kernel) rfl, am_in 530 (by decide +kernel) rfl⟩
def tb_V_lengthOf_0 : List (Nat × (Instr × Nat)) := [(0, (.iload_n 1, 1)), (1, (.ifCond .lt 11, 3)), (4, (.iload_n 1, 1)), (5, (.aload_n 0, 1)), (6, (.getfield 44, 3)), (9, (.if_icmp .lt 7, 3)), (12, (.iconst 0, 1)), (13, (.goto 9, 3)), (16, (.aload_n 0, 1)), (17, (.getfield 22, 3))]
theorem td_V_lengthOf_0 : ∀ q ∈ tb_V_lengthOf_0, decode prog_5_method_16_code q.1 = .ok q.2 := by decide +kernel
def tb_V_lengthOf_1 : List (Nat × (Instr × Nat)) := [(20, (.iload_n 1, 1)), (21, (.iaload, 1)), (22, (.ireturn, 1))]
theorem td_V_lengthOf_1 : ∀ q ∈ tb_V_lengthOf_1, decode prog_5_method_16_code q.1 = .ok q.2 := by decide +kernel
def tb_V_lengthOf : Nat → Option (Instr × Nat) := (am_nd 20 (am_look tb_V_lengthOf_0) (am_look tb_V_lengthOf_1))
theorem td_V_lengthOf : am_dok prog_5_method_16_code tb_V_lengthOf := (am_dok_nd (am_dok_lf td_V_lengthOf_0) (am_dok_lf td_V_lengthOf_1))
def m_V_lengthOf : am_M := (⟨"SyntaxRows$Values", "lengthOf", "(I)I"⟩, prog_5_method_16_code, 2, (some .int), 3, 1, tb_V_lengthOf)
set_option maxRecDepth 100000 in
theorem ok_V_lengthOf : am_ok m_V_lengthOf := ⟨td_V_lengthOf, am_in 543 rfl rfl, am_in 99 (by decide +kernel) rfl, by decide, ⟨by decide, by decide, by decide +kernel⟩, rfl, by decide⟩
theorem oi_V_lengthOf : am_inst m_V_lengthOf := ⟨am_in 541 (by decide +kernel) rfl, am_in 542 (by decide +kernel) rfl⟩
def tb_V_addByte_0 : List (Nat × (Instr × Nat)) := [(0, (.iload_n 1, 1)), (1, (.ifCond .lt 21, 3)), (4, (.iload_n 1, 1)), (5, (.aload_n 0, 1)), (6, (.getfield 44, 3)), (9, (.if_icmp .ge 13, 3)), (12, (.aload_n 0, 1)), (13, (.getfield 48, 3)), (16, (.sipush 2000, 3)), (19, (.if_icmp .lt 5, 3))]
theorem td_V_addByte_0 : ∀ q ∈ tb_V_addByte_0, decode prog_5_method_8_code q.1 = .ok q.2 := by decide +kernel
def tb_V_addByte_1 : List (Nat × (Instr × Nat)) := [(22, (.iconst 0, 1)), (23, (.ireturn, 1)), (24, (.aload_n 0, 1)), (25, (.getfield 40, 3)), (28, (.aload_n 0, 1)), (29, (.getfield 48, 3)), (32, (.iload_n 2, 1)), (33, (.i2b, 1)), (34, (.bastore, 1)), (35, (.aload_n 0, 1))]
theorem td_V_addByte_1 : ∀ q ∈ tb_V_addByte_1, decode prog_5_method_8_code q.1 = .ok q.2 := by decide +kernel
def tb_V_addByte_2 : List (Nat × (Instr × Nat)) := [(36, (.dup, 1)), (37, (.getfield 48, 3)), (40, (.iconst 1, 1)), (41, (.iadd, 1)), (42, (.putfield 48, 3)), (45, (.aload_n 0, 1)), (46, (.getfield 22, 3)), (49, (.iload_n 1, 1)), (50, (.dup2, 1)), (51, (.iaload, 1))]
theorem td_V_addByte_2 : ∀ q ∈ tb_V_addByte_2, decode prog_5_method_8_code q.1 = .ok q.2 := by decide +kernel
def tb_V_addByte_3 : List (Nat × (Instr × Nat)) := [(52, (.iconst 1, 1)), (53, (.iadd, 1)), (54, (.iastore, 1)), (55, (.iconst 1, 1)), (56, (.ireturn, 1))]
theorem td_V_addByte_3 : ∀ q ∈ tb_V_addByte_3, decode prog_5_method_8_code q.1 = .ok q.2 := by decide +kernel
def tb_V_addByte : Nat → Option (Instr × Nat) := (am_nd 36 (am_nd 22 (am_look tb_V_addByte_0) (am_look tb_V_addByte_1)) (am_nd 52 (am_look tb_V_addByte_2) (am_look tb_V_addByte_3)))
theorem td_V_addByte : am_dok prog_5_method_8_code tb_V_addByte := (am_dok_nd (am_dok_nd (am_dok_lf td_V_addByte_0) (am_dok_lf td_V_addByte_1)) (am_dok_nd (am_dok_lf td_V_addByte_2) (am_dok_lf td_V_addByte_3)))
def m_V_addByte : am_M := (⟨"SyntaxRows$Values", "addByte", "(II)Z"⟩, prog_5_method_8_code, 3, (some .boolean), 3, 2, tb_V_addByte)
set_option maxRecDepth 100000 in
theorem ok_V_addByte : am_ok m_V_addByte := ⟨td_V_addByte, am_in 547 rfl rfl, am_in 99 (by decide +kernel) rfl, by decide, ⟨by decide, by decide, by decide +kernel⟩, rfl, by decide⟩
theorem oi_V_addByte : am_inst m_V_addByte := ⟨am_in 545 (by decide +kernel) rfl, am_in 546 (by decide +kernel) rfl⟩
def tb_V_keyLike_0 : List (Nat × (Instr × Nat)) := [(0, (.aload_n 0, 1)), (1, (.iload_n 1, 1)), (2, (.invokevirtual 75, 3)), (5, (.istore_n 3, 1)), (6, (.iconst 0, 1)), (7, (.istore 4, 2)), (9, (.iload 4, 2)), (11, (.sipush 300, 3)), (14, (.if_icmp .ge 34, 3)), (17, (.aload_n 0, 1))]
theorem td_V_keyLike_0 : ∀ q ∈ tb_V_keyLike_0, decode prog_5_method_22_code q.1 = .ok q.2 := by decide +kernel
def tb_V_keyLike_1 : List (Nat × (Instr × Nat)) := [(18, (.iload_n 3, 1)), (19, (.invokevirtual 60, 3)), (22, (.ifCond .eq 26, 3)), (25, (.aload_n 0, 1)), (26, (.iload_n 3, 1)), (27, (.iload_n 2, 1)), (28, (.invokevirtual 78, 3)), (31, (.ifCond .eq 5, 3)), (34, (.iload_n 3, 1)), (35, (.ireturn, 1))]
theorem td_V_keyLike_1 : ∀ q ∈ tb_V_keyLike_1, decode prog_5_method_22_code q.1 = .ok q.2 := by decide +kernel
def tb_V_keyLike_2 : List (Nat × (Instr × Nat)) := [(36, (.aload_n 0, 1)), (37, (.iload_n 3, 1)), (38, (.invokevirtual 68, 3)), (41, (.istore_n 3, 1)), (42, (.iinc 4 1, 3)), (45, (.goto (-36), 3)), (48, (.iconst (-1), 1)), (49, (.ireturn, 1))]
theorem td_V_keyLike_2 : ∀ q ∈ tb_V_keyLike_2, decode prog_5_method_22_code q.1 = .ok q.2 := by decide +kernel
def tb_V_keyLike : Nat → Option (Instr × Nat) := (am_nd 18 (am_look tb_V_keyLike_0) (am_nd 36 (am_look tb_V_keyLike_1) (am_look tb_V_keyLike_2)))
theorem td_V_keyLike : am_dok prog_5_method_22_code tb_V_keyLike := (am_dok_nd (am_dok_lf td_V_keyLike_0) (am_dok_nd (am_dok_lf td_V_keyLike_1) (am_dok_lf td_V_keyLike_2)))
def m_V_keyLike : am_M := (⟨"SyntaxRows$Values", "keyLike", "(II)I"⟩, prog_5_method_22_code, 5, (some .int), 3, 2, tb_V_keyLike)
set_option maxRecDepth 100000 in
theorem ok_V_keyLike : am_ok m_V_keyLike := ⟨td_V_keyLike, am_in 551 rfl rfl, am_in 99 (by decide +kernel) rfl, by decide, ⟨by decide, by decide, by decide +kernel⟩, rfl, by decide⟩
theorem oi_V_keyLike : am_inst m_V_keyLike := ⟨am_in 549 (by decide +kernel) rfl, am_in 550 (by decide +kernel) rfl⟩
def tb_V_firstOf_0 : List (Nat × (Instr × Nat)) := [(0, (.aload_n 0, 1)), (1, (.iload_n 1, 1)), (2, (.invokevirtual 60, 3)), (5, (.ifCond .eq 12, 3)), (8, (.aload_n 0, 1)), (9, (.getfield 28, 3)), (12, (.iload_n 1, 1)), (13, (.iaload, 1)), (14, (.goto 4, 3)), (17, (.iconst (-1), 1))]
theorem td_V_firstOf_0 : ∀ q ∈ tb_V_firstOf_0, decode prog_5_method_17_code q.1 = .ok q.2 := by decide +kernel
def tb_V_firstOf_1 : List (Nat × (Instr × Nat)) := [(18, (.ireturn, 1))]
theorem td_V_firstOf_1 : ∀ q ∈ tb_V_firstOf_1, decode prog_5_method_17_code q.1 = .ok q.2 := by decide +kernel
def tb_V_firstOf : Nat → Option (Instr × Nat) := (am_nd 18 (am_look tb_V_firstOf_0) (am_look tb_V_firstOf_1))
theorem td_V_firstOf : am_dok prog_5_method_17_code tb_V_firstOf := (am_dok_nd (am_dok_lf td_V_firstOf_0) (am_dok_lf td_V_firstOf_1))
def m_V_firstOf : am_M := (⟨"SyntaxRows$Values", "firstOf", "(I)I"⟩, prog_5_method_17_code, 2, (some .int), 3, 1, tb_V_firstOf)
set_option maxRecDepth 100000 in
theorem ok_V_firstOf : am_ok m_V_firstOf := ⟨td_V_firstOf, am_in 555 rfl rfl, am_in 99 (by decide +kernel) rfl, by decide, ⟨by decide, by decide, by decide +kernel⟩, rfl, by decide⟩
theorem oi_V_firstOf : am_inst m_V_firstOf := ⟨am_in 553 (by decide +kernel) rfl, am_in 554 (by decide +kernel) rfl⟩
def tb_V_sameBytes_0 : List (Nat × (Instr × Nat)) := [(0, (.aload_n 0, 1)), (1, (.iload_n 1, 1)), (2, (.invokevirtual 86, 3)), (5, (.aload_n 0, 1)), (6, (.iload_n 2, 1)), (7, (.invokevirtual 86, 3)), (10, (.if_icmp .eq 5, 3)), (13, (.iconst 0, 1)), (14, (.ireturn, 1)), (15, (.iconst 0, 1))]
theorem td_V_sameBytes_0 : ∀ q ∈ tb_V_sameBytes_0, decode prog_5_method_25_code q.1 = .ok q.2 := by decide +kernel
def tb_V_sameBytes_1 : List (Nat × (Instr × Nat)) := [(16, (.istore_n 3, 1)), (17, (.iload_n 3, 1)), (18, (.aload_n 0, 1)), (19, (.iload_n 1, 1)), (20, (.invokevirtual 86, 3)), (23, (.if_icmp .ge 26, 3)), (26, (.aload_n 0, 1)), (27, (.iload_n 1, 1)), (28, (.iload_n 3, 1)), (29, (.invokevirtual 89, 3))]
theorem td_V_sameBytes_1 : ∀ q ∈ tb_V_sameBytes_1, decode prog_5_method_25_code q.1 = .ok q.2 := by decide +kernel
def tb_V_sameBytes_2 : List (Nat × (Instr × Nat)) := [(32, (.aload_n 0, 1)), (33, (.iload_n 2, 1)), (34, (.iload_n 3, 1)), (35, (.invokevirtual 89, 3)), (38, (.if_icmp .eq 5, 3)), (41, (.iconst 0, 1)), (42, (.ireturn, 1)), (43, (.iinc 3 1, 3)), (46, (.goto (-29), 3)), (49, (.iconst 1, 1))]
theorem td_V_sameBytes_2 : ∀ q ∈ tb_V_sameBytes_2, decode prog_5_method_25_code q.1 = .ok q.2 := by decide +kernel
def tb_V_sameBytes_3 : List (Nat × (Instr × Nat)) := [(50, (.ireturn, 1))]
theorem td_V_sameBytes_3 : ∀ q ∈ tb_V_sameBytes_3, decode prog_5_method_25_code q.1 = .ok q.2 := by decide +kernel
def tb_V_sameBytes : Nat → Option (Instr × Nat) := (am_nd 32 (am_nd 16 (am_look tb_V_sameBytes_0) (am_look tb_V_sameBytes_1)) (am_nd 50 (am_look tb_V_sameBytes_2) (am_look tb_V_sameBytes_3)))
theorem td_V_sameBytes : am_dok prog_5_method_25_code tb_V_sameBytes := (am_dok_nd (am_dok_nd (am_dok_lf td_V_sameBytes_0) (am_dok_lf td_V_sameBytes_1)) (am_dok_nd (am_dok_lf td_V_sameBytes_2) (am_dok_lf td_V_sameBytes_3)))
def m_V_sameBytes : am_M := (⟨"SyntaxRows$Values", "sameBytes", "(II)Z"⟩, prog_5_method_25_code, 4, (some .boolean), 3, 2, tb_V_sameBytes)
set_option maxRecDepth 100000 in
theorem ok_V_sameBytes : am_ok m_V_sameBytes := ⟨td_V_sameBytes, am_in 559 rfl rfl, am_in 99 (by decide +kernel) rfl, by decide, ⟨by decide, by decide, by decide +kernel⟩, rfl, by decide⟩
theorem oi_V_sameBytes : am_inst m_V_sameBytes := ⟨am_in 558 (by decide +kernel) rfl, am_in 9 (by decide +kernel) rfl⟩
def tb_V_byteAt_0 : List (Nat × (Instr × Nat)) := [(0, (.iload_n 1, 1)), (1, (.ifCond .lt 25, 3)), (4, (.iload_n 1, 1)), (5, (.aload_n 0, 1)), (6, (.getfield 44, 3)), (9, (.if_icmp .ge 17, 3)), (12, (.iload_n 2, 1)), (13, (.ifCond .lt 13, 3)), (16, (.iload_n 2, 1)), (17, (.aload_n 0, 1))]
theorem td_V_byteAt_0 : ∀ q ∈ tb_V_byteAt_0, decode prog_5_method_20_code q.1 = .ok q.2 := by decide +kernel
def tb_V_byteAt_1 : List (Nat × (Instr × Nat)) := [(18, (.getfield 22, 3)), (21, (.iload_n 1, 1)), (22, (.iaload, 1)), (23, (.if_icmp .lt 5, 3)), (26, (.iconst (-1), 1)), (27, (.ireturn, 1)), (28, (.aload_n 0, 1)), (29, (.getfield 19, 3)), (32, (.iload_n 1, 1)), (33, (.iaload, 1))]
theorem td_V_byteAt_1 : ∀ q ∈ tb_V_byteAt_1, decode prog_5_method_20_code q.1 = .ok q.2 := by decide +kernel
def tb_V_byteAt_2 : List (Nat × (Instr × Nat)) := [(34, (.iload_n 2, 1)), (35, (.iadd, 1)), (36, (.istore_n 3, 1)), (37, (.iload_n 3, 1)), (38, (.ifCond .lt 11, 3)), (41, (.iload_n 3, 1)), (42, (.aload_n 0, 1)), (43, (.getfield 48, 3)), (46, (.if_icmp .lt 7, 3)), (49, (.iconst (-1), 1))]
theorem td_V_byteAt_2 : ∀ q ∈ tb_V_byteAt_2, decode prog_5_method_20_code q.1 = .ok q.2 := by decide +kernel
def tb_V_byteAt_3 : List (Nat × (Instr × Nat)) := [(50, (.goto 13, 3)), (53, (.aload_n 0, 1)), (54, (.getfield 40, 3)), (57, (.iload_n 3, 1)), (58, (.baload, 1)), (59, (.sipush 255, 3)), (62, (.iand, 1)), (63, (.ireturn, 1))]
theorem td_V_byteAt_3 : ∀ q ∈ tb_V_byteAt_3, decode prog_5_method_20_code q.1 = .ok q.2 := by decide +kernel
def tb_V_byteAt : Nat → Option (Instr × Nat) := (am_nd 34 (am_nd 18 (am_look tb_V_byteAt_0) (am_look tb_V_byteAt_1)) (am_nd 50 (am_look tb_V_byteAt_2) (am_look tb_V_byteAt_3)))
theorem td_V_byteAt : am_dok prog_5_method_20_code tb_V_byteAt := (am_dok_nd (am_dok_nd (am_dok_lf td_V_byteAt_0) (am_dok_lf td_V_byteAt_1)) (am_dok_nd (am_dok_lf td_V_byteAt_2) (am_dok_lf td_V_byteAt_3)))
def m_V_byteAt : am_M := (⟨"SyntaxRows$Values", "byteAt", "(II)I"⟩, prog_5_method_20_code, 4, (some .int), 3, 2, tb_V_byteAt)
set_option maxRecDepth 100000 in
theorem ok_V_byteAt : am_ok m_V_byteAt := ⟨td_V_byteAt, am_in 564 rfl rfl, am_in 99 (by decide +kernel) rfl, by decide, ⟨by decide, by decide, by decide +kernel⟩, rfl, by decide⟩
theorem oi_V_byteAt : am_inst m_V_byteAt := ⟨am_in 562 (by decide +kernel) rfl, am_in 563 (by decide +kernel) rfl⟩
def tb_V_nextOf_0 : List (Nat × (Instr × Nat)) := [(0, (.aload_n 0, 1)), (1, (.iload_n 1, 1)), (2, (.invokevirtual 60, 3)), (5, (.ifCond .eq 12, 3)), (8, (.aload_n 0, 1)), (9, (.getfield 34, 3)), (12, (.iload_n 1, 1)), (13, (.iaload, 1)), (14, (.goto 4, 3)), (17, (.iconst (-1), 1))]
theorem td_V_nextOf_0 : ∀ q ∈ tb_V_nextOf_0, decode prog_5_method_18_code q.1 = .ok q.2 := by decide +kernel
def tb_V_nextOf_1 : List (Nat × (Instr × Nat)) := [(18, (.ireturn, 1))]
theorem td_V_nextOf_1 : ∀ q ∈ tb_V_nextOf_1, decode prog_5_method_18_code q.1 = .ok q.2 := by decide +kernel
def tb_V_nextOf : Nat → Option (Instr × Nat) := (am_nd 18 (am_look tb_V_nextOf_0) (am_look tb_V_nextOf_1))
theorem td_V_nextOf : am_dok prog_5_method_18_code tb_V_nextOf := (am_dok_nd (am_dok_lf td_V_nextOf_0) (am_dok_lf td_V_nextOf_1))
def m_V_nextOf : am_M := (⟨"SyntaxRows$Values", "nextOf", "(I)I"⟩, prog_5_method_18_code, 2, (some .int), 3, 1, tb_V_nextOf)
set_option maxRecDepth 100000 in
theorem ok_V_nextOf : am_ok m_V_nextOf := ⟨td_V_nextOf, am_in 568 rfl rfl, am_in 99 (by decide +kernel) rfl, by decide, ⟨by decide, by decide, by decide +kernel⟩, rfl, by decide⟩
theorem oi_V_nextOf : am_inst m_V_nextOf := ⟨am_in 566 (by decide +kernel) rfl, am_in 567 (by decide +kernel) rfl⟩
def tb_V_kindOf_0 : List (Nat × (Instr × Nat)) := [(0, (.aload_n 0, 1)), (1, (.iload_n 1, 1)), (2, (.invokevirtual 60, 3)), (5, (.ifCond .eq 12, 3)), (8, (.aload_n 0, 1)), (9, (.getfield 9, 3)), (12, (.iload_n 1, 1)), (13, (.iaload, 1)), (14, (.goto 4, 3)), (17, (.iconst (-1), 1))]
theorem td_V_kindOf_0 : ∀ q ∈ tb_V_kindOf_0, decode prog_5_method_13_code q.1 = .ok q.2 := by decide +kernel
def tb_V_kindOf_1 : List (Nat × (Instr × Nat)) := [(18, (.ireturn, 1))]
theorem td_V_kindOf_1 : ∀ q ∈ tb_V_kindOf_1, decode prog_5_method_13_code q.1 = .ok q.2 := by decide +kernel
def tb_V_kindOf : Nat → Option (Instr × Nat) := (am_nd 18 (am_look tb_V_kindOf_0) (am_look tb_V_kindOf_1))
theorem td_V_kindOf : am_dok prog_5_method_13_code tb_V_kindOf := (am_dok_nd (am_dok_lf td_V_kindOf_0) (am_dok_lf td_V_kindOf_1))
def m_V_kindOf : am_M := (⟨"SyntaxRows$Values", "kindOf", "(I)I"⟩, prog_5_method_13_code, 2, (some .int), 3, 1, tb_V_kindOf)
set_option maxRecDepth 100000 in
theorem ok_V_kindOf : am_ok m_V_kindOf := ⟨td_V_kindOf, am_in 576 rfl rfl, am_in 99 (by decide +kernel) rfl, by decide, ⟨by decide, by decide, by decide +kernel⟩, rfl, by decide⟩
theorem oi_V_kindOf : am_inst m_V_kindOf := ⟨am_in 574 (by decide +kernel) rfl, am_in 575 (by decide +kernel) rfl⟩
def tb_V_addKey_0 : List (Nat × (Instr × Nat)) := [(0, (.aload_n 0, 1)), (1, (.iload_n 1, 1)), (2, (.invokevirtual 60, 3)), (5, (.ifCond .eq 34, 3)), (8, (.aload_n 0, 1)), (9, (.iload_n 2, 1)), (10, (.invokevirtual 60, 3)), (13, (.ifCond .eq 26, 3)), (16, (.aload_n 0, 1)), (17, (.iload_n 1, 1))]
theorem td_V_addKey_0 : ∀ q ∈ tb_V_addKey_0, decode prog_5_method_10_code q.1 = .ok q.2 := by decide +kernel
def tb_V_addKey_1 : List (Nat × (Instr × Nat)) := [(18, (.iload_n 2, 1)), (19, (.invokevirtual 64, 3)), (22, (.aload_n 0, 1)), (23, (.getfield 25, 3)), (26, (.iload_n 1, 1)), (27, (.dup2, 1)), (28, (.iaload, 1)), (29, (.iconst 2, 1)), (30, (.iadd, 1)), (31, (.iastore, 1))]
theorem td_V_addKey_1 : ∀ q ∈ tb_V_addKey_1, decode prog_5_method_10_code q.1 = .ok q.2 := by decide +kernel
def tb_V_addKey_2 : List (Nat × (Instr × Nat)) := [(32, (.aload_n 0, 1)), (33, (.getfield 37, 3)), (36, (.iload_n 2, 1)), (37, (.iload_n 3, 1)), (38, (.iastore, 1)), (39, (.return_, 1))]
theorem td_V_addKey_2 : ∀ q ∈ tb_V_addKey_2, decode prog_5_method_10_code q.1 = .ok q.2 := by decide +kernel
def tb_V_addKey : Nat → Option (Instr × Nat) := (am_nd 18 (am_look tb_V_addKey_0) (am_nd 32 (am_look tb_V_addKey_1) (am_look tb_V_addKey_2)))
theorem td_V_addKey : am_dok prog_5_method_10_code tb_V_addKey := (am_dok_nd (am_dok_lf td_V_addKey_0) (am_dok_nd (am_dok_lf td_V_addKey_1) (am_dok_lf td_V_addKey_2)))
def m_V_addKey : am_M := (⟨"SyntaxRows$Values", "addKey", "(III)V"⟩, prog_5_method_10_code, 4, none, 3, 3, tb_V_addKey)
set_option maxRecDepth 100000 in
theorem ok_V_addKey : am_ok m_V_addKey := ⟨td_V_addKey, am_in 580 rfl rfl, am_in 99 (by decide +kernel) rfl, by decide, ⟨by decide, by decide, by decide +kernel⟩, rfl, by decide⟩
theorem oi_V_addKey : am_inst m_V_addKey := ⟨am_in 578 (by decide +kernel) rfl, am_in 579 (by decide +kernel) rfl⟩
def tb_V_chain_0 : List (Nat × (Instr × Nat)) := [(0, (.aload_n 0, 1)), (1, (.getfield 31, 3)), (4, (.iload_n 1, 1)), (5, (.iaload, 1)), (6, (.istore_n 3, 1)), (7, (.iload_n 3, 1)), (8, (.ifCond .lt 21, 3)), (11, (.iload_n 3, 1)), (12, (.aload_n 0, 1)), (13, (.getfield 44, 3))]
theorem td_V_chain_0 : ∀ q ∈ tb_V_chain_0, decode prog_5_method_24_code q.1 = .ok q.2 := by decide +kernel
def tb_V_chain_1 : List (Nat × (Instr × Nat)) := [(16, (.if_icmp .ge 13, 3)), (19, (.aload_n 0, 1)), (20, (.getfield 34, 3)), (23, (.iload_n 3, 1)), (24, (.iload_n 2, 1)), (25, (.iastore, 1)), (26, (.goto 10, 3)), (29, (.aload_n 0, 1)), (30, (.getfield 28, 3)), (33, (.iload_n 1, 1))]
theorem td_V_chain_1 : ∀ q ∈ tb_V_chain_1, decode prog_5_method_24_code q.1 = .ok q.2 := by decide +kernel
def tb_V_chain_2 : List (Nat × (Instr × Nat)) := [(34, (.iload_n 2, 1)), (35, (.iastore, 1)), (36, (.aload_n 0, 1)), (37, (.getfield 31, 3)), (40, (.iload_n 1, 1)), (41, (.iload_n 2, 1)), (42, (.iastore, 1)), (43, (.return_, 1))]
theorem td_V_chain_2 : ∀ q ∈ tb_V_chain_2, decode prog_5_method_24_code q.1 = .ok q.2 := by decide +kernel
def tb_V_chain : Nat → Option (Instr × Nat) := (am_nd 16 (am_look tb_V_chain_0) (am_nd 34 (am_look tb_V_chain_1) (am_look tb_V_chain_2)))
theorem td_V_chain : am_dok prog_5_method_24_code tb_V_chain := (am_dok_nd (am_dok_lf td_V_chain_0) (am_dok_nd (am_dok_lf td_V_chain_1) (am_dok_lf td_V_chain_2)))
def m_V_chain : am_M := (⟨"SyntaxRows$Values", "chain", "(II)V"⟩, prog_5_method_24_code, 4, none, 3, 2, tb_V_chain)
set_option maxRecDepth 100000 in
theorem ok_V_chain : am_ok m_V_chain := ⟨td_V_chain, am_in 584 rfl rfl, am_in 99 (by decide +kernel) rfl, by decide, ⟨by decide, by decide, by decide +kernel⟩, rfl, by decide⟩
theorem oi_V_chain : am_inst m_V_chain := ⟨am_in 583 (by decide +kernel) rfl, am_in 11 (by decide +kernel) rfl⟩
def tb_V_removeKey_0 : List (Nat × (Instr × Nat)) := [(0, (.aload_n 0, 1)), (1, (.iload_n 1, 1)), (2, (.invokevirtual 60, 3)), (5, (.ifCond .eq 11, 3)), (8, (.aload_n 0, 1)), (9, (.iload_n 2, 1)), (10, (.invokevirtual 60, 3)), (13, (.ifCond .ne 4, 3)), (16, (.return_, 1)), (17, (.iconst (-1), 1))]
theorem td_V_removeKey_0 : ∀ q ∈ tb_V_removeKey_0, decode prog_5_method_12_code q.1 = .ok q.2 := by decide +kernel
def tb_V_removeKey_1 : List (Nat × (Instr × Nat)) := [(18, (.istore_n 3, 1)), (19, (.aload_n 0, 1)), (20, (.getfield 28, 3)), (23, (.iload_n 1, 1)), (24, (.iaload, 1)), (25, (.istore 4, 2)), (27, (.iconst 0, 1)), (28, (.istore 5, 2)), (30, (.iload 5, 2)), (32, (.sipush 300, 3))]
theorem td_V_removeKey_1 : ∀ q ∈ tb_V_removeKey_1, decode prog_5_method_12_code q.1 = .ok q.2 := by decide +kernel
def tb_V_removeKey_2 : List (Nat × (Instr × Nat)) := [(35, (.if_icmp .ge 36, 3)), (38, (.aload_n 0, 1)), (39, (.iload 4, 2)), (41, (.invokevirtual 60, 3)), (44, (.ifCond .eq 27, 3)), (47, (.iload 4, 2)), (49, (.iload_n 2, 1)), (50, (.if_icmp .eq 21, 3)), (53, (.iload 4, 2)), (55, (.istore_n 3, 1))]
theorem td_V_removeKey_2 : ∀ q ∈ tb_V_removeKey_2, decode prog_5_method_12_code q.1 = .ok q.2 := by decide +kernel
def tb_V_removeKey_3 : List (Nat × (Instr × Nat)) := [(56, (.aload_n 0, 1)), (57, (.getfield 34, 3)), (60, (.iload 4, 2)), (62, (.iaload, 1)), (63, (.istore 4, 2)), (65, (.iinc 5 1, 3)), (68, (.goto (-38), 3)), (71, (.iload 4, 2)), (73, (.iload_n 2, 1)), (74, (.if_icmp .eq 4, 3))]
theorem td_V_removeKey_3 : ∀ q ∈ tb_V_removeKey_3, decode prog_5_method_12_code q.1 = .ok q.2 := by decide +kernel
def tb_V_removeKey_4 : List (Nat × (Instr × Nat)) := [(77, (.return_, 1)), (78, (.aload_n 0, 1)), (79, (.iload_n 3, 1)), (80, (.invokevirtual 60, 3)), (83, (.ifCond .eq 18, 3)), (86, (.aload_n 0, 1)), (87, (.getfield 34, 3)), (90, (.iload_n 3, 1)), (91, (.aload_n 0, 1)), (92, (.getfield 34, 3))]
theorem td_V_removeKey_4 : ∀ q ∈ tb_V_removeKey_4, decode prog_5_method_12_code q.1 = .ok q.2 := by decide +kernel
def tb_V_removeKey_5 : List (Nat × (Instr × Nat)) := [(95, (.iload_n 2, 1)), (96, (.iaload, 1)), (97, (.iastore, 1)), (98, (.goto 15, 3)), (101, (.aload_n 0, 1)), (102, (.getfield 28, 3)), (105, (.iload_n 1, 1)), (106, (.aload_n 0, 1)), (107, (.getfield 34, 3)), (110, (.iload_n 2, 1))]
theorem td_V_removeKey_5 : ∀ q ∈ tb_V_removeKey_5, decode prog_5_method_12_code q.1 = .ok q.2 := by decide +kernel
def tb_V_removeKey_6 : List (Nat × (Instr × Nat)) := [(111, (.iaload, 1)), (112, (.iastore, 1)), (113, (.aload_n 0, 1)), (114, (.getfield 31, 3)), (117, (.iload_n 1, 1)), (118, (.iaload, 1)), (119, (.iload_n 2, 1)), (120, (.if_icmp .ne 10, 3)), (123, (.aload_n 0, 1)), (124, (.getfield 31, 3))]
theorem td_V_removeKey_6 : ∀ q ∈ tb_V_removeKey_6, decode prog_5_method_12_code q.1 = .ok q.2 := by decide +kernel
def tb_V_removeKey_7 : List (Nat × (Instr × Nat)) := [(127, (.iload_n 1, 1)), (128, (.iload_n 3, 1)), (129, (.iastore, 1)), (130, (.aload_n 0, 1)), (131, (.getfield 25, 3)), (134, (.iload_n 1, 1)), (135, (.dup2, 1)), (136, (.iaload, 1)), (137, (.iconst 2, 1)), (138, (.isub, 1))]
theorem td_V_removeKey_7 : ∀ q ∈ tb_V_removeKey_7, decode prog_5_method_12_code q.1 = .ok q.2 := by decide +kernel
def tb_V_removeKey_8 : List (Nat × (Instr × Nat)) := [(139, (.iastore, 1)), (140, (.return_, 1))]
theorem td_V_removeKey_8 : ∀ q ∈ tb_V_removeKey_8, decode prog_5_method_12_code q.1 = .ok q.2 := by decide +kernel
def tb_V_removeKey : Nat → Option (Instr × Nat) := (am_nd 77 (am_nd 35 (am_nd 18 (am_look tb_V_removeKey_0) (am_look tb_V_removeKey_1)) (am_nd 56 (am_look tb_V_removeKey_2) (am_look tb_V_removeKey_3))) (am_nd 111 (am_nd 95 (am_look tb_V_removeKey_4) (am_look tb_V_removeKey_5)) (am_nd 127 (am_look tb_V_removeKey_6) (am_nd 139 (am_look tb_V_removeKey_7) (am_look tb_V_removeKey_8)))))
theorem td_V_removeKey : am_dok prog_5_method_12_code tb_V_removeKey := (am_dok_nd (am_dok_nd (am_dok_nd (am_dok_lf td_V_removeKey_0) (am_dok_lf td_V_removeKey_1)) (am_dok_nd (am_dok_lf td_V_removeKey_2) (am_dok_lf td_V_removeKey_3))) (am_dok_nd (am_dok_nd (am_dok_lf td_V_removeKey_4) (am_dok_lf td_V_removeKey_5)) (am_dok_nd (am_dok_lf td_V_removeKey_6) (am_dok_nd (am_dok_lf td_V_removeKey_7) (am_dok_lf td_V_removeKey_8)))))
def m_V_removeKey : am_M := (⟨"SyntaxRows$Values", "removeKey", "(II)V"⟩, prog_5_method_12_code, 6, none, 3, 2, tb_V_removeKey)
set_option maxRecDepth 100000 in
theorem ok_V_removeKey : am_ok m_V_removeKey := ⟨td_V_removeKey, am_in 588 rfl rfl, am_in 99 (by decide +kernel) rfl, by decide, ⟨by decide, by decide, by decide +kernel⟩, rfl, by decide⟩
theorem oi_V_removeKey : am_inst m_V_removeKey := ⟨am_in 586 (by decide +kernel) rfl, am_in 587 (by decide +kernel) rfl⟩
def tb_V_holdAnew_0 : List (Nat × (Instr × Nat)) := [(0, (.aload_n 0, 1)), (1, (.iload_n 1, 1)), (2, (.invokevirtual 60, 3)), (5, (.ifCond .eq 10, 3)), (8, (.aload_n 0, 1)), (9, (.getfield 37, 3)), (12, (.iload_n 1, 1)), (13, (.iload_n 2, 1)), (14, (.iastore, 1)), (15, (.return_, 1))]
theorem td_V_holdAnew_0 : ∀ q ∈ tb_V_holdAnew_0, decode prog_5_method_11_code q.1 = .ok q.2 := by decide +kernel
def tb_V_holdAnew : Nat → Option (Instr × Nat) := (am_look tb_V_holdAnew_0)
theorem td_V_holdAnew : am_dok prog_5_method_11_code tb_V_holdAnew := (am_dok_lf td_V_holdAnew_0)
def m_V_holdAnew : am_M := (⟨"SyntaxRows$Values", "holdAnew", "(II)V"⟩, prog_5_method_11_code, 3, none, 3, 2, tb_V_holdAnew)
set_option maxRecDepth 100000 in
theorem ok_V_holdAnew : am_ok m_V_holdAnew := ⟨td_V_holdAnew, am_in 592 rfl rfl, am_in 99 (by decide +kernel) rfl, by decide, ⟨by decide, by decide, by decide +kernel⟩, rfl, by decide⟩
theorem oi_V_holdAnew : am_inst m_V_holdAnew := ⟨am_in 590 (by decide +kernel) rfl, am_in 591 (by decide +kernel) rfl⟩
def tb_V_addPart_0 : List (Nat × (Instr × Nat)) := [(0, (.aload_n 0, 1)), (1, (.iload_n 1, 1)), (2, (.invokevirtual 60, 3)), (5, (.ifCond .eq 27, 3)), (8, (.aload_n 0, 1)), (9, (.iload_n 2, 1)), (10, (.invokevirtual 60, 3)), (13, (.ifCond .eq 19, 3)), (16, (.aload_n 0, 1)), (17, (.iload_n 1, 1))]
theorem td_V_addPart_0 : ∀ q ∈ tb_V_addPart_0, decode prog_5_method_9_code q.1 = .ok q.2 := by decide +kernel
def tb_V_addPart_1 : List (Nat × (Instr × Nat)) := [(18, (.iload_n 2, 1)), (19, (.invokevirtual 64, 3)), (22, (.aload_n 0, 1)), (23, (.getfield 25, 3)), (26, (.iload_n 1, 1)), (27, (.dup2, 1)), (28, (.iaload, 1)), (29, (.iconst 1, 1)), (30, (.iadd, 1)), (31, (.iastore, 1))]
theorem td_V_addPart_1 : ∀ q ∈ tb_V_addPart_1, decode prog_5_method_9_code q.1 = .ok q.2 := by decide +kernel
def tb_V_addPart_2 : List (Nat × (Instr × Nat)) := [(32, (.return_, 1))]
theorem td_V_addPart_2 : ∀ q ∈ tb_V_addPart_2, decode prog_5_method_9_code q.1 = .ok q.2 := by decide +kernel
def tb_V_addPart : Nat → Option (Instr × Nat) := (am_nd 18 (am_look tb_V_addPart_0) (am_nd 32 (am_look tb_V_addPart_1) (am_look tb_V_addPart_2)))
theorem td_V_addPart : am_dok prog_5_method_9_code tb_V_addPart := (am_dok_nd (am_dok_lf td_V_addPart_0) (am_dok_nd (am_dok_lf td_V_addPart_1) (am_dok_lf td_V_addPart_2)))
def m_V_addPart : am_M := (⟨"SyntaxRows$Values", "addPart", "(II)V"⟩, prog_5_method_9_code, 3, none, 3, 2, tb_V_addPart)
set_option maxRecDepth 100000 in
theorem ok_V_addPart : am_ok m_V_addPart := ⟨td_V_addPart, am_in 600 rfl rfl, am_in 99 (by decide +kernel) rfl, by decide, ⟨by decide, by decide, by decide +kernel⟩, rfl, by decide⟩
theorem oi_V_addPart : am_inst m_V_addPart := ⟨am_in 598 (by decide +kernel) rfl, am_in 599 (by decide +kernel) rfl⟩
def tb_T_behindLineEnd_0 : List (Nat × (Instr × Nat)) := [(0, (.aload_n 0, 1)), (1, (.iload_n 1, 1)), (2, (.invokevirtual 19, 3)), (5, (.bipush 13, 2)), (7, (.if_icmp .ne 19, 3)), (10, (.aload_n 0, 1)), (11, (.iload_n 1, 1)), (12, (.iconst 1, 1)), (13, (.iadd, 1)), (14, (.invokevirtual 19, 3))]
theorem td_T_behindLineEnd_0 : ∀ q ∈ tb_T_behindLineEnd_0, decode prog_4_method_8_code q.1 = .ok q.2 := by decide +kernel
def tb_T_behindLineEnd_1 : List (Nat × (Instr × Nat)) := [(17, (.bipush 10, 2)), (19, (.if_icmp .ne 7, 3)), (22, (.iload_n 1, 1)), (23, (.iconst 2, 1)), (24, (.iadd, 1)), (25, (.ireturn, 1)), (26, (.aload_n 0, 1)), (27, (.iload_n 1, 1)), (28, (.invokevirtual 19, 3)), (31, (.invokestatic 23, 3))]
theorem td_T_behindLineEnd_1 : ∀ q ∈ tb_T_behindLineEnd_1, decode prog_4_method_8_code q.1 = .ok q.2 := by decide +kernel
def tb_T_behindLineEnd_2 : List (Nat × (Instr × Nat)) := [(34, (.ifCond .eq 9, 3)), (37, (.iload_n 1, 1)), (38, (.iconst 1, 1)), (39, (.iadd, 1)), (40, (.goto 4, 3)), (43, (.iload_n 1, 1)), (44, (.ireturn, 1))]
theorem td_T_behindLineEnd_2 : ∀ q ∈ tb_T_behindLineEnd_2, decode prog_4_method_8_code q.1 = .ok q.2 := by decide +kernel
def tb_T_behindLineEnd : Nat → Option (Instr × Nat) := (am_nd 17 (am_look tb_T_behindLineEnd_0) (am_nd 34 (am_look tb_T_behindLineEnd_1) (am_look tb_T_behindLineEnd_2)))
theorem td_T_behindLineEnd : am_dok prog_4_method_8_code tb_T_behindLineEnd := (am_dok_nd (am_dok_lf td_T_behindLineEnd_0) (am_dok_nd (am_dok_lf td_T_behindLineEnd_1) (am_dok_lf td_T_behindLineEnd_2)))
def m_T_behindLineEnd : am_M := (⟨"SyntaxRows$Tape", "behindLineEnd", "(I)I"⟩, prog_4_method_8_code, 2, (some .int), 2, 1, tb_T_behindLineEnd)
set_option maxRecDepth 100000 in
theorem ok_T_behindLineEnd : am_ok m_T_behindLineEnd := ⟨td_T_behindLineEnd, am_in 613 rfl rfl, am_in 98 (by decide +kernel) rfl, by decide, ⟨by decide, by decide, by decide +kernel⟩, rfl, by decide⟩
theorem oi_T_behindLineEnd : am_inst m_T_behindLineEnd := ⟨am_in 611 (by decide +kernel) rfl, am_in 612 (by decide +kernel) rfl⟩
def tb_V_keySpelled_0 : List (Nat × (Instr × Nat)) := [(0, (.aload_n 0, 1)), (1, (.iload_n 1, 1)), (2, (.invokevirtual 75, 3)), (5, (.istore_n 3, 1)), (6, (.iconst 0, 1)), (7, (.istore 4, 2)), (9, (.iload 4, 2)), (11, (.sipush 300, 3)), (14, (.if_icmp .ge 34, 3)), (17, (.aload_n 0, 1))]
theorem td_V_keySpelled_0 : ∀ q ∈ tb_V_keySpelled_0, decode prog_5_method_23_code q.1 = .ok q.2 := by decide +kernel
def tb_V_keySpelled_1 : List (Nat × (Instr × Nat)) := [(18, (.iload_n 3, 1)), (19, (.invokevirtual 60, 3)), (22, (.ifCond .eq 26, 3)), (25, (.aload_n 0, 1)), (26, (.iload_n 3, 1)), (27, (.aload_n 2, 1)), (28, (.invokevirtual 82, 3)), (31, (.ifCond .eq 5, 3)), (34, (.iload_n 3, 1)), (35, (.ireturn, 1))]
theorem td_V_keySpelled_1 : ∀ q ∈ tb_V_keySpelled_1, decode prog_5_method_23_code q.1 = .ok q.2 := by decide +kernel
def tb_V_keySpelled_2 : List (Nat × (Instr × Nat)) := [(36, (.aload_n 0, 1)), (37, (.iload_n 3, 1)), (38, (.invokevirtual 68, 3)), (41, (.istore_n 3, 1)), (42, (.iinc 4 1, 3)), (45, (.goto (-36), 3)), (48, (.iconst (-1), 1)), (49, (.ireturn, 1))]
theorem td_V_keySpelled_2 : ∀ q ∈ tb_V_keySpelled_2, decode prog_5_method_23_code q.1 = .ok q.2 := by decide +kernel
def tb_V_keySpelled : Nat → Option (Instr × Nat) := (am_nd 18 (am_look tb_V_keySpelled_0) (am_nd 36 (am_look tb_V_keySpelled_1) (am_look tb_V_keySpelled_2)))
theorem td_V_keySpelled : am_dok prog_5_method_23_code tb_V_keySpelled := (am_dok_nd (am_dok_lf td_V_keySpelled_0) (am_dok_nd (am_dok_lf td_V_keySpelled_1) (am_dok_lf td_V_keySpelled_2)))
def m_V_keySpelled : am_M := (⟨"SyntaxRows$Values", "keySpelled", "(ILjava/lang/String;)I"⟩, prog_5_method_23_code, 5, (some .int), 3, 2, tb_V_keySpelled)
set_option maxRecDepth 100000 in
theorem ok_V_keySpelled : am_ok m_V_keySpelled := ⟨td_V_keySpelled, am_in 660 rfl rfl, am_in 99 (by decide +kernel) rfl, by decide, ⟨by decide, by decide, by decide +kernel⟩, rfl, by decide⟩
theorem oi_V_keySpelled : am_inst m_V_keySpelled := ⟨am_in 658 (by decide +kernel) rfl, am_in 659 (by decide +kernel) rfl⟩
def tb_V_isSpelled_0 : List (Nat × (Instr × Nat)) := [(0, (.aload_n 0, 1)), (1, (.iload_n 1, 1)), (2, (.invokevirtual 86, 3)), (5, (.aload_n 2, 1)), (6, (.invokevirtual 92, 3)), (9, (.if_icmp .eq 5, 3)), (12, (.iconst 0, 1)), (13, (.ireturn, 1)), (14, (.iconst 0, 1)), (15, (.istore_n 3, 1))]
theorem td_V_isSpelled_0 : ∀ q ∈ tb_V_isSpelled_0, decode prog_5_method_26_code q.1 = .ok q.2 := by decide +kernel
def tb_V_isSpelled_1 : List (Nat × (Instr × Nat)) := [(16, (.iload_n 3, 1)), (17, (.aload_n 2, 1)), (18, (.invokevirtual 92, 3)), (21, (.if_icmp .ge 25, 3)), (24, (.aload_n 0, 1)), (25, (.iload_n 1, 1)), (26, (.iload_n 3, 1)), (27, (.invokevirtual 89, 3)), (30, (.aload_n 2, 1)), (31, (.iload_n 3, 1))]
theorem td_V_isSpelled_1 : ∀ q ∈ tb_V_isSpelled_1, decode prog_5_method_26_code q.1 = .ok q.2 := by decide +kernel
def tb_V_isSpelled_2 : List (Nat × (Instr × Nat)) := [(32, (.invokevirtual 98, 3)), (35, (.if_icmp .eq 5, 3)), (38, (.iconst 0, 1)), (39, (.ireturn, 1)), (40, (.iinc 3 1, 3)), (43, (.goto (-27), 3)), (46, (.iconst 1, 1)), (47, (.ireturn, 1))]
theorem td_V_isSpelled_2 : ∀ q ∈ tb_V_isSpelled_2, decode prog_5_method_26_code q.1 = .ok q.2 := by decide +kernel
def tb_V_isSpelled : Nat → Option (Instr × Nat) := (am_nd 16 (am_look tb_V_isSpelled_0) (am_nd 32 (am_look tb_V_isSpelled_1) (am_look tb_V_isSpelled_2)))
theorem td_V_isSpelled : am_dok prog_5_method_26_code tb_V_isSpelled := (am_dok_nd (am_dok_lf td_V_isSpelled_0) (am_dok_nd (am_dok_lf td_V_isSpelled_1) (am_dok_lf td_V_isSpelled_2)))
def m_V_isSpelled : am_M := (⟨"SyntaxRows$Values", "isSpelled", "(ILjava/lang/String;)Z"⟩, prog_5_method_26_code, 4, (some .boolean), 3, 2, tb_V_isSpelled)
set_option maxRecDepth 100000 in
theorem ok_V_isSpelled : am_ok m_V_isSpelled := ⟨td_V_isSpelled, am_in 664 rfl rfl, am_in 99 (by decide +kernel) rfl, by decide, ⟨by decide, by decide, by decide +kernel⟩, rfl, by decide⟩
theorem oi_V_isSpelled : am_inst m_V_isSpelled := ⟨am_in 663 (by decide +kernel) rfl, am_in 23 (by decide +kernel) rfl⟩
def tb_V_heldBy_0 : List (Nat × (Instr × Nat)) := [(0, (.aload_n 0, 1)), (1, (.iload_n 1, 1)), (2, (.invokevirtual 60, 3)), (5, (.ifCond .eq 12, 3)), (8, (.aload_n 0, 1)), (9, (.getfield 37, 3)), (12, (.iload_n 1, 1)), (13, (.iaload, 1)), (14, (.goto 4, 3)), (17, (.iconst (-1), 1))]
theorem td_V_heldBy_0 : ∀ q ∈ tb_V_heldBy_0, decode prog_5_method_19_code q.1 = .ok q.2 := by decide +kernel
def tb_V_heldBy_1 : List (Nat × (Instr × Nat)) := [(18, (.ireturn, 1))]
theorem td_V_heldBy_1 : ∀ q ∈ tb_V_heldBy_1, decode prog_5_method_19_code q.1 = .ok q.2 := by decide +kernel
def tb_V_heldBy : Nat → Option (Instr × Nat) := (am_nd 18 (am_look tb_V_heldBy_0) (am_look tb_V_heldBy_1))
theorem td_V_heldBy : am_dok prog_5_method_19_code tb_V_heldBy := (am_dok_nd (am_dok_lf td_V_heldBy_0) (am_dok_lf td_V_heldBy_1))
def m_V_heldBy : am_M := (⟨"SyntaxRows$Values", "heldBy", "(I)I"⟩, prog_5_method_19_code, 2, (some .int), 3, 1, tb_V_heldBy)
set_option maxRecDepth 100000 in
theorem ok_V_heldBy : am_ok m_V_heldBy := ⟨td_V_heldBy, am_in 670 rfl rfl, am_in 99 (by decide +kernel) rfl, by decide, ⟨by decide, by decide, by decide +kernel⟩, rfl, by decide⟩
theorem oi_V_heldBy : am_inst m_V_heldBy := ⟨am_in 668 (by decide +kernel) rfl, am_in 669 (by decide +kernel) rfl⟩
def tb_V_numberOf_0 : List (Nat × (Instr × Nat)) := [(0, (.aload_n 0, 1)), (1, (.iload_n 1, 1)), (2, (.invokevirtual 60, 3)), (5, (.ifCond .eq 12, 3)), (8, (.aload_n 0, 1)), (9, (.getfield 15, 3)), (12, (.iload_n 1, 1)), (13, (.laload, 1)), (14, (.goto 4, 3)), (17, (.lconst 0, 1))]
theorem td_V_numberOf_0 : ∀ q ∈ tb_V_numberOf_0, decode prog_5_method_14_code q.1 = .ok q.2 := by decide +kernel
def tb_V_numberOf_1 : List (Nat × (Instr × Nat)) := [(18, (.lreturn, 1))]
theorem td_V_numberOf_1 : ∀ q ∈ tb_V_numberOf_1, decode prog_5_method_14_code q.1 = .ok q.2 := by decide +kernel
def tb_V_numberOf : Nat → Option (Instr × Nat) := (am_nd 18 (am_look tb_V_numberOf_0) (am_look tb_V_numberOf_1))
theorem td_V_numberOf : am_dok prog_5_method_14_code tb_V_numberOf := (am_dok_nd (am_dok_lf td_V_numberOf_0) (am_dok_lf td_V_numberOf_1))
def m_V_numberOf : am_M := (⟨"SyntaxRows$Values", "numberOf", "(I)J"⟩, prog_5_method_14_code, 2, (some .long), 3, 1, tb_V_numberOf)
set_option maxRecDepth 100000 in
theorem ok_V_numberOf : am_ok m_V_numberOf := ⟨td_V_numberOf, am_in 674 rfl rfl, am_in 99 (by decide +kernel) rfl, by decide, ⟨by decide, by decide, by decide +kernel⟩, rfl, by decide⟩
theorem oi_V_numberOf : am_inst m_V_numberOf := ⟨am_in 672 (by decide +kernel) rfl, am_in 673 (by decide +kernel) rfl⟩
def tb_O_latest_0 : List (Nat × (Instr × Nat)) := [(0, (.aload_n 0, 1)), (1, (.getfield 15, 3)), (4, (.iconst 1, 1)), (5, (.isub, 1)), (6, (.istore_n 3, 1)), (7, (.iload_n 3, 1)), (8, (.ifCond .lt 41, 3)), (11, (.aload_n 0, 1)), (12, (.iload_n 3, 1)), (13, (.iconst 0, 1))]
theorem td_O_latest_0 : ∀ q ∈ tb_O_latest_0, decode prog_2_method_10_code q.1 = .ok q.2 := by decide +kernel
def tb_O_latest_1 : List (Nat × (Instr × Nat)) := [(14, (.invokevirtual 31, 3)), (17, (.iload_n 1, 1)), (18, (.if_icmp .ne 25, 3)), (21, (.aload_n 0, 1)), (22, (.iload_n 3, 1)), (23, (.iconst 1, 1)), (24, (.invokevirtual 31, 3)), (27, (.iload_n 2, 1)), (28, (.if_icmp .ne 15, 3)), (31, (.aload_n 0, 1))]
theorem td_O_latest_1 : ∀ q ∈ tb_O_latest_1, decode prog_2_method_10_code q.1 = .ok q.2 := by decide +kernel
def tb_O_latest_2 : List (Nat × (Instr × Nat)) := [(32, (.iload_n 3, 1)), (33, (.iconst 2, 1)), (34, (.invokevirtual 31, 3)), (37, (.iconst (-1), 1)), (38, (.if_icmp .eq 5, 3)), (41, (.iload_n 3, 1)), (42, (.ireturn, 1)), (43, (.iinc 3 (-1), 3)), (46, (.goto (-39), 3)), (49, (.iconst (-1), 1))]
theorem td_O_latest_2 : ∀ q ∈ tb_O_latest_2, decode prog_2_method_10_code q.1 = .ok q.2 := by decide +kernel
def tb_O_latest_3 : List (Nat × (Instr × Nat)) := [(50, (.ireturn, 1))]
theorem td_O_latest_3 : ∀ q ∈ tb_O_latest_3, decode prog_2_method_10_code q.1 = .ok q.2 := by decide +kernel
def tb_O_latest : Nat → Option (Instr × Nat) := (am_nd 32 (am_nd 14 (am_look tb_O_latest_0) (am_look tb_O_latest_1)) (am_nd 50 (am_look tb_O_latest_2) (am_look tb_O_latest_3)))
theorem td_O_latest : am_dok prog_2_method_10_code tb_O_latest := (am_dok_nd (am_dok_nd (am_dok_lf td_O_latest_0) (am_dok_lf td_O_latest_1)) (am_dok_nd (am_dok_lf td_O_latest_2) (am_dok_lf td_O_latest_3)))
def m_O_latest : am_M := (⟨"SyntaxRows$ObjectRows", "latest", "(II)I"⟩, prog_2_method_10_code, 4, (some .int), 0, 2, tb_O_latest)
set_option maxRecDepth 100000 in
theorem ok_O_latest : am_ok m_O_latest := ⟨td_O_latest, am_in 678 rfl rfl, am_in 100 (by decide +kernel) rfl, by decide, ⟨by decide, by decide, by decide +kernel⟩, rfl, by decide⟩
theorem oi_O_latest : am_inst m_O_latest := ⟨am_in 676 (by decide +kernel) rfl, am_in 677 (by decide +kernel) rfl⟩
def tb_O_entry_0 : List (Nat × (Instr × Nat)) := [(0, (.aload_n 0, 1)), (1, (.iload_n 1, 1)), (2, (.invokevirtual 27, 3)), (5, (.ifCond .eq 27, 3)), (8, (.iload_n 2, 1)), (9, (.ifCond .lt 23, 3)), (12, (.iload_n 2, 1)), (13, (.bipush 8, 2)), (15, (.if_icmp .ge 17, 3)), (18, (.aload_n 0, 1))]
theorem td_O_entry_0 : ∀ q ∈ tb_O_entry_0, decode prog_2_method_8_code q.1 = .ok q.2 := by decide +kernel
def tb_O_entry_1 : List (Nat × (Instr × Nat)) := [(19, (.getfield 11, 3)), (22, (.iload_n 1, 1)), (23, (.bipush 8, 2)), (25, (.imul, 1)), (26, (.iload_n 2, 1)), (27, (.iadd, 1)), (28, (.iaload, 1)), (29, (.goto 4, 3)), (32, (.iconst (-1), 1)), (33, (.ireturn, 1))]
theorem td_O_entry_1 : ∀ q ∈ tb_O_entry_1, decode prog_2_method_8_code q.1 = .ok q.2 := by decide +kernel
def tb_O_entry : Nat → Option (Instr × Nat) := (am_nd 19 (am_look tb_O_entry_0) (am_look tb_O_entry_1))
theorem td_O_entry : am_dok prog_2_method_8_code tb_O_entry := (am_dok_nd (am_dok_lf td_O_entry_0) (am_dok_lf td_O_entry_1))
def m_O_entry : am_M := (⟨"SyntaxRows$ObjectRows", "entry", "(II)I"⟩, prog_2_method_8_code, 3, (some .int), 0, 2, tb_O_entry)
set_option maxRecDepth 100000 in
theorem ok_O_entry : am_ok m_O_entry := ⟨td_O_entry, am_in 682 rfl rfl, am_in 100 (by decide +kernel) rfl, by decide, ⟨by decide, by decide, by decide +kernel⟩, rfl, by decide⟩
theorem oi_O_entry : am_inst m_O_entry := ⟨am_in 680 (by decide +kernel) rfl, am_in 681 (by decide +kernel) rfl⟩
def tb_O_valueOf_0 : List (Nat × (Instr × Nat)) := [(0, (.aload_n 0, 1)), (1, (.iload_n 1, 1)), (2, (.iconst 2, 1)), (3, (.invokevirtual 31, 3)), (6, (.ireturn, 1))]
theorem td_O_valueOf_0 : ∀ q ∈ tb_O_valueOf_0, decode prog_2_method_9_code q.1 = .ok q.2 := by decide +kernel
def tb_O_valueOf : Nat → Option (Instr × Nat) := (am_look tb_O_valueOf_0)
theorem td_O_valueOf : am_dok prog_2_method_9_code tb_O_valueOf := (am_dok_lf td_O_valueOf_0)
def m_O_valueOf : am_M := (⟨"SyntaxRows$ObjectRows", "valueOf", "(I)I"⟩, prog_2_method_9_code, 2, (some .int), 0, 1, tb_O_valueOf)
set_option maxRecDepth 100000 in
theorem ok_O_valueOf : am_ok m_O_valueOf := ⟨td_O_valueOf, am_in 686 rfl rfl, am_in 100 (by decide +kernel) rfl, by decide, ⟨by decide, by decide, by decide +kernel⟩, rfl, by decide⟩
theorem oi_O_valueOf : am_inst m_O_valueOf := ⟨am_in 684 (by decide +kernel) rfl, am_in 685 (by decide +kernel) rfl⟩
def tb_T_firstText_0 : List (Nat × (Instr × Nat)) := [(0, (.iload_n 1, 1)), (1, (.istore_n 3, 1)), (2, (.iload_n 3, 1)), (3, (.aload_n 0, 1)), (4, (.getfield 15, 3)), (7, (.if_icmp .ge 20, 3)), (10, (.aload_n 0, 1)), (11, (.iload_n 3, 1)), (12, (.aload_n 2, 1)), (13, (.invokevirtual 43, 3))]
theorem td_T_firstText_0 : ∀ q ∈ tb_T_firstText_0, decode prog_4_method_11_code q.1 = .ok q.2 := by decide +kernel
def tb_T_firstText_1 : List (Nat × (Instr × Nat)) := [(16, (.ifCond .eq 5, 3)), (19, (.iload_n 3, 1)), (20, (.ireturn, 1)), (21, (.iinc 3 1, 3)), (24, (.goto (-22), 3)), (27, (.iconst (-1), 1)), (28, (.ireturn, 1))]
theorem td_T_firstText_1 : ∀ q ∈ tb_T_firstText_1, decode prog_4_method_11_code q.1 = .ok q.2 := by decide +kernel
def tb_T_firstText : Nat → Option (Instr × Nat) := (am_nd 16 (am_look tb_T_firstText_0) (am_look tb_T_firstText_1))
theorem td_T_firstText : am_dok prog_4_method_11_code tb_T_firstText := (am_dok_nd (am_dok_lf td_T_firstText_0) (am_dok_lf td_T_firstText_1))
def m_T_firstText : am_M := (⟨"SyntaxRows$Tape", "firstText", "(ILjava/lang/String;)I"⟩, prog_4_method_11_code, 4, (some .int), 2, 2, tb_T_firstText)
set_option maxRecDepth 100000 in
theorem ok_T_firstText : am_ok m_T_firstText := ⟨td_T_firstText, am_in 695 rfl rfl, am_in 98 (by decide +kernel) rfl, by decide, ⟨by decide, by decide, by decide +kernel⟩, rfl, by decide⟩
theorem oi_T_firstText : am_inst m_T_firstText := ⟨am_in 693 (by decide +kernel) rfl, am_in 694 (by decide +kernel) rfl⟩
def tb_O_end_0 : List (Nat × (Instr × Nat)) := [(0, (.aload_n 0, 1)), (1, (.iload_n 1, 1)), (2, (.iconst 2, 1)), (3, (.iload_n 2, 1)), (4, (.invokevirtual 23, 3)), (7, (.aload_n 0, 1)), (8, (.iload_n 1, 1)), (9, (.iconst 3, 1)), (10, (.iload_n 3, 1)), (11, (.invokevirtual 23, 3))]
theorem td_O_end_0 : ∀ q ∈ tb_O_end_0, decode prog_2_method_7_code q.1 = .ok q.2 := by decide +kernel
def tb_O_end_1 : List (Nat × (Instr × Nat)) := [(14, (.aload_n 0, 1)), (15, (.iload_n 1, 1)), (16, (.iconst 4, 1)), (17, (.iload 4, 2)), (19, (.invokevirtual 23, 3)), (22, (.aload_n 0, 1)), (23, (.iload_n 1, 1)), (24, (.iconst 5, 1)), (25, (.iload 5, 2)), (27, (.invokevirtual 23, 3))]
theorem td_O_end_1 : ∀ q ∈ tb_O_end_1, decode prog_2_method_7_code q.1 = .ok q.2 := by decide +kernel
def tb_O_end_2 : List (Nat × (Instr × Nat)) := [(30, (.aload_n 0, 1)), (31, (.iload_n 1, 1)), (32, (.bipush 7, 2)), (34, (.iload 6, 2)), (36, (.invokevirtual 23, 3)), (39, (.return_, 1))]
theorem td_O_end_2 : ∀ q ∈ tb_O_end_2, decode prog_2_method_7_code q.1 = .ok q.2 := by decide +kernel
def tb_O_end : Nat → Option (Instr × Nat) := (am_nd 14 (am_look tb_O_end_0) (am_nd 30 (am_look tb_O_end_1) (am_look tb_O_end_2)))
theorem td_O_end : am_dok prog_2_method_7_code tb_O_end := (am_dok_nd (am_dok_lf td_O_end_0) (am_dok_nd (am_dok_lf td_O_end_1) (am_dok_lf td_O_end_2)))
def m_O_end : am_M := (⟨"SyntaxRows$ObjectRows", "end", "(IIIIII)V"⟩, prog_2_method_7_code, 7, none, 0, 6, tb_O_end)
set_option maxRecDepth 100000 in
theorem ok_O_end : am_ok m_O_end := ⟨td_O_end, am_in 716 rfl rfl, am_in 100 (by decide +kernel) rfl, by decide, ⟨by decide, by decide, by decide +kernel⟩, rfl, by decide⟩
theorem oi_O_end : am_inst m_O_end := ⟨am_in 714 (by decide +kernel) rfl, am_in 715 (by decide +kernel) rfl⟩
def tb_O_size_0 : List (Nat × (Instr × Nat)) := [(0, (.aload_n 0, 1)), (1, (.getfield 15, 3)), (4, (.ireturn, 1))]
theorem td_O_size_0 : ∀ q ∈ tb_O_size_0, decode prog_2_method_2_code q.1 = .ok q.2 := by decide +kernel
def tb_O_size : Nat → Option (Instr × Nat) := (am_look tb_O_size_0)
theorem td_O_size : am_dok prog_2_method_2_code tb_O_size := (am_dok_lf td_O_size_0)
def m_O_size : am_M := (⟨"SyntaxRows$ObjectRows", "size", "()I"⟩, prog_2_method_2_code, 1, (some .int), 0, 0, tb_O_size)
set_option maxRecDepth 100000 in
theorem ok_O_size : am_ok m_O_size := ⟨td_O_size, am_in 720 rfl rfl, am_in 100 (by decide +kernel) rfl, by decide, ⟨by decide, by decide, by decide +kernel⟩, rfl, by decide⟩
theorem oi_O_size : am_inst m_O_size := ⟨am_in 718 (by decide +kernel) rfl, am_in 719 (by decide +kernel) rfl⟩
def tb_T_add_0 : List (Nat × (Instr × Nat)) := [(0, (.aload_n 0, 1)), (1, (.getfield 15, 3)), (4, (.sipush 1600, 3)), (7, (.if_icmp .ge 24, 3)), (10, (.aload_n 0, 1)), (11, (.getfield 9, 3)), (14, (.aload_n 0, 1)), (15, (.getfield 15, 3)), (18, (.iload_n 1, 1)), (19, (.i2b, 1))]
theorem td_T_add_0 : ∀ q ∈ tb_T_add_0, decode prog_4_method_4_code q.1 = .ok q.2 := by decide +kernel
def tb_T_add_1 : List (Nat × (Instr × Nat)) := [(20, (.bastore, 1)), (21, (.aload_n 0, 1)), (22, (.dup, 1)), (23, (.getfield 15, 3)), (26, (.iconst 1, 1)), (27, (.iadd, 1)), (28, (.putfield 15, 3)), (31, (.return_, 1))]
theorem td_T_add_1 : ∀ q ∈ tb_T_add_1, decode prog_4_method_4_code q.1 = .ok q.2 := by decide +kernel
def tb_T_add : Nat → Option (Instr × Nat) := (am_nd 20 (am_look tb_T_add_0) (am_look tb_T_add_1))
theorem td_T_add : am_dok prog_4_method_4_code tb_T_add := (am_dok_nd (am_dok_lf td_T_add_0) (am_dok_lf td_T_add_1))
def m_T_add : am_M := (⟨"SyntaxRows$Tape", "add", "(I)V"⟩, prog_4_method_4_code, 2, none, 2, 1, tb_T_add)
set_option maxRecDepth 100000 in
theorem ok_T_add : am_ok m_T_add := ⟨td_T_add, am_in 745 rfl rfl, am_in 98 (by decide +kernel) rfl, by decide, ⟨by decide, by decide, by decide +kernel⟩, rfl, by decide⟩
theorem oi_T_add : am_inst m_T_add := ⟨am_in 743 (by decide +kernel) rfl, am_in 744 (by decide +kernel) rfl⟩
def tb_V_partsOf_0 : List (Nat × (Instr × Nat)) := [(0, (.aload_n 0, 1)), (1, (.iload_n 1, 1)), (2, (.invokevirtual 60, 3)), (5, (.ifCond .eq 12, 3)), (8, (.aload_n 0, 1)), (9, (.getfield 25, 3)), (12, (.iload_n 1, 1)), (13, (.iaload, 1)), (14, (.goto 4, 3)), (17, (.iconst 0, 1))]
theorem td_V_partsOf_0 : ∀ q ∈ tb_V_partsOf_0, decode prog_5_method_15_code q.1 = .ok q.2 := by decide +kernel
def tb_V_partsOf_1 : List (Nat × (Instr × Nat)) := [(18, (.ireturn, 1))]
theorem td_V_partsOf_1 : ∀ q ∈ tb_V_partsOf_1, decode prog_5_method_15_code q.1 = .ok q.2 := by decide +kernel
def tb_V_partsOf : Nat → Option (Instr × Nat) := (am_nd 18 (am_look tb_V_partsOf_0) (am_look tb_V_partsOf_1))
theorem td_V_partsOf : am_dok prog_5_method_15_code tb_V_partsOf := (am_dok_nd (am_dok_lf td_V_partsOf_0) (am_dok_lf td_V_partsOf_1))
def m_V_partsOf : am_M := (⟨"SyntaxRows$Values", "partsOf", "(I)I"⟩, prog_5_method_15_code, 2, (some .int), 3, 1, tb_V_partsOf)
set_option maxRecDepth 100000 in
theorem ok_V_partsOf : am_ok m_V_partsOf := ⟨td_V_partsOf, am_in 859 rfl rfl, am_in 99 (by decide +kernel) rfl, by decide, ⟨by decide, by decide, by decide +kernel⟩, rfl, by decide⟩
theorem oi_V_partsOf : am_inst m_V_partsOf := ⟨am_in 857 (by decide +kernel) rfl, am_in 858 (by decide +kernel) rfl⟩
def tb_V_partAt_0 : List (Nat × (Instr × Nat)) := [(0, (.aload_n 0, 1)), (1, (.iload_n 1, 1)), (2, (.invokevirtual 60, 3)), (5, (.ifCond .eq 17, 3)), (8, (.iload_n 2, 1)), (9, (.ifCond .lt 13, 3)), (12, (.iload_n 2, 1)), (13, (.aload_n 0, 1)), (14, (.getfield 25, 3)), (17, (.iload_n 1, 1))]
theorem td_V_partAt_0 : ∀ q ∈ tb_V_partAt_0, decode prog_5_method_21_code q.1 = .ok q.2 := by decide +kernel
def tb_V_partAt_1 : List (Nat × (Instr × Nat)) := [(18, (.iaload, 1)), (19, (.if_icmp .lt 5, 3)), (22, (.iconst (-1), 1)), (23, (.ireturn, 1)), (24, (.aload_n 0, 1)), (25, (.getfield 9, 3)), (28, (.iload_n 1, 1)), (29, (.iaload, 1)), (30, (.bipush 7, 2)), (32, (.if_icmp .ne 7, 3))]
theorem td_V_partAt_1 : ∀ q ∈ tb_V_partAt_1, decode prog_5_method_21_code q.1 = .ok q.2 := by decide +kernel
def tb_V_partAt_2 : List (Nat × (Instr × Nat)) := [(35, (.iconst 1, 1)), (36, (.goto 4, 3)), (39, (.iconst 0, 1)), (40, (.istore_n 3, 1)), (41, (.iload_n 3, 1)), (42, (.ifCond .eq 9, 3)), (45, (.iload_n 2, 1)), (46, (.iconst 2, 1)), (47, (.idiv, 1)), (48, (.goto 4, 3))]
theorem td_V_partAt_2 : ∀ q ∈ tb_V_partAt_2, decode prog_5_method_21_code q.1 = .ok q.2 := by decide +kernel
def tb_V_partAt_3 : List (Nat × (Instr × Nat)) := [(51, (.iload_n 2, 1)), (52, (.istore 4, 2)), (54, (.aload_n 0, 1)), (55, (.getfield 28, 3)), (58, (.iload_n 1, 1)), (59, (.iaload, 1)), (60, (.istore 5, 2)), (62, (.iconst 0, 1)), (63, (.istore 6, 2)), (65, (.iload 6, 2))]
theorem td_V_partAt_3 : ∀ q ∈ tb_V_partAt_3, decode prog_5_method_21_code q.1 = .ok q.2 := by decide +kernel
def tb_V_partAt_4 : List (Nat × (Instr × Nat)) := [(67, (.iload 4, 2)), (69, (.if_icmp .ge 17, 3)), (72, (.aload_n 0, 1)), (73, (.iload 5, 2)), (75, (.invokevirtual 68, 3)), (78, (.istore 5, 2)), (80, (.iinc 6 1, 3)), (83, (.goto (-18), 3)), (86, (.iload_n 3, 1)), (87, (.ifCond .eq 19, 3))]
theorem td_V_partAt_4 : ∀ q ∈ tb_V_partAt_4, decode prog_5_method_21_code q.1 = .ok q.2 := by decide +kernel
def tb_V_partAt_5 : List (Nat × (Instr × Nat)) := [(90, (.iload_n 2, 1)), (91, (.iconst 2, 1)), (92, (.irem, 1)), (93, (.iconst 1, 1)), (94, (.if_icmp .ne 12, 3)), (97, (.aload_n 0, 1)), (98, (.iload 5, 2)), (100, (.invokevirtual 72, 3)), (103, (.goto 5, 3)), (106, (.iload 5, 2))]
theorem td_V_partAt_5 : ∀ q ∈ tb_V_partAt_5, decode prog_5_method_21_code q.1 = .ok q.2 := by decide +kernel
def tb_V_partAt_6 : List (Nat × (Instr × Nat)) := [(108, (.ireturn, 1))]
theorem td_V_partAt_6 : ∀ q ∈ tb_V_partAt_6, decode prog_5_method_21_code q.1 = .ok q.2 := by decide +kernel
def tb_V_partAt : Nat → Option (Instr × Nat) := (am_nd 51 (am_nd 18 (am_look tb_V_partAt_0) (am_nd 35 (am_look tb_V_partAt_1) (am_look tb_V_partAt_2))) (am_nd 90 (am_nd 67 (am_look tb_V_partAt_3) (am_look tb_V_partAt_4)) (am_nd 108 (am_look tb_V_partAt_5) (am_look tb_V_partAt_6))))
theorem td_V_partAt : am_dok prog_5_method_21_code tb_V_partAt := (am_dok_nd (am_dok_nd (am_dok_lf td_V_partAt_0) (am_dok_nd (am_dok_lf td_V_partAt_1) (am_dok_lf td_V_partAt_2))) (am_dok_nd (am_dok_nd (am_dok_lf td_V_partAt_3) (am_dok_lf td_V_partAt_4)) (am_dok_nd (am_dok_lf td_V_partAt_5) (am_dok_lf td_V_partAt_6))))
def m_V_partAt : am_M := (⟨"SyntaxRows$Values", "partAt", "(II)I"⟩, prog_5_method_21_code, 7, (some .int), 3, 2, tb_V_partAt)
set_option maxRecDepth 100000 in
theorem ok_V_partAt : am_ok m_V_partAt := ⟨td_V_partAt, am_in 888 rfl rfl, am_in 99 (by decide +kernel) rfl, by decide, ⟨by decide, by decide, by decide +kernel⟩, rfl, by decide⟩
theorem oi_V_partAt : am_inst m_V_partAt := ⟨am_in 886 (by decide +kernel) rfl, am_in 887 (by decide +kernel) rfl⟩
def tb_Q_abs_0 : List (Nat × (Instr × Nat)) := [(0, (.lload_n 0, 1)), (1, (.lconst 0, 1)), (2, (.lcmp, 1)), (3, (.ifCond .ge 8, 3)), (6, (.lload_n 0, 1)), (7, (.lneg, 1)), (8, (.goto 4, 3)), (11, (.lload_n 0, 1)), (12, (.lreturn, 1))]
theorem td_Q_abs_0 : ∀ q ∈ tb_Q_abs_0, decode prog_13_method_61_code q.1 = .ok q.2 := by decide +kernel
def tb_Q_abs : Nat → Option (Instr × Nat) := (am_look tb_Q_abs_0)
theorem td_Q_abs : am_dok prog_13_method_61_code tb_Q_abs := (am_dok_lf td_Q_abs_0)
def m_Q_abs : am_M := (⟨"java/lang/Math", "abs", "(J)J"⟩, prog_13_method_61_code, 2, (some .long), 9, 1, tb_Q_abs)
