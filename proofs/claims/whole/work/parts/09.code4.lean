/-! decoded code of methods, printed by wip/gen/gen06.py -/
def tb_M_init_0 : List (Nat × (Instr × Nat)) := [(0, (.aload_n 0, 1)), (1, (.invokespecial 1, 3)), (4, (.aload_n 0, 1)), (5, (.sipush 1600, 3)), (8, (.newarray .int, 2)), (10, (.putfield 7, 3)), (13, (.aload_n 0, 1)), (14, (.sipush 160, 3)), (17, (.newarray .int, 2)), (19, (.putfield 13, 3))]
theorem td_M_init_0 : ∀ q ∈ tb_M_init_0, decode prog_8_method_1_code q.1 = .ok q.2 := by decide +kernel
def tb_M_init_1 : List (Nat × (Instr × Nat)) := [(22, (.aload_n 0, 1)), (23, (.sipush 300, 3)), (26, (.newarray .int, 2)), (28, (.putfield 16, 3)), (31, (.aload_n 0, 1)), (32, (.sipush 300, 3)), (35, (.newarray .long, 2)), (37, (.putfield 19, 3)), (40, (.aload_n 0, 1)), (41, (.sipush 300, 3))]
theorem td_M_init_1 : ∀ q ∈ tb_M_init_1, decode prog_8_method_1_code q.1 = .ok q.2 := by decide +kernel
def tb_M_init_2 : List (Nat × (Instr × Nat)) := [(44, (.newarray .int, 2)), (46, (.putfield 23, 3)), (49, (.aload_n 0, 1)), (50, (.sipush 300, 3)), (53, (.newarray .int, 2)), (55, (.putfield 26, 3)), (58, (.aload_n 0, 1)), (59, (.sipush 300, 3)), (62, (.newarray .int, 2)), (64, (.putfield 29, 3))]
theorem td_M_init_2 : ∀ q ∈ tb_M_init_2, decode prog_8_method_1_code q.1 = .ok q.2 := by decide +kernel
def tb_M_init_3 : List (Nat × (Instr × Nat)) := [(67, (.aload_n 0, 1)), (68, (.sipush 300, 3)), (71, (.newarray .int, 2)), (73, (.putfield 32, 3)), (76, (.aload_n 0, 1)), (77, (.sipush 300, 3)), (80, (.newarray .int, 2)), (82, (.putfield 35, 3)), (85, (.aload_n 0, 1)), (86, (.sipush 300, 3))]
theorem td_M_init_3 : ∀ q ∈ tb_M_init_3, decode prog_8_method_1_code q.1 = .ok q.2 := by decide +kernel
def tb_M_init_4 : List (Nat × (Instr × Nat)) := [(89, (.newarray .int, 2)), (91, (.putfield 38, 3)), (94, (.aload_n 0, 1)), (95, (.sipush 2000, 3)), (98, (.newarray .int, 2)), (100, (.putfield 41, 3)), (103, (.aload_n 0, 1)), (104, (.sipush 420, 3)), (107, (.newarray .int, 2)), (109, (.putfield 44, 3))]
theorem td_M_init_4 : ∀ q ∈ tb_M_init_4, decode prog_8_method_1_code q.1 = .ok q.2 := by decide +kernel
def tb_M_init_5 : List (Nat × (Instr × Nat)) := [(112, (.aload_n 0, 1)), (113, (.bipush 9, 2)), (115, (.newarray .int, 2)), (117, (.putfield 47, 3)), (120, (.aload_n 0, 1)), (121, (.bipush 9, 2)), (123, (.newarray .int, 2)), (125, (.putfield 50, 3)), (128, (.aload_n 0, 1)), (129, (.sipush 4000, 3))]
theorem td_M_init_5 : ∀ q ∈ tb_M_init_5, decode prog_8_method_1_code q.1 = .ok q.2 := by decide +kernel
def tb_M_init_6 : List (Nat × (Instr × Nat)) := [(132, (.newarray .int, 2)), (134, (.putfield 53, 3)), (137, (.aload_n 0, 1)), (138, (.sipush 4000, 3)), (141, (.newarray .int, 2)), (143, (.putfield 56, 3)), (146, (.aload_n 0, 1)), (147, (.bipush 10, 2)), (149, (.newarray .int, 2)), (151, (.putfield 59, 3))]
theorem td_M_init_6 : ∀ q ∈ tb_M_init_6, decode prog_8_method_1_code q.1 = .ok q.2 := by decide +kernel
def tb_M_init_7 : List (Nat × (Instr × Nat)) := [(154, (.aload_n 0, 1)), (155, (.iconst 0, 1)), (156, (.putfield 62, 3)), (159, (.return_, 1))]
theorem td_M_init_7 : ∀ q ∈ tb_M_init_7, decode prog_8_method_1_code q.1 = .ok q.2 := by decide +kernel
def tb_M_init : Nat → Option (Instr × Nat) := (am_nd 89 (am_nd 44 (am_nd 22 (am_look tb_M_init_0) (am_look tb_M_init_1)) (am_nd 67 (am_look tb_M_init_2) (am_look tb_M_init_3))) (am_nd 132 (am_nd 112 (am_look tb_M_init_4) (am_look tb_M_init_5)) (am_nd 154 (am_look tb_M_init_6) (am_look tb_M_init_7))))
theorem td_M_init : am_dok prog_8_method_1_code tb_M_init := (am_dok_nd (am_dok_nd (am_dok_nd (am_dok_lf td_M_init_0) (am_dok_lf td_M_init_1)) (am_dok_nd (am_dok_lf td_M_init_2) (am_dok_lf td_M_init_3))) (am_dok_nd (am_dok_nd (am_dok_lf td_M_init_4) (am_dok_lf td_M_init_5)) (am_dok_nd (am_dok_lf td_M_init_6) (am_dok_lf td_M_init_7))))
def m_M_init : am_M := (⟨"SyntaxRowsModel", "<init>", "()V"⟩, prog_8_method_1_code, 1, none, 6, 0, tb_M_init)
set_option maxRecDepth 100000 in
theorem ok_M_init : am_ok m_M_init := ⟨td_M_init, am_in 1037 rfl rfl, am_in 103 (by decide +kernel) rfl, by decide, ⟨by decide, by decide, by decide +kernel⟩, rfl, by decide⟩
def tb_M_thrown_0 : List (Nat × (Instr × Nat)) := [(0, (.aload_n 0, 1)), (1, (.getfield 66, 3)), (4, (.ireturn, 1))]
theorem td_M_thrown_0 : ∀ q ∈ tb_M_thrown_0, decode prog_8_method_2_code q.1 = .ok q.2 := by decide +kernel
def tb_M_thrown : Nat → Option (Instr × Nat) := (am_look tb_M_thrown_0)
theorem td_M_thrown : am_dok prog_8_method_2_code tb_M_thrown := (am_dok_lf td_M_thrown_0)
def m_M_thrown : am_M := (⟨"SyntaxRowsModel", "thrown", "()I"⟩, prog_8_method_2_code, 1, (some .int), 6, 0, tb_M_thrown)
set_option maxRecDepth 100000 in
theorem ok_M_thrown : am_ok m_M_thrown := ⟨td_M_thrown, am_in 1148 rfl rfl, am_in 103 (by decide +kernel) rfl, by decide, ⟨by decide, by decide, by decide +kernel⟩, rfl, by decide⟩
theorem oi_M_thrown : am_inst m_M_thrown := ⟨am_in 1146 (by decide +kernel) rfl, am_in 1147 (by decide +kernel) rfl⟩
def tb_M_feed_0 : List (Nat × (Instr × Nat)) := [(0, (.aload_n 0, 1)), (1, (.iload_n 1, 1)), (2, (.iconst 1, 1)), (3, (.if_icmp .lt 9, 3)), (6, (.iload_n 1, 1)), (7, (.bipush 8, 2)), (9, (.if_icmp .le 7, 3)), (12, (.iconst 1, 1)), (13, (.goto 4, 3)), (16, (.iconst 0, 1))]
theorem td_M_feed_0 : ∀ q ∈ tb_M_feed_0, decode prog_8_method_9_code q.1 = .ok q.2 := by decide +kernel
def tb_M_feed_1 : List (Nat × (Instr × Nat)) := [(17, (.putfield 66, 3)), (20, (.aload_n 0, 1)), (21, (.getfield 66, 3)), (24, (.ifCond .le 5, 3)), (27, (.iconst 0, 1)), (28, (.ireturn, 1)), (29, (.aload_n 0, 1)), (30, (.getfield 62, 3)), (33, (.iload_n 1, 1)), (34, (.iadd, 1))]
theorem td_M_feed_1 : ∀ q ∈ tb_M_feed_1, decode prog_8_method_9_code q.1 = .ok q.2 := by decide +kernel
def tb_M_feed_2 : List (Nat × (Instr × Nat)) := [(35, (.sipush 1600, 3)), (38, (.if_icmp .le 5, 3)), (41, (.iconst (-1), 1)), (42, (.ireturn, 1)), (43, (.iconst 0, 1)), (44, (.istore 4, 2)), (46, (.iload 4, 2)), (48, (.iload_n 1, 1)), (49, (.if_icmp .ge 40, 3)), (52, (.aload_n 0, 1))]
theorem td_M_feed_2 : ∀ q ∈ tb_M_feed_2, decode prog_8_method_9_code q.1 = .ok q.2 := by decide +kernel
def tb_M_feed_3 : List (Nat × (Instr × Nat)) := [(53, (.getfield 7, 3)), (56, (.aload_n 0, 1)), (57, (.getfield 62, 3)), (60, (.lload_n 2, 1)), (61, (.bipush 8, 2)), (63, (.iload 4, 2)), (65, (.imul, 1)), (66, (.lshr, 1)), (67, (.ldc2_w 76, 3)), (70, (.land, 1))]
theorem td_M_feed_3 : ∀ q ∈ tb_M_feed_3, decode prog_8_method_9_code q.1 = .ok q.2 := by decide +kernel
def tb_M_feed_4 : List (Nat × (Instr × Nat)) := [(71, (.l2i, 1)), (72, (.iastore, 1)), (73, (.aload_n 0, 1)), (74, (.dup, 1)), (75, (.getfield 62, 3)), (78, (.iconst 1, 1)), (79, (.iadd, 1)), (80, (.putfield 62, 3)), (83, (.iinc 4 1, 3)), (86, (.goto (-40), 3))]
theorem td_M_feed_4 : ∀ q ∈ tb_M_feed_4, decode prog_8_method_9_code q.1 = .ok q.2 := by decide +kernel
def tb_M_feed_5 : List (Nat × (Instr × Nat)) := [(89, (.aload_n 0, 1)), (90, (.getfield 62, 3)), (93, (.ireturn, 1))]
theorem td_M_feed_5 : ∀ q ∈ tb_M_feed_5, decode prog_8_method_9_code q.1 = .ok q.2 := by decide +kernel
def tb_M_feed : Nat → Option (Instr × Nat) := (am_nd 53 (am_nd 17 (am_look tb_M_feed_0) (am_nd 35 (am_look tb_M_feed_1) (am_look tb_M_feed_2))) (am_nd 71 (am_look tb_M_feed_3) (am_nd 89 (am_look tb_M_feed_4) (am_look tb_M_feed_5))))
theorem td_M_feed : am_dok prog_8_method_9_code tb_M_feed := (am_dok_nd (am_dok_nd (am_dok_lf td_M_feed_0) (am_dok_nd (am_dok_lf td_M_feed_1) (am_dok_lf td_M_feed_2))) (am_dok_nd (am_dok_lf td_M_feed_3) (am_dok_nd (am_dok_lf td_M_feed_4) (am_dok_lf td_M_feed_5))))
def m_M_feed : am_M := (⟨"SyntaxRowsModel", "feed", "(IJ)I"⟩, prog_8_method_9_code, 5, (some .int), 6, 2, tb_M_feed)
set_option maxRecDepth 100000 in
theorem ok_M_feed : am_ok m_M_feed := ⟨td_M_feed, am_in 1152 rfl rfl, am_in 103 (by decide +kernel) rfl, by decide, ⟨by decide, by decide, by decide +kernel⟩, rfl, by decide⟩
theorem oi_M_feed : am_inst m_M_feed := ⟨am_in 1150 (by decide +kernel) rfl, am_in 1151 (by decide +kernel) rfl⟩
def tb_M_wipe_0 : List (Nat × (Instr × Nat)) := [(0, (.aload_n 0, 1)), (1, (.iconst 0, 1)), (2, (.putfield 66, 3)), (5, (.aload_n 0, 1)), (6, (.getfield 62, 3)), (9, (.istore_n 1, 1)), (10, (.aload_n 0, 1)), (11, (.iconst 0, 1)), (12, (.putfield 62, 3)), (15, (.iload_n 1, 1))]
theorem td_M_wipe_0 : ∀ q ∈ tb_M_wipe_0, decode prog_8_method_10_code q.1 = .ok q.2 := by decide +kernel
def tb_M_wipe_1 : List (Nat × (Instr × Nat)) := [(16, (.ireturn, 1))]
theorem td_M_wipe_1 : ∀ q ∈ tb_M_wipe_1, decode prog_8_method_10_code q.1 = .ok q.2 := by decide +kernel
def tb_M_wipe : Nat → Option (Instr × Nat) := (am_nd 16 (am_look tb_M_wipe_0) (am_look tb_M_wipe_1))
theorem td_M_wipe : am_dok prog_8_method_10_code tb_M_wipe := (am_dok_nd (am_dok_lf td_M_wipe_0) (am_dok_lf td_M_wipe_1))
def m_M_wipe : am_M := (⟨"SyntaxRowsModel", "wipe", "()I"⟩, prog_8_method_10_code, 2, (some .int), 6, 0, tb_M_wipe)
set_option maxRecDepth 100000 in
theorem ok_M_wipe : am_ok m_M_wipe := ⟨td_M_wipe, am_in 1157 rfl rfl, am_in 103 (by decide +kernel) rfl, by decide, ⟨by decide, by decide, by decide +kernel⟩, rfl, by decide⟩
theorem oi_M_wipe : am_inst m_M_wipe := ⟨am_in 1155 (by decide +kernel) rfl, am_in 1156 (by decide +kernel) rfl⟩
def tb_M_read_0 : List (Nat × (Instr × Nat)) := [(0, (.aload_n 0, 1)), (1, (.iconst 0, 1)), (2, (.putfield 66, 3)), (5, (.aload_n 0, 1)), (6, (.iconst 0, 1)), (7, (.putfield 236, 3)), (10, (.aload_n 0, 1)), (11, (.iconst 0, 1)), (12, (.putfield 257, 3)), (15, (.aload_n 0, 1))]
theorem td_M_read_0 : ∀ q ∈ tb_M_read_0, decode prog_8_method_44_code q.1 = .ok q.2 := by decide +kernel
def tb_M_read_1 : List (Nat × (Instr × Nat)) := [(16, (.iconst 0, 1)), (17, (.putfield 136, 3)), (20, (.aload_n 0, 1)), (21, (.iconst 0, 1)), (22, (.putfield 142, 3)), (25, (.aload_n 0, 1)), (26, (.aload_n 0, 1)), (27, (.iconst 0, 1)), (28, (.invokevirtual 127, 3)), (31, (.putfield 148, 3))]
theorem td_M_read_1 : ∀ q ∈ tb_M_read_1, decode prog_8_method_44_code q.1 = .ok q.2 := by decide +kernel
def tb_M_read_2 : List (Nat × (Instr × Nat)) := [(34, (.aload_n 0, 1)), (35, (.getfield 148, 3)), (38, (.aload_n 0, 1)), (39, (.getfield 62, 3)), (42, (.if_icmp .ge 82, 3)), (45, (.aload_n 0, 1)), (46, (.getfield 236, 3)), (49, (.bipush 20, 2)), (51, (.if_icmp .ge 14, 3)), (54, (.aload_n 0, 1))]
theorem td_M_read_2 : ∀ q ∈ tb_M_read_2, decode prog_8_method_44_code q.1 = .ok q.2 := by decide +kernel
def tb_M_read_3 : List (Nat × (Instr × Nat)) := [(55, (.aload_n 0, 1)), (56, (.getfield 148, 3)), (59, (.invokevirtual 188, 3)), (62, (.goto 4, 3)), (65, (.iconst (-1), 1)), (66, (.istore_n 1, 1)), (67, (.iload_n 1, 1)), (68, (.iconst (-1), 1)), (69, (.if_icmp .eq 20, 3)), (72, (.aload_n 0, 1))]
theorem td_M_read_3 : ∀ q ∈ tb_M_read_3, decode prog_8_method_44_code q.1 = .ok q.2 := by decide +kernel
def tb_M_read_4 : List (Nat × (Instr × Nat)) := [(73, (.iload_n 1, 1)), (74, (.iconst 3, 1)), (75, (.invokevirtual 182, 3)), (78, (.ifCond .eq 11, 3)), (81, (.aload_n 0, 1)), (82, (.iload_n 1, 1)), (83, (.invokevirtual 260, 3)), (86, (.goto 23, 3)), (89, (.aload_n 0, 1)), (90, (.dup, 1))]
theorem td_M_read_4 : ∀ q ∈ tb_M_read_4, decode prog_8_method_44_code q.1 = .ok q.2 := by decide +kernel
def tb_M_read_5 : List (Nat × (Instr × Nat)) := [(91, (.getfield 257, 3)), (94, (.iconst 1, 1)), (95, (.iadd, 1)), (96, (.putfield 257, 3)), (99, (.aload_n 0, 1)), (100, (.dup, 1)), (101, (.getfield 148, 3)), (104, (.iconst 1, 1)), (105, (.iadd, 1)), (106, (.putfield 148, 3))]
theorem td_M_read_5 : ∀ q ∈ tb_M_read_5, decode prog_8_method_44_code q.1 = .ok q.2 := by decide +kernel
def tb_M_read_6 : List (Nat × (Instr × Nat)) := [(109, (.aload_n 0, 1)), (110, (.aload_n 0, 1)), (111, (.aload_n 0, 1)), (112, (.getfield 148, 3)), (115, (.invokevirtual 127, 3)), (118, (.putfield 148, 3)), (121, (.goto (-87), 3)), (124, (.aload_n 0, 1)), (125, (.getfield 236, 3)), (128, (.ireturn, 1))]
theorem td_M_read_6 : ∀ q ∈ tb_M_read_6, decode prog_8_method_44_code q.1 = .ok q.2 := by decide +kernel
def tb_M_read : Nat → Option (Instr × Nat) := (am_nd 55 (am_nd 16 (am_look tb_M_read_0) (am_nd 34 (am_look tb_M_read_1) (am_look tb_M_read_2))) (am_nd 91 (am_nd 73 (am_look tb_M_read_3) (am_look tb_M_read_4)) (am_nd 109 (am_look tb_M_read_5) (am_look tb_M_read_6))))
theorem td_M_read : am_dok prog_8_method_44_code tb_M_read := (am_dok_nd (am_dok_nd (am_dok_lf td_M_read_0) (am_dok_nd (am_dok_lf td_M_read_1) (am_dok_lf td_M_read_2))) (am_dok_nd (am_dok_nd (am_dok_lf td_M_read_3) (am_dok_lf td_M_read_4)) (am_dok_nd (am_dok_lf td_M_read_5) (am_dok_lf td_M_read_6))))
def m_M_read : am_M := (⟨"SyntaxRowsModel", "read", "()I"⟩, prog_8_method_44_code, 2, (some .int), 6, 0, tb_M_read)
set_option maxRecDepth 100000 in
theorem ok_M_read : am_ok m_M_read := ⟨td_M_read, am_in 1161 rfl rfl, am_in 103 (by decide +kernel) rfl, by decide, ⟨by decide, by decide, by decide +kernel⟩, rfl, by decide⟩
theorem oi_M_read : am_inst m_M_read := ⟨am_in 1159 (by decide +kernel) rfl, am_in 1160 (by decide +kernel) rfl⟩
def tb_M_behindWhite_0 : List (Nat × (Instr × Nat)) := [(0, (.iload_n 1, 1)), (1, (.istore_n 2, 1)), (2, (.aload_n 0, 1)), (3, (.iload_n 2, 1)), (4, (.invokevirtual 78, 3)), (7, (.invokestatic 82, 3)), (10, (.ifCond .ne 13, 3)), (13, (.aload_n 0, 1)), (14, (.iload_n 2, 1)), (15, (.invokevirtual 78, 3))]
theorem td_M_behindWhite_0 : ∀ q ∈ tb_M_behindWhite_0, decode prog_8_method_11_code q.1 = .ok q.2 := by decide +kernel
def tb_M_behindWhite_1 : List (Nat × (Instr × Nat)) := [(18, (.bipush 37, 2)), (20, (.if_icmp .ne 55, 3)), (23, (.aload_n 0, 1)), (24, (.iload_n 2, 1)), (25, (.invokevirtual 78, 3)), (28, (.bipush 37, 2)), (30, (.if_icmp .ne 39, 3)), (33, (.iload_n 2, 1)), (34, (.aload_n 0, 1)), (35, (.getfield 62, 3))]
theorem td_M_behindWhite_1 : ∀ q ∈ tb_M_behindWhite_1, decode prog_8_method_11_code q.1 = .ok q.2 := by decide +kernel
def tb_M_behindWhite_2 : List (Nat × (Instr × Nat)) := [(38, (.if_icmp .ge (-36), 3)), (41, (.aload_n 0, 1)), (42, (.getfield 7, 3)), (45, (.iload_n 2, 1)), (46, (.iaload, 1)), (47, (.bipush 10, 2)), (49, (.if_icmp .eq (-47), 3)), (52, (.aload_n 0, 1)), (53, (.getfield 7, 3)), (56, (.iload_n 2, 1))]
theorem td_M_behindWhite_2 : ∀ q ∈ tb_M_behindWhite_2, decode prog_8_method_11_code q.1 = .ok q.2 := by decide +kernel
def tb_M_behindWhite_3 : List (Nat × (Instr × Nat)) := [(57, (.iaload, 1)), (58, (.bipush 13, 2)), (60, (.if_icmp .eq (-58), 3)), (63, (.iinc 2 1, 3)), (66, (.goto (-33), 3)), (69, (.iinc 2 1, 3)), (72, (.goto (-70), 3)), (75, (.iload_n 2, 1)), (76, (.ireturn, 1))]
theorem td_M_behindWhite_3 : ∀ q ∈ tb_M_behindWhite_3, decode prog_8_method_11_code q.1 = .ok q.2 := by decide +kernel
def tb_M_behindWhite : Nat → Option (Instr × Nat) := (am_nd 38 (am_nd 18 (am_look tb_M_behindWhite_0) (am_look tb_M_behindWhite_1)) (am_nd 57 (am_look tb_M_behindWhite_2) (am_look tb_M_behindWhite_3)))
theorem td_M_behindWhite : am_dok prog_8_method_11_code tb_M_behindWhite := (am_dok_nd (am_dok_nd (am_dok_lf td_M_behindWhite_0) (am_dok_lf td_M_behindWhite_1)) (am_dok_nd (am_dok_lf td_M_behindWhite_2) (am_dok_lf td_M_behindWhite_3)))
def m_M_behindWhite : am_M := (⟨"SyntaxRowsModel", "behindWhite", "(I)I"⟩, prog_8_method_11_code, 3, (some .int), 6, 1, tb_M_behindWhite)
set_option maxRecDepth 100000 in
theorem ok_M_behindWhite : am_ok m_M_behindWhite := ⟨td_M_behindWhite, am_in 1165 rfl rfl, am_in 103 (by decide +kernel) rfl, by decide, ⟨by decide, by decide, by decide +kernel⟩, rfl, by decide⟩
theorem oi_M_behindWhite : am_inst m_M_behindWhite := ⟨am_in 1164 (by decide +kernel) rfl, am_in 47 (by decide +kernel) rfl⟩
def tb_M_byteAt_0 : List (Nat × (Instr × Nat)) := [(0, (.iload_n 1, 1)), (1, (.ifCond .lt 20, 3)), (4, (.iload_n 1, 1)), (5, (.aload_n 0, 1)), (6, (.getfield 62, 3)), (9, (.if_icmp .ge 12, 3)), (12, (.aload_n 0, 1)), (13, (.getfield 7, 3)), (16, (.iload_n 1, 1)), (17, (.iaload, 1))]
theorem td_M_byteAt_0 : ∀ q ∈ tb_M_byteAt_0, decode prog_8_method_3_code q.1 = .ok q.2 := by decide +kernel
def tb_M_byteAt_1 : List (Nat × (Instr × Nat)) := [(18, (.goto 4, 3)), (21, (.iconst (-1), 1)), (22, (.ireturn, 1))]
theorem td_M_byteAt_1 : ∀ q ∈ tb_M_byteAt_1, decode prog_8_method_3_code q.1 = .ok q.2 := by decide +kernel
def tb_M_byteAt : Nat → Option (Instr × Nat) := (am_nd 18 (am_look tb_M_byteAt_0) (am_look tb_M_byteAt_1))
theorem td_M_byteAt : am_dok prog_8_method_3_code tb_M_byteAt := (am_dok_nd (am_dok_lf td_M_byteAt_0) (am_dok_lf td_M_byteAt_1))
def m_M_byteAt : am_M := (⟨"SyntaxRowsModel", "byteAt", "(I)I"⟩, prog_8_method_3_code, 2, (some .int), 6, 1, tb_M_byteAt)
set_option maxRecDepth 100000 in
theorem ok_M_byteAt : am_ok m_M_byteAt := ⟨td_M_byteAt, am_in 1169 rfl rfl, am_in 103 (by decide +kernel) rfl, by decide, ⟨by decide, by decide, by decide +kernel⟩, rfl, by decide⟩
theorem oi_M_byteAt : am_inst m_M_byteAt := ⟨am_in 1168 (by decide +kernel) rfl, am_in 48 (by decide +kernel) rfl⟩
def tb_M_isBlank_0 : List (Nat × (Instr × Nat)) := [(0, (.iload_n 0, 1)), (1, (.ifCond .eq 33, 3)), (4, (.iload_n 0, 1)), (5, (.bipush 9, 2)), (7, (.if_icmp .eq 27, 3)), (10, (.iload_n 0, 1)), (11, (.bipush 10, 2)), (13, (.if_icmp .eq 21, 3)), (16, (.iload_n 0, 1)), (17, (.bipush 12, 2))]
theorem td_M_isBlank_0 : ∀ q ∈ tb_M_isBlank_0, decode prog_8_method_4_code q.1 = .ok q.2 := by decide +kernel
def tb_M_isBlank_1 : List (Nat × (Instr × Nat)) := [(19, (.if_icmp .eq 15, 3)), (22, (.iload_n 0, 1)), (23, (.bipush 13, 2)), (25, (.if_icmp .eq 9, 3)), (28, (.iload_n 0, 1)), (29, (.bipush 32, 2)), (31, (.if_icmp .ne 7, 3)), (34, (.iconst 1, 1)), (35, (.goto 4, 3)), (38, (.iconst 0, 1))]
theorem td_M_isBlank_1 : ∀ q ∈ tb_M_isBlank_1, decode prog_8_method_4_code q.1 = .ok q.2 := by decide +kernel
def tb_M_isBlank_2 : List (Nat × (Instr × Nat)) := [(39, (.ireturn, 1))]
theorem td_M_isBlank_2 : ∀ q ∈ tb_M_isBlank_2, decode prog_8_method_4_code q.1 = .ok q.2 := by decide +kernel
def tb_M_isBlank : Nat → Option (Instr × Nat) := (am_nd 19 (am_look tb_M_isBlank_0) (am_nd 39 (am_look tb_M_isBlank_1) (am_look tb_M_isBlank_2)))
theorem td_M_isBlank : am_dok prog_8_method_4_code tb_M_isBlank := (am_dok_nd (am_dok_lf td_M_isBlank_0) (am_dok_nd (am_dok_lf td_M_isBlank_1) (am_dok_lf td_M_isBlank_2)))
def m_M_isBlank : am_M := (⟨"SyntaxRowsModel", "isBlank", "(I)Z"⟩, prog_8_method_4_code, 1, (some .boolean), 6, 1, tb_M_isBlank)
set_option maxRecDepth 100000 in
theorem ok_M_isBlank : am_ok m_M_isBlank := ⟨td_M_isBlank, am_in 1172 rfl rfl, am_in 103 (by decide +kernel) rfl, by decide, ⟨by decide, by decide, by decide +kernel⟩, rfl, by decide⟩
theorem os_M_isBlank : am_stat m_M_isBlank := am_in 1171 (by decide +kernel) rfl
def tb_M_thirdWord_0 : List (Nat × (Instr × Nat)) := [(0, (.aload_n 0, 1)), (1, (.iload_n 1, 1)), (2, (.invokevirtual 124, 3)), (5, (.ifCond .ne 5, 3)), (8, (.iconst (-1), 1)), (9, (.ireturn, 1)), (10, (.aload_n 0, 1)), (11, (.aload_n 0, 1)), (12, (.iload_n 1, 1)), (13, (.invokevirtual 117, 3))]
theorem td_M_thirdWord_0 : ∀ q ∈ tb_M_thirdWord_0, decode prog_8_method_19_code q.1 = .ok q.2 := by decide +kernel
def tb_M_thirdWord_1 : List (Nat × (Instr × Nat)) := [(16, (.invokevirtual 127, 3)), (19, (.istore_n 2, 1)), (20, (.iload_n 2, 1)), (21, (.aload_n 0, 1)), (22, (.iload_n 1, 1)), (23, (.invokevirtual 117, 3)), (26, (.if_icmp .eq 11, 3)), (29, (.aload_n 0, 1)), (30, (.iload_n 2, 1)), (31, (.invokevirtual 124, 3))]
theorem td_M_thirdWord_1 : ∀ q ∈ tb_M_thirdWord_1, decode prog_8_method_19_code q.1 = .ok q.2 := by decide +kernel
def tb_M_thirdWord_2 : List (Nat × (Instr × Nat)) := [(34, (.ifCond .ne 5, 3)), (37, (.iconst (-1), 1)), (38, (.ireturn, 1)), (39, (.aload_n 0, 1)), (40, (.aload_n 0, 1)), (41, (.iload_n 2, 1)), (42, (.invokevirtual 117, 3)), (45, (.invokevirtual 127, 3)), (48, (.istore_n 3, 1)), (49, (.iload_n 3, 1))]
theorem td_M_thirdWord_2 : ∀ q ∈ tb_M_thirdWord_2, decode prog_8_method_19_code q.1 = .ok q.2 := by decide +kernel
def tb_M_thirdWord_3 : List (Nat × (Instr × Nat)) := [(50, (.aload_n 0, 1)), (51, (.iload_n 2, 1)), (52, (.invokevirtual 117, 3)), (55, (.if_icmp .ne 7, 3)), (58, (.iconst (-1), 1)), (59, (.goto 4, 3)), (62, (.iload_n 3, 1)), (63, (.ireturn, 1))]
theorem td_M_thirdWord_3 : ∀ q ∈ tb_M_thirdWord_3, decode prog_8_method_19_code q.1 = .ok q.2 := by decide +kernel
def tb_M_thirdWord : Nat → Option (Instr × Nat) := (am_nd 34 (am_nd 16 (am_look tb_M_thirdWord_0) (am_look tb_M_thirdWord_1)) (am_nd 50 (am_look tb_M_thirdWord_2) (am_look tb_M_thirdWord_3)))
theorem td_M_thirdWord : am_dok prog_8_method_19_code tb_M_thirdWord := (am_dok_nd (am_dok_nd (am_dok_lf td_M_thirdWord_0) (am_dok_lf td_M_thirdWord_1)) (am_dok_nd (am_dok_lf td_M_thirdWord_2) (am_dok_lf td_M_thirdWord_3)))
def m_M_thirdWord : am_M := (⟨"SyntaxRowsModel", "thirdWord", "(I)I"⟩, prog_8_method_19_code, 4, (some .int), 6, 1, tb_M_thirdWord)
set_option maxRecDepth 100000 in
theorem ok_M_thirdWord : am_ok m_M_thirdWord := ⟨td_M_thirdWord, am_in 1176 rfl rfl, am_in 103 (by decide +kernel) rfl, by decide, ⟨by decide, by decide, by decide +kernel⟩, rfl, by decide⟩
theorem oi_M_thirdWord : am_inst m_M_thirdWord := ⟨am_in 1175 (by decide +kernel) rfl, am_in 49 (by decide +kernel) rfl⟩
def tb_M_isFigures_0 : List (Nat × (Instr × Nat)) := [(0, (.aload_n 0, 1)), (1, (.iload_n 1, 1)), (2, (.invokevirtual 117, 3)), (5, (.istore_n 2, 1)), (6, (.iload_n 1, 1)), (7, (.istore_n 3, 1)), (8, (.iload_n 3, 1)), (9, (.iload_n 2, 1)), (10, (.if_icmp .ge 23, 3)), (13, (.aload_n 0, 1))]
theorem td_M_isFigures_0 : ∀ q ∈ tb_M_isFigures_0, decode prog_8_method_17_code q.1 = .ok q.2 := by decide +kernel
def tb_M_isFigures_1 : List (Nat × (Instr × Nat)) := [(14, (.getfield 7, 3)), (17, (.iload_n 3, 1)), (18, (.iaload, 1)), (19, (.invokestatic 73, 3)), (22, (.ifCond .ne 5, 3)), (25, (.iconst 0, 1)), (26, (.ireturn, 1)), (27, (.iinc 3 1, 3)), (30, (.goto (-22), 3)), (33, (.iload_n 2, 1))]
theorem td_M_isFigures_1 : ∀ q ∈ tb_M_isFigures_1, decode prog_8_method_17_code q.1 = .ok q.2 := by decide +kernel
def tb_M_isFigures_2 : List (Nat × (Instr × Nat)) := [(34, (.iload_n 1, 1)), (35, (.if_icmp .le 15, 3)), (38, (.iload_n 2, 1)), (39, (.iload_n 1, 1)), (40, (.isub, 1)), (41, (.bipush 10, 2)), (43, (.if_icmp .ge 7, 3)), (46, (.iconst 1, 1)), (47, (.goto 4, 3)), (50, (.iconst 0, 1))]
theorem td_M_isFigures_2 : ∀ q ∈ tb_M_isFigures_2, decode prog_8_method_17_code q.1 = .ok q.2 := by decide +kernel
def tb_M_isFigures_3 : List (Nat × (Instr × Nat)) := [(51, (.ireturn, 1))]
theorem td_M_isFigures_3 : ∀ q ∈ tb_M_isFigures_3, decode prog_8_method_17_code q.1 = .ok q.2 := by decide +kernel
def tb_M_isFigures : Nat → Option (Instr × Nat) := (am_nd 34 (am_nd 14 (am_look tb_M_isFigures_0) (am_look tb_M_isFigures_1)) (am_nd 51 (am_look tb_M_isFigures_2) (am_look tb_M_isFigures_3)))
theorem td_M_isFigures : am_dok prog_8_method_17_code tb_M_isFigures := (am_dok_nd (am_dok_nd (am_dok_lf td_M_isFigures_0) (am_dok_lf td_M_isFigures_1)) (am_dok_nd (am_dok_lf td_M_isFigures_2) (am_dok_lf td_M_isFigures_3)))
def m_M_isFigures : am_M := (⟨"SyntaxRowsModel", "isFigures", "(I)Z"⟩, prog_8_method_17_code, 4, (some .boolean), 6, 1, tb_M_isFigures)
set_option maxRecDepth 100000 in
theorem ok_M_isFigures : am_ok m_M_isFigures := ⟨td_M_isFigures, am_in 1180 rfl rfl, am_in 103 (by decide +kernel) rfl, by decide, ⟨by decide, by decide, by decide +kernel⟩, rfl, by decide⟩
theorem oi_M_isFigures : am_inst m_M_isFigures := ⟨am_in 1179 (by decide +kernel) rfl, am_in 50 (by decide +kernel) rfl⟩
def tb_M_behindWord_0 : List (Nat × (Instr × Nat)) := [(0, (.iload_n 1, 1)), (1, (.istore_n 2, 1)), (2, (.aload_n 0, 1)), (3, (.iload_n 2, 1)), (4, (.invokevirtual 78, 3)), (7, (.invokestatic 85, 3)), (10, (.ifCond .eq 9, 3)), (13, (.iinc 2 1, 3)), (16, (.goto (-14), 3)), (19, (.iload_n 2, 1))]
theorem td_M_behindWord_0 : ∀ q ∈ tb_M_behindWord_0, decode prog_8_method_12_code q.1 = .ok q.2 := by decide +kernel
def tb_M_behindWord_1 : List (Nat × (Instr × Nat)) := [(20, (.ireturn, 1))]
theorem td_M_behindWord_1 : ∀ q ∈ tb_M_behindWord_1, decode prog_8_method_12_code q.1 = .ok q.2 := by decide +kernel
def tb_M_behindWord : Nat → Option (Instr × Nat) := (am_nd 20 (am_look tb_M_behindWord_0) (am_look tb_M_behindWord_1))
theorem td_M_behindWord : am_dok prog_8_method_12_code tb_M_behindWord := (am_dok_nd (am_dok_lf td_M_behindWord_0) (am_dok_lf td_M_behindWord_1))
def m_M_behindWord : am_M := (⟨"SyntaxRowsModel", "behindWord", "(I)I"⟩, prog_8_method_12_code, 3, (some .int), 6, 1, tb_M_behindWord)
set_option maxRecDepth 100000 in
theorem ok_M_behindWord : am_ok m_M_behindWord := ⟨td_M_behindWord, am_in 1184 rfl rfl, am_in 103 (by decide +kernel) rfl, by decide, ⟨by decide, by decide, by decide +kernel⟩, rfl, by decide⟩
theorem oi_M_behindWord : am_inst m_M_behindWord := ⟨am_in 1183 (by decide +kernel) rfl, am_in 51 (by decide +kernel) rfl⟩
def tb_M_isRegular_0 : List (Nat × (Instr × Nat)) := [(0, (.iload_n 0, 1)), (1, (.bipush 33, 2)), (3, (.if_icmp .lt 20, 3)), (6, (.iload_n 0, 1)), (7, (.bipush 126, 2)), (9, (.if_icmp .gt 14, 3)), (12, (.iload_n 0, 1)), (13, (.invokestatic 69, 3)), (16, (.ifCond .ne 7, 3)), (19, (.iconst 1, 1))]
theorem td_M_isRegular_0 : ∀ q ∈ tb_M_isRegular_0, decode prog_8_method_6_code q.1 = .ok q.2 := by decide +kernel
def tb_M_isRegular_1 : List (Nat × (Instr × Nat)) := [(20, (.goto 4, 3)), (23, (.iconst 0, 1)), (24, (.ireturn, 1))]
theorem td_M_isRegular_1 : ∀ q ∈ tb_M_isRegular_1, decode prog_8_method_6_code q.1 = .ok q.2 := by decide +kernel
def tb_M_isRegular : Nat → Option (Instr × Nat) := (am_nd 20 (am_look tb_M_isRegular_0) (am_look tb_M_isRegular_1))
theorem td_M_isRegular : am_dok prog_8_method_6_code tb_M_isRegular := (am_dok_nd (am_dok_lf td_M_isRegular_0) (am_dok_lf td_M_isRegular_1))
def m_M_isRegular : am_M := (⟨"SyntaxRowsModel", "isRegular", "(I)Z"⟩, prog_8_method_6_code, 1, (some .boolean), 6, 1, tb_M_isRegular)
set_option maxRecDepth 100000 in
theorem ok_M_isRegular : am_ok m_M_isRegular := ⟨td_M_isRegular, am_in 1187 rfl rfl, am_in 103 (by decide +kernel) rfl, by decide, ⟨by decide, by decide, by decide +kernel⟩, rfl, by decide⟩
theorem os_M_isRegular : am_stat m_M_isRegular := am_in 1186 (by decide +kernel) rfl
def tb_M_isSign_0 : List (Nat × (Instr × Nat)) := [(0, (.iload_n 0, 1)), (1, (.bipush 40, 2)), (3, (.if_icmp .eq 57, 3)), (6, (.iload_n 0, 1)), (7, (.bipush 41, 2)), (9, (.if_icmp .eq 51, 3)), (12, (.iload_n 0, 1)), (13, (.bipush 60, 2)), (15, (.if_icmp .eq 45, 3)), (18, (.iload_n 0, 1))]
theorem td_M_isSign_0 : ∀ q ∈ tb_M_isSign_0, decode prog_8_method_5_code q.1 = .ok q.2 := by decide +kernel
def tb_M_isSign_1 : List (Nat × (Instr × Nat)) := [(19, (.bipush 62, 2)), (21, (.if_icmp .eq 39, 3)), (24, (.iload_n 0, 1)), (25, (.bipush 91, 2)), (27, (.if_icmp .eq 33, 3)), (30, (.iload_n 0, 1)), (31, (.bipush 93, 2)), (33, (.if_icmp .eq 27, 3)), (36, (.iload_n 0, 1)), (37, (.bipush 123, 2))]
theorem td_M_isSign_1 : ∀ q ∈ tb_M_isSign_1, decode prog_8_method_5_code q.1 = .ok q.2 := by decide +kernel
def tb_M_isSign_2 : List (Nat × (Instr × Nat)) := [(39, (.if_icmp .eq 21, 3)), (42, (.iload_n 0, 1)), (43, (.bipush 125, 2)), (45, (.if_icmp .eq 15, 3)), (48, (.iload_n 0, 1)), (49, (.bipush 47, 2)), (51, (.if_icmp .eq 9, 3)), (54, (.iload_n 0, 1)), (55, (.bipush 37, 2)), (57, (.if_icmp .ne 7, 3))]
theorem td_M_isSign_2 : ∀ q ∈ tb_M_isSign_2, decode prog_8_method_5_code q.1 = .ok q.2 := by decide +kernel
def tb_M_isSign_3 : List (Nat × (Instr × Nat)) := [(60, (.iconst 1, 1)), (61, (.goto 4, 3)), (64, (.iconst 0, 1)), (65, (.ireturn, 1))]
theorem td_M_isSign_3 : ∀ q ∈ tb_M_isSign_3, decode prog_8_method_5_code q.1 = .ok q.2 := by decide +kernel
def tb_M_isSign : Nat → Option (Instr × Nat) := (am_nd 39 (am_nd 19 (am_look tb_M_isSign_0) (am_look tb_M_isSign_1)) (am_nd 60 (am_look tb_M_isSign_2) (am_look tb_M_isSign_3)))
theorem td_M_isSign : am_dok prog_8_method_5_code tb_M_isSign := (am_dok_nd (am_dok_nd (am_dok_lf td_M_isSign_0) (am_dok_lf td_M_isSign_1)) (am_dok_nd (am_dok_lf td_M_isSign_2) (am_dok_lf td_M_isSign_3)))
def m_M_isSign : am_M := (⟨"SyntaxRowsModel", "isSign", "(I)Z"⟩, prog_8_method_5_code, 1, (some .boolean), 6, 1, tb_M_isSign)
set_option maxRecDepth 100000 in
theorem ok_M_isSign : am_ok m_M_isSign := ⟨td_M_isSign, am_in 1190 rfl rfl, am_in 103 (by decide +kernel) rfl, by decide, ⟨by decide, by decide, by decide +kernel⟩, rfl, by decide⟩
theorem os_M_isSign : am_stat m_M_isSign := am_in 1189 (by decide +kernel) rfl
def tb_M_isFigure_0 : List (Nat × (Instr × Nat)) := [(0, (.iload_n 0, 1)), (1, (.bipush 48, 2)), (3, (.if_icmp .lt 13, 3)), (6, (.iload_n 0, 1)), (7, (.bipush 57, 2)), (9, (.if_icmp .gt 7, 3)), (12, (.iconst 1, 1)), (13, (.goto 4, 3)), (16, (.iconst 0, 1)), (17, (.ireturn, 1))]
theorem td_M_isFigure_0 : ∀ q ∈ tb_M_isFigure_0, decode prog_8_method_7_code q.1 = .ok q.2 := by decide +kernel
def tb_M_isFigure : Nat → Option (Instr × Nat) := (am_look tb_M_isFigure_0)
theorem td_M_isFigure : am_dok prog_8_method_7_code tb_M_isFigure := (am_dok_lf td_M_isFigure_0)
def m_M_isFigure : am_M := (⟨"SyntaxRowsModel", "isFigure", "(I)Z"⟩, prog_8_method_7_code, 1, (some .boolean), 6, 1, tb_M_isFigure)
set_option maxRecDepth 100000 in
theorem ok_M_isFigure : am_ok m_M_isFigure := ⟨td_M_isFigure, am_in 1193 rfl rfl, am_in 103 (by decide +kernel) rfl, by decide, ⟨by decide, by decide, by decide +kernel⟩, rfl, by decide⟩
theorem os_M_isFigure : am_stat m_M_isFigure := am_in 1192 (by decide +kernel) rfl
def tb_M_isWord_0 : List (Nat × (Instr × Nat)) := [(0, (.aload_n 0, 1)), (1, (.iload_n 1, 1)), (2, (.iload_n 2, 1)), (3, (.invokevirtual 110, 3)), (6, (.ifCond .eq 23, 3)), (9, (.aload_n 0, 1)), (10, (.iload_n 1, 1)), (11, (.iload_n 2, 1)), (12, (.invokestatic 114, 3)), (15, (.iadd, 1))]
theorem td_M_isWord_0 : ∀ q ∈ tb_M_isWord_0, decode prog_8_method_16_code q.1 = .ok q.2 := by decide +kernel
def tb_M_isWord_1 : List (Nat × (Instr × Nat)) := [(16, (.invokevirtual 78, 3)), (19, (.invokestatic 85, 3)), (22, (.ifCond .ne 7, 3)), (25, (.iconst 1, 1)), (26, (.goto 4, 3)), (29, (.iconst 0, 1)), (30, (.ireturn, 1))]
theorem td_M_isWord_1 : ∀ q ∈ tb_M_isWord_1, decode prog_8_method_16_code q.1 = .ok q.2 := by decide +kernel
def tb_M_isWord : Nat → Option (Instr × Nat) := (am_nd 16 (am_look tb_M_isWord_0) (am_look tb_M_isWord_1))
theorem td_M_isWord : am_dok prog_8_method_16_code tb_M_isWord := (am_dok_nd (am_dok_lf td_M_isWord_0) (am_dok_lf td_M_isWord_1))
def m_M_isWord : am_M := (⟨"SyntaxRowsModel", "isWord", "(II)Z"⟩, prog_8_method_16_code, 3, (some .boolean), 6, 2, tb_M_isWord)
set_option maxRecDepth 100000 in
theorem ok_M_isWord : am_ok m_M_isWord := ⟨td_M_isWord, am_in 1197 rfl rfl, am_in 103 (by decide +kernel) rfl, by decide, ⟨by decide, by decide, by decide +kernel⟩, rfl, by decide⟩
theorem oi_M_isWord : am_inst m_M_isWord := ⟨am_in 1196 (by decide +kernel) rfl, am_in 52 (by decide +kernel) rfl⟩
def tb_M_spells_0 : List (Nat × (Instr × Nat)) := [(0, (.iconst 0, 1)), (1, (.istore_n 3, 1)), (2, (.iload_n 2, 1)), (3, (.iload_n 3, 1)), (4, (.invokestatic 106, 3)), (7, (.ifCond .le 26, 3)), (10, (.aload_n 0, 1)), (11, (.iload_n 1, 1)), (12, (.iload_n 3, 1)), (13, (.iadd, 1))]
theorem td_M_spells_0 : ∀ q ∈ tb_M_spells_0, decode prog_8_method_15_code q.1 = .ok q.2 := by decide +kernel
def tb_M_spells_1 : List (Nat × (Instr × Nat)) := [(14, (.invokevirtual 78, 3)), (17, (.iload_n 2, 1)), (18, (.iload_n 3, 1)), (19, (.invokestatic 106, 3)), (22, (.if_icmp .eq 5, 3)), (25, (.iconst 0, 1)), (26, (.ireturn, 1)), (27, (.iinc 3 1, 3)), (30, (.goto (-28), 3)), (33, (.iconst 1, 1))]
theorem td_M_spells_1 : ∀ q ∈ tb_M_spells_1, decode prog_8_method_15_code q.1 = .ok q.2 := by decide +kernel
def tb_M_spells_2 : List (Nat × (Instr × Nat)) := [(34, (.ireturn, 1))]
theorem td_M_spells_2 : ∀ q ∈ tb_M_spells_2, decode prog_8_method_15_code q.1 = .ok q.2 := by decide +kernel
def tb_M_spells : Nat → Option (Instr × Nat) := (am_nd 14 (am_look tb_M_spells_0) (am_nd 34 (am_look tb_M_spells_1) (am_look tb_M_spells_2)))
theorem td_M_spells : am_dok prog_8_method_15_code tb_M_spells := (am_dok_nd (am_dok_lf td_M_spells_0) (am_dok_nd (am_dok_lf td_M_spells_1) (am_dok_lf td_M_spells_2)))
def m_M_spells : am_M := (⟨"SyntaxRowsModel", "spells", "(II)Z"⟩, prog_8_method_15_code, 4, (some .boolean), 6, 2, tb_M_spells)
set_option maxRecDepth 100000 in
theorem ok_M_spells : am_ok m_M_spells := ⟨td_M_spells, am_in 1201 rfl rfl, am_in 103 (by decide +kernel) rfl, by decide, ⟨by decide, by decide, by decide +kernel⟩, rfl, by decide⟩
theorem oi_M_spells : am_inst m_M_spells := ⟨am_in 1200 (by decide +kernel) rfl, am_in 53 (by decide +kernel) rfl⟩
def tb_M_letter_0 : List (Nat × (Instr × Nat)) := [(0, (.iload_n 0, 1)), (1, (.iconst 1, 1)), (2, (.if_icmp .ne 14, 3)), (5, (.ldc2_w 88, 3)), (8, (.bipush 8, 2)), (10, (.iload_n 1, 1)), (11, (.imul, 1)), (12, (.lshr, 1)), (13, (.goto 52, 3)), (16, (.iload_n 0, 1))]
theorem td_M_letter_0 : ∀ q ∈ tb_M_letter_0, decode prog_8_method_13_code q.1 = .ok q.2 := by decide +kernel
def tb_M_letter_1 : List (Nat × (Instr × Nat)) := [(17, (.iconst 2, 1)), (18, (.if_icmp .ne 14, 3)), (21, (.ldc2_w 90, 3)), (24, (.bipush 8, 2)), (26, (.iload_n 1, 1)), (27, (.imul, 1)), (28, (.lshr, 1)), (29, (.goto 36, 3)), (32, (.iload_n 0, 1)), (33, (.iconst 3, 1))]
theorem td_M_letter_1 : ∀ q ∈ tb_M_letter_1, decode prog_8_method_13_code q.1 = .ok q.2 := by decide +kernel
def tb_M_letter_2 : List (Nat × (Instr × Nat)) := [(34, (.if_icmp .ne 14, 3)), (37, (.ldc2_w 92, 3)), (40, (.bipush 8, 2)), (42, (.iload_n 1, 1)), (43, (.imul, 1)), (44, (.lshr, 1)), (45, (.goto 20, 3)), (48, (.iload_n 0, 1)), (49, (.iconst 4, 1)), (50, (.if_icmp .ne 14, 3))]
theorem td_M_letter_2 : ∀ q ∈ tb_M_letter_2, decode prog_8_method_13_code q.1 = .ok q.2 := by decide +kernel
def tb_M_letter_3 : List (Nat × (Instr × Nat)) := [(53, (.ldc2_w 94, 3)), (56, (.bipush 8, 2)), (58, (.iload_n 1, 1)), (59, (.imul, 1)), (60, (.lshr, 1)), (61, (.goto 4, 3)), (64, (.lconst 0, 1)), (65, (.lstore_n 2, 1)), (66, (.iload_n 0, 1)), (67, (.ifCond .ne 42, 3))]
theorem td_M_letter_3 : ∀ q ∈ tb_M_letter_3, decode prog_8_method_13_code q.1 = .ok q.2 := by decide +kernel
def tb_M_letter_4 : List (Nat × (Instr × Nat)) := [(70, (.iload_n 1, 1)), (71, (.iconst 3, 1)), (72, (.if_icmp .ge 14, 3)), (75, (.ldc2_w 96, 3)), (78, (.bipush 8, 2)), (80, (.iload_n 1, 1)), (81, (.imul, 1)), (82, (.lshr, 1)), (83, (.goto 27, 3)), (86, (.iload_n 1, 1))]
theorem td_M_letter_4 : ∀ q ∈ tb_M_letter_4, decode prog_8_method_13_code q.1 = .ok q.2 := by decide +kernel
def tb_M_letter_5 : List (Nat × (Instr × Nat)) := [(87, (.bipush 9, 2)), (89, (.if_icmp .ge 16, 3)), (92, (.ldc2_w 90, 3)), (95, (.bipush 8, 2)), (97, (.iload_n 1, 1)), (98, (.iconst 3, 1)), (99, (.isub, 1)), (100, (.imul, 1)), (101, (.lshr, 1)), (102, (.goto 8, 3))]
theorem td_M_letter_5 : ∀ q ∈ tb_M_letter_5, decode prog_8_method_13_code q.1 = .ok q.2 := by decide +kernel
def tb_M_letter_6 : List (Nat × (Instr × Nat)) := [(105, (.lconst 0, 1)), (106, (.goto 4, 3)), (109, (.lload_n 2, 1)), (110, (.lstore_n 2, 1)), (111, (.iload_n 0, 1)), (112, (.iconst 5, 1)), (113, (.if_icmp .ne 14, 3)), (116, (.ldc2_w 98, 3)), (119, (.bipush 8, 2)), (121, (.iload_n 1, 1))]
theorem td_M_letter_6 : ∀ q ∈ tb_M_letter_6, decode prog_8_method_13_code q.1 = .ok q.2 := by decide +kernel
def tb_M_letter_7 : List (Nat × (Instr × Nat)) := [(122, (.imul, 1)), (123, (.lshr, 1)), (124, (.goto 55, 3)), (127, (.iload_n 0, 1)), (128, (.bipush 6, 2)), (130, (.if_icmp .ne 14, 3)), (133, (.ldc2_w 100, 3)), (136, (.bipush 8, 2)), (138, (.iload_n 1, 1)), (139, (.imul, 1))]
theorem td_M_letter_7 : ∀ q ∈ tb_M_letter_7, decode prog_8_method_13_code q.1 = .ok q.2 := by decide +kernel
def tb_M_letter_8 : List (Nat × (Instr × Nat)) := [(140, (.lshr, 1)), (141, (.goto 38, 3)), (144, (.iload_n 0, 1)), (145, (.bipush 7, 2)), (147, (.if_icmp .ne 14, 3)), (150, (.ldc2_w 102, 3)), (153, (.bipush 8, 2)), (155, (.iload_n 1, 1)), (156, (.imul, 1)), (157, (.lshr, 1))]
theorem td_M_letter_8 : ∀ q ∈ tb_M_letter_8, decode prog_8_method_13_code q.1 = .ok q.2 := by decide +kernel
def tb_M_letter_9 : List (Nat × (Instr × Nat)) := [(158, (.goto 21, 3)), (161, (.iload_n 0, 1)), (162, (.bipush 8, 2)), (164, (.if_icmp .ne 14, 3)), (167, (.ldc2_w 104, 3)), (170, (.bipush 8, 2)), (172, (.iload_n 1, 1)), (173, (.imul, 1)), (174, (.lshr, 1)), (175, (.goto 4, 3))]
theorem td_M_letter_9 : ∀ q ∈ tb_M_letter_9, decode prog_8_method_13_code q.1 = .ok q.2 := by decide +kernel
def tb_M_letter_10 : List (Nat × (Instr × Nat)) := [(178, (.lload_n 2, 1)), (179, (.lstore_n 2, 1)), (180, (.iload_n 1, 1)), (181, (.bipush 8, 2)), (183, (.if_icmp .gt 13, 3)), (186, (.iload_n 0, 1)), (187, (.ifCond .le 13, 3)), (190, (.iload_n 1, 1)), (191, (.bipush 7, 2)), (193, (.if_icmp .le 7, 3))]
theorem td_M_letter_10 : ∀ q ∈ tb_M_letter_10, decode prog_8_method_13_code q.1 = .ok q.2 := by decide +kernel
def tb_M_letter_11 : List (Nat × (Instr × Nat)) := [(196, (.iconst 0, 1)), (197, (.goto 9, 3)), (200, (.lload_n 2, 1)), (201, (.ldc2_w 76, 3)), (204, (.land, 1)), (205, (.l2i, 1)), (206, (.ireturn, 1))]
theorem td_M_letter_11 : ∀ q ∈ tb_M_letter_11, decode prog_8_method_13_code q.1 = .ok q.2 := by decide +kernel
def tb_M_letter : Nat → Option (Instr × Nat) := (am_nd 105 (am_nd 53 (am_nd 17 (am_look tb_M_letter_0) (am_nd 34 (am_look tb_M_letter_1) (am_look tb_M_letter_2))) (am_nd 70 (am_look tb_M_letter_3) (am_nd 87 (am_look tb_M_letter_4) (am_look tb_M_letter_5)))) (am_nd 158 (am_nd 122 (am_look tb_M_letter_6) (am_nd 140 (am_look tb_M_letter_7) (am_look tb_M_letter_8))) (am_nd 178 (am_look tb_M_letter_9) (am_nd 196 (am_look tb_M_letter_10) (am_look tb_M_letter_11)))))
theorem td_M_letter : am_dok prog_8_method_13_code tb_M_letter := (am_dok_nd (am_dok_nd (am_dok_nd (am_dok_lf td_M_letter_0) (am_dok_nd (am_dok_lf td_M_letter_1) (am_dok_lf td_M_letter_2))) (am_dok_nd (am_dok_lf td_M_letter_3) (am_dok_nd (am_dok_lf td_M_letter_4) (am_dok_lf td_M_letter_5)))) (am_dok_nd (am_dok_nd (am_dok_lf td_M_letter_6) (am_dok_nd (am_dok_lf td_M_letter_7) (am_dok_lf td_M_letter_8))) (am_dok_nd (am_dok_lf td_M_letter_9) (am_dok_nd (am_dok_lf td_M_letter_10) (am_dok_lf td_M_letter_11)))))
def m_M_letter : am_M := (⟨"SyntaxRowsModel", "letter", "(II)I"⟩, prog_8_method_13_code, 4, (some .int), 6, 2, tb_M_letter)
set_option maxRecDepth 100000 in
theorem ok_M_letter : am_ok m_M_letter := ⟨td_M_letter, am_in 1204 rfl rfl, am_in 103 (by decide +kernel) rfl, by decide, ⟨by decide, by decide, by decide +kernel⟩, rfl, by decide⟩
theorem os_M_letter : am_stat m_M_letter := am_in 1203 (by decide +kernel) rfl
def tb_M_letters_0 : List (Nat × (Instr × Nat)) := [(0, (.iconst 0, 1)), (1, (.istore_n 1, 1)), (2, (.iload_n 0, 1)), (3, (.iload_n 1, 1)), (4, (.invokestatic 106, 3)), (7, (.ifCond .le 9, 3)), (10, (.iinc 1 1, 3)), (13, (.goto (-11), 3)), (16, (.iload_n 1, 1)), (17, (.ireturn, 1))]
theorem td_M_letters_0 : ∀ q ∈ tb_M_letters_0, decode prog_8_method_14_code q.1 = .ok q.2 := by decide +kernel
def tb_M_letters : Nat → Option (Instr × Nat) := (am_look tb_M_letters_0)
theorem td_M_letters : am_dok prog_8_method_14_code tb_M_letters := (am_dok_lf td_M_letters_0)
def m_M_letters : am_M := (⟨"SyntaxRowsModel", "letters", "(I)I"⟩, prog_8_method_14_code, 2, (some .int), 6, 1, tb_M_letters)
set_option maxRecDepth 100000 in
theorem ok_M_letters : am_ok m_M_letters := ⟨td_M_letters, am_in 1216 rfl rfl, am_in 103 (by decide +kernel) rfl, by decide, ⟨by decide, by decide, by decide +kernel⟩, rfl, by decide⟩
theorem os_M_letters : am_stat m_M_letters := am_in 1215 (by decide +kernel) rfl
def tb_M_readObject_0 : List (Nat × (Instr × Nat)) := [(0, (.bipush 8, 2)), (2, (.aload_n 0, 1)), (3, (.getfield 236, 3)), (6, (.imul, 1)), (7, (.istore_n 2, 1)), (8, (.aload_n 0, 1)), (9, (.getfield 136, 3)), (12, (.istore_n 3, 1)), (13, (.aload_n 0, 1)), (14, (.getfield 142, 3))]
theorem td_M_readObject_0 : ∀ q ∈ tb_M_readObject_0, decode prog_8_method_43_code q.1 = .ok q.2 := by decide +kernel
def tb_M_readObject_1 : List (Nat × (Instr × Nat)) := [(17, (.istore 4, 2)), (19, (.aload_n 0, 1)), (20, (.getfield 13, 3)), (23, (.iload_n 2, 1)), (24, (.aload_n 0, 1)), (25, (.aload_n 0, 1)), (26, (.getfield 148, 3)), (29, (.invokevirtual 193, 3)), (32, (.l2i, 1)), (33, (.iastore, 1))]
theorem td_M_readObject_1 : ∀ q ∈ tb_M_readObject_1, decode prog_8_method_43_code q.1 = .ok q.2 := by decide +kernel
def tb_M_readObject_2 : List (Nat × (Instr × Nat)) := [(34, (.aload_n 0, 1)), (35, (.getfield 13, 3)), (38, (.iload_n 2, 1)), (39, (.iconst 1, 1)), (40, (.iadd, 1)), (41, (.aload_n 0, 1)), (42, (.aload_n 0, 1)), (43, (.aload_n 0, 1)), (44, (.aload_n 0, 1)), (45, (.getfield 148, 3))]
theorem td_M_readObject_2 : ∀ q ∈ tb_M_readObject_2, decode prog_8_method_43_code q.1 = .ok q.2 := by decide +kernel
def tb_M_readObject_3 : List (Nat × (Instr × Nat)) := [(48, (.invokevirtual 117, 3)), (51, (.invokevirtual 127, 3)), (54, (.invokevirtual 193, 3)), (57, (.l2i, 1)), (58, (.iastore, 1)), (59, (.aload_n 0, 1)), (60, (.getfield 13, 3)), (63, (.iload_n 2, 1)), (64, (.bipush 6, 2)), (66, (.iadd, 1))]
theorem td_M_readObject_3 : ∀ q ∈ tb_M_readObject_3, decode prog_8_method_43_code q.1 = .ok q.2 := by decide +kernel
def tb_M_readObject_4 : List (Nat × (Instr × Nat)) := [(67, (.aload_n 0, 1)), (68, (.getfield 148, 3)), (71, (.iastore, 1)), (72, (.aload_n 0, 1)), (73, (.iconst 0, 1)), (74, (.putfield 130, 3)), (77, (.aload_n 0, 1)), (78, (.iconst 0, 1)), (79, (.putfield 171, 3)), (82, (.aload_n 0, 1))]
theorem td_M_readObject_4 : ∀ q ∈ tb_M_readObject_4, decode prog_8_method_43_code q.1 = .ok q.2 := by decide +kernel
def tb_M_readObject_5 : List (Nat × (Instr × Nat)) := [(83, (.iload_n 1, 1)), (84, (.iconst 3, 1)), (85, (.iadd, 1)), (86, (.putfield 148, 3)), (89, (.aload_n 0, 1)), (90, (.invokevirtual 251, 3)), (93, (.istore 5, 2)), (95, (.aload_n 0, 1)), (96, (.getfield 130, 3)), (99, (.ifCond .ne 73, 3))]
theorem td_M_readObject_5 : ∀ q ∈ tb_M_readObject_5, decode prog_8_method_43_code q.1 = .ok q.2 := by decide +kernel
def tb_M_readObject_6 : List (Nat × (Instr × Nat)) := [(102, (.aload_n 0, 1)), (103, (.aload_n 0, 1)), (104, (.aload_n 0, 1)), (105, (.getfield 148, 3)), (108, (.invokevirtual 127, 3)), (111, (.putfield 148, 3)), (114, (.aload_n 0, 1)), (115, (.getfield 16, 3)), (118, (.iload 5, 2)), (120, (.iaload, 1))]
theorem td_M_readObject_6 : ∀ q ∈ tb_M_readObject_6, decode prog_8_method_43_code q.1 = .ok q.2 := by decide +kernel
def tb_M_readObject_7 : List (Nat × (Instr × Nat)) := [(121, (.bipush 7, 2)), (123, (.if_icmp .ne 49, 3)), (126, (.aload_n 0, 1)), (127, (.aload_n 0, 1)), (128, (.getfield 148, 3)), (131, (.iconst 2, 1)), (132, (.invokevirtual 182, 3)), (135, (.ifCond .eq 37, 3)), (138, (.aload_n 0, 1)), (139, (.iload 5, 2))]
theorem td_M_readObject_7 : ∀ q ∈ tb_M_readObject_7, decode prog_8_method_43_code q.1 = .ok q.2 := by decide +kernel
def tb_M_readObject_8 : List (Nat × (Instr × Nat)) := [(141, (.invokevirtual 254, 3)), (144, (.istore 5, 2)), (146, (.aload_n 0, 1)), (147, (.aload_n 0, 1)), (148, (.getfield 130, 3)), (151, (.ifCond .ne 14, 3)), (154, (.aload_n 0, 1)), (155, (.aload_n 0, 1)), (156, (.getfield 148, 3)), (159, (.invokevirtual 127, 3))]
theorem td_M_readObject_8 : ∀ q ∈ tb_M_readObject_8, decode prog_8_method_43_code q.1 = .ok q.2 := by decide +kernel
def tb_M_readObject_9 : List (Nat × (Instr × Nat)) := [(162, (.goto 7, 3)), (165, (.aload_n 0, 1)), (166, (.getfield 148, 3)), (169, (.putfield 148, 3)), (172, (.aload_n 0, 1)), (173, (.getfield 130, 3)), (176, (.ifCond .ne 49, 3)), (179, (.aload_n 0, 1)), (180, (.aload_n 0, 1)), (181, (.getfield 148, 3))]
theorem td_M_readObject_9 : ∀ q ∈ tb_M_readObject_9, decode prog_8_method_43_code q.1 = .ok q.2 := by decide +kernel
def tb_M_readObject_10 : List (Nat × (Instr × Nat)) := [(184, (.iconst 1, 1)), (185, (.invokevirtual 182, 3)), (188, (.ifCond .ne 37, 3)), (191, (.aload_n 0, 1)), (192, (.getfield 148, 3)), (195, (.aload_n 0, 1)), (196, (.getfield 62, 3)), (199, (.if_icmp .lt 15, 3)), (202, (.aload_n 0, 1)), (203, (.iconst 1, 1))]
theorem td_M_readObject_10 : ∀ q ∈ tb_M_readObject_10, decode prog_8_method_43_code q.1 = .ok q.2 := by decide +kernel
def tb_M_readObject_11 : List (Nat × (Instr × Nat)) := [(204, (.aload_n 0, 1)), (205, (.getfield 62, 3)), (208, (.invokevirtual 139, 3)), (211, (.goto 12, 3)), (214, (.aload_n 0, 1)), (215, (.iconst 2, 1)), (216, (.aload_n 0, 1)), (217, (.getfield 148, 3)), (220, (.invokevirtual 139, 3)), (223, (.istore 6, 2))]
theorem td_M_readObject_11 : ∀ q ∈ tb_M_readObject_11, decode prog_8_method_43_code q.1 = .ok q.2 := by decide +kernel
def tb_M_readObject_12 : List (Nat × (Instr × Nat)) := [(225, (.aload_n 0, 1)), (226, (.getfield 130, 3)), (229, (.ifCond .ne 17, 3)), (232, (.aload_n 0, 1)), (233, (.aload_n 0, 1)), (234, (.getfield 148, 3)), (237, (.bipush 6, 2)), (239, (.iadd, 1)), (240, (.putfield 148, 3)), (243, (.goto 103, 3))]
theorem td_M_readObject_12 : ∀ q ∈ tb_M_readObject_12, decode prog_8_method_43_code q.1 = .ok q.2 := by decide +kernel
def tb_M_readObject_13 : List (Nat × (Instr × Nat)) := [(246, (.aload_n 0, 1)), (247, (.iload_n 3, 1)), (248, (.putfield 136, 3)), (251, (.aload_n 0, 1)), (252, (.iload 4, 2)), (254, (.putfield 142, 3)), (257, (.aload_n 0, 1)), (258, (.aload_n 0, 1)), (259, (.getfield 133, 3)), (262, (.putfield 148, 3))]
theorem td_M_readObject_13 : ∀ q ∈ tb_M_readObject_13, decode prog_8_method_43_code q.1 = .ok q.2 := by decide +kernel
def tb_M_readObject_14 : List (Nat × (Instr × Nat)) := [(265, (.aload_n 0, 1)), (266, (.getfield 148, 3)), (269, (.aload_n 0, 1)), (270, (.getfield 62, 3)), (273, (.if_icmp .ge 44, 3)), (276, (.aload_n 0, 1)), (277, (.aload_n 0, 1)), (278, (.getfield 148, 3)), (281, (.iconst 1, 1)), (282, (.invokevirtual 182, 3))]
theorem td_M_readObject_14 : ∀ q ∈ tb_M_readObject_14, decode prog_8_method_43_code q.1 = .ok q.2 := by decide +kernel
def tb_M_readObject_15 : List (Nat × (Instr × Nat)) := [(285, (.ifCond .eq 19, 3)), (288, (.aload_n 0, 1)), (289, (.aload_n 0, 1)), (290, (.getfield 148, 3)), (293, (.iconst 1, 1)), (294, (.isub, 1)), (295, (.invokevirtual 78, 3)), (298, (.invokestatic 85, 3)), (301, (.ifCond .eq 16, 3)), (304, (.aload_n 0, 1))]
theorem td_M_readObject_15 : ∀ q ∈ tb_M_readObject_15, decode prog_8_method_43_code q.1 = .ok q.2 := by decide +kernel
def tb_M_readObject_16 : List (Nat × (Instr × Nat)) := [(305, (.dup, 1)), (306, (.getfield 148, 3)), (309, (.iconst 1, 1)), (310, (.iadd, 1)), (311, (.putfield 148, 3)), (314, (.goto (-49), 3)), (317, (.aload_n 0, 1)), (318, (.aload_n 0, 1)), (319, (.getfield 148, 3)), (322, (.aload_n 0, 1))]
theorem td_M_readObject_16 : ∀ q ∈ tb_M_readObject_16, decode prog_8_method_43_code q.1 = .ok q.2 := by decide +kernel
def tb_M_readObject_17 : List (Nat × (Instr × Nat)) := [(323, (.getfield 62, 3)), (326, (.if_icmp .ge 13, 3)), (329, (.aload_n 0, 1)), (330, (.getfield 148, 3)), (333, (.bipush 6, 2)), (335, (.iadd, 1)), (336, (.goto 7, 3)), (339, (.aload_n 0, 1)), (340, (.getfield 62, 3)), (343, (.putfield 148, 3))]
theorem td_M_readObject_17 : ∀ q ∈ tb_M_readObject_17, decode prog_8_method_43_code q.1 = .ok q.2 := by decide +kernel
def tb_M_readObject_18 : List (Nat × (Instr × Nat)) := [(346, (.aload_n 0, 1)), (347, (.getfield 13, 3)), (350, (.iload_n 2, 1)), (351, (.iconst 2, 1)), (352, (.iadd, 1)), (353, (.aload_n 0, 1)), (354, (.getfield 130, 3)), (357, (.ifCond .ne 8, 3)), (360, (.iload 5, 2)), (362, (.goto 4, 3))]
theorem td_M_readObject_18 : ∀ q ∈ tb_M_readObject_18, decode prog_8_method_43_code q.1 = .ok q.2 := by decide +kernel
def tb_M_readObject_19 : List (Nat × (Instr × Nat)) := [(365, (.iconst (-1), 1)), (366, (.iastore, 1)), (367, (.aload_n 0, 1)), (368, (.getfield 13, 3)), (371, (.iload_n 2, 1)), (372, (.iconst 3, 1)), (373, (.iadd, 1)), (374, (.aload_n 0, 1)), (375, (.getfield 130, 3)), (378, (.iastore, 1))]
theorem td_M_readObject_19 : ∀ q ∈ tb_M_readObject_19, decode prog_8_method_43_code q.1 = .ok q.2 := by decide +kernel
def tb_M_readObject_20 : List (Nat × (Instr × Nat)) := [(379, (.aload_n 0, 1)), (380, (.getfield 13, 3)), (383, (.iload_n 2, 1)), (384, (.iconst 4, 1)), (385, (.iadd, 1)), (386, (.aload_n 0, 1)), (387, (.getfield 130, 3)), (390, (.ifCond .ne 7, 3)), (393, (.iconst (-1), 1)), (394, (.goto 7, 3))]
theorem td_M_readObject_20 : ∀ q ∈ tb_M_readObject_20, decode prog_8_method_43_code q.1 = .ok q.2 := by decide +kernel
def tb_M_readObject_21 : List (Nat × (Instr × Nat)) := [(397, (.aload_n 0, 1)), (398, (.getfield 133, 3)), (401, (.iastore, 1)), (402, (.aload_n 0, 1)), (403, (.getfield 13, 3)), (406, (.iload_n 2, 1)), (407, (.iconst 5, 1)), (408, (.iadd, 1)), (409, (.aload_n 0, 1)), (410, (.getfield 171, 3))]
theorem td_M_readObject_21 : ∀ q ∈ tb_M_readObject_21, decode prog_8_method_43_code q.1 = .ok q.2 := by decide +kernel
def tb_M_readObject_22 : List (Nat × (Instr × Nat)) := [(413, (.iastore, 1)), (414, (.aload_n 0, 1)), (415, (.getfield 13, 3)), (418, (.iload_n 2, 1)), (419, (.bipush 7, 2)), (421, (.iadd, 1)), (422, (.aload_n 0, 1)), (423, (.getfield 148, 3)), (426, (.iastore, 1)), (427, (.aload_n 0, 1))]
theorem td_M_readObject_22 : ∀ q ∈ tb_M_readObject_22, decode prog_8_method_43_code q.1 = .ok q.2 := by decide +kernel
def tb_M_readObject_23 : List (Nat × (Instr × Nat)) := [(428, (.dup, 1)), (429, (.getfield 236, 3)), (432, (.iconst 1, 1)), (433, (.iadd, 1)), (434, (.putfield 236, 3)), (437, (.return_, 1))]
theorem td_M_readObject_23 : ∀ q ∈ tb_M_readObject_23, decode prog_8_method_43_code q.1 = .ok q.2 := by decide +kernel
def tb_M_readObject : Nat → Option (Instr × Nat) := (am_nd 225 (am_nd 102 (am_nd 48 (am_nd 17 (am_look tb_M_readObject_0) (am_nd 34 (am_look tb_M_readObject_1) (am_look tb_M_readObject_2))) (am_nd 67 (am_look tb_M_readObject_3) (am_nd 83 (am_look tb_M_readObject_4) (am_look tb_M_readObject_5)))) (am_nd 162 (am_nd 121 (am_look tb_M_readObject_6) (am_nd 141 (am_look tb_M_readObject_7) (am_look tb_M_readObject_8))) (am_nd 184 (am_look tb_M_readObject_9) (am_nd 204 (am_look tb_M_readObject_10) (am_look tb_M_readObject_11))))) (am_nd 346 (am_nd 285 (am_nd 246 (am_look tb_M_readObject_12) (am_nd 265 (am_look tb_M_readObject_13) (am_look tb_M_readObject_14))) (am_nd 305 (am_look tb_M_readObject_15) (am_nd 323 (am_look tb_M_readObject_16) (am_look tb_M_readObject_17)))) (am_nd 397 (am_nd 365 (am_look tb_M_readObject_18) (am_nd 379 (am_look tb_M_readObject_19) (am_look tb_M_readObject_20))) (am_nd 413 (am_look tb_M_readObject_21) (am_nd 428 (am_look tb_M_readObject_22) (am_look tb_M_readObject_23))))))
theorem td_M_readObject : am_dok prog_8_method_43_code tb_M_readObject := (am_dok_nd (am_dok_nd (am_dok_nd (am_dok_nd (am_dok_lf td_M_readObject_0) (am_dok_nd (am_dok_lf td_M_readObject_1) (am_dok_lf td_M_readObject_2))) (am_dok_nd (am_dok_lf td_M_readObject_3) (am_dok_nd (am_dok_lf td_M_readObject_4) (am_dok_lf td_M_readObject_5)))) (am_dok_nd (am_dok_nd (am_dok_lf td_M_readObject_6) (am_dok_nd (am_dok_lf td_M_readObject_7) (am_dok_lf td_M_readObject_8))) (am_dok_nd (am_dok_lf td_M_readObject_9) (am_dok_nd (am_dok_lf td_M_readObject_10) (am_dok_lf td_M_readObject_11))))) (am_dok_nd (am_dok_nd (am_dok_nd (am_dok_lf td_M_readObject_12) (am_dok_nd (am_dok_lf td_M_readObject_13) (am_dok_lf td_M_readObject_14))) (am_dok_nd (am_dok_lf td_M_readObject_15) (am_dok_nd (am_dok_lf td_M_readObject_16) (am_dok_lf td_M_readObject_17)))) (am_dok_nd (am_dok_nd (am_dok_lf td_M_readObject_18) (am_dok_nd (am_dok_lf td_M_readObject_19) (am_dok_lf td_M_readObject_20))) (am_dok_nd (am_dok_lf td_M_readObject_21) (am_dok_nd (am_dok_lf td_M_readObject_22) (am_dok_lf td_M_readObject_23))))))
def m_M_readObject : am_M := (⟨"SyntaxRowsModel", "readObject", "(I)V"⟩, prog_8_method_43_code, 7, none, 6, 1, tb_M_readObject)
set_option maxRecDepth 100000 in
theorem ok_M_readObject : am_ok m_M_readObject := ⟨td_M_readObject, am_in 1220 rfl rfl, am_in 103 (by decide +kernel) rfl, by decide, ⟨by decide, by decide, by decide +kernel⟩, rfl, by decide⟩
theorem oi_M_readObject : am_inst m_M_readObject := ⟨am_in 1219 (by decide +kernel) rfl, am_in 54 (by decide +kernel) rfl⟩
def tb_M_figuresAt_0 : List (Nat × (Instr × Nat)) := [(0, (.lconst 0, 1)), (1, (.lstore_n 2, 1)), (2, (.iload_n 1, 1)), (3, (.istore 4, 2)), (5, (.aload_n 0, 1)), (6, (.iload 4, 2)), (8, (.invokevirtual 78, 3)), (11, (.invokestatic 73, 3)), (14, (.ifCond .eq 28, 3)), (17, (.ldc2_w 120, 3))]
theorem td_M_figuresAt_0 : ∀ q ∈ tb_M_figuresAt_0, decode prog_8_method_18_code q.1 = .ok q.2 := by decide +kernel
def tb_M_figuresAt_1 : List (Nat × (Instr × Nat)) := [(20, (.lload_n 2, 1)), (21, (.lmul, 1)), (22, (.aload_n 0, 1)), (23, (.getfield 7, 3)), (26, (.iload 4, 2)), (28, (.iaload, 1)), (29, (.i2l, 1)), (30, (.ladd, 1)), (31, (.ldc2_w 122, 3)), (34, (.lsub, 1))]
theorem td_M_figuresAt_1 : ∀ q ∈ tb_M_figuresAt_1, decode prog_8_method_18_code q.1 = .ok q.2 := by decide +kernel
def tb_M_figuresAt_2 : List (Nat × (Instr × Nat)) := [(35, (.lstore_n 2, 1)), (36, (.iinc 4 1, 3)), (39, (.goto (-34), 3)), (42, (.lload_n 2, 1)), (43, (.lreturn, 1))]
theorem td_M_figuresAt_2 : ∀ q ∈ tb_M_figuresAt_2, decode prog_8_method_18_code q.1 = .ok q.2 := by decide +kernel
def tb_M_figuresAt : Nat → Option (Instr × Nat) := (am_nd 20 (am_look tb_M_figuresAt_0) (am_nd 35 (am_look tb_M_figuresAt_1) (am_look tb_M_figuresAt_2)))
theorem td_M_figuresAt : am_dok prog_8_method_18_code tb_M_figuresAt := (am_dok_nd (am_dok_lf td_M_figuresAt_0) (am_dok_nd (am_dok_lf td_M_figuresAt_1) (am_dok_lf td_M_figuresAt_2)))
def m_M_figuresAt : am_M := (⟨"SyntaxRowsModel", "figuresAt", "(I)J"⟩, prog_8_method_18_code, 5, (some .long), 6, 1, tb_M_figuresAt)
set_option maxRecDepth 100000 in
theorem ok_M_figuresAt : am_ok m_M_figuresAt := ⟨td_M_figuresAt, am_in 1224 rfl rfl, am_in 103 (by decide +kernel) rfl, by decide, ⟨by decide, by decide, by decide +kernel⟩, rfl, by decide⟩
theorem oi_M_figuresAt : am_inst m_M_figuresAt := ⟨am_in 1223 (by decide +kernel) rfl, am_in 55 (by decide +kernel) rfl⟩
def tb_M_readValue_0 : List (Nat × (Instr × Nat)) := [(0, (.aload_n 0, 1)), (1, (.iconst 0, 1)), (2, (.putfield 204, 3)), (5, (.iconst (-1), 1)), (6, (.istore_n 1, 1)), (7, (.iconst 0, 1)), (8, (.istore_n 2, 1)), (9, (.iload_n 2, 1)), (10, (.ifCond .ne 37, 3)), (13, (.aload_n 0, 1))]
theorem td_M_readValue_0 : ∀ q ∈ tb_M_readValue_0, decode prog_8_method_37_code q.1 = .ok q.2 := by decide +kernel
def tb_M_readValue_1 : List (Nat × (Instr × Nat)) := [(14, (.getfield 130, 3)), (17, (.ifCond .ne 30, 3)), (20, (.aload_n 0, 1)), (21, (.invokevirtual 227, 3)), (24, (.istore_n 1, 1)), (25, (.iload_n 1, 1)), (26, (.iconst (-1), 1)), (27, (.if_icmp .eq 15, 3)), (30, (.aload_n 0, 1)), (31, (.iload_n 1, 1))]
theorem td_M_readValue_1 : ∀ q ∈ tb_M_readValue_1, decode prog_8_method_37_code q.1 = .ok q.2 := by decide +kernel
def tb_M_readValue_2 : List (Nat × (Instr × Nat)) := [(32, (.invokevirtual 230, 3)), (35, (.ifCond .eq 7, 3)), (38, (.iconst 1, 1)), (39, (.goto 4, 3)), (42, (.iconst 0, 1)), (43, (.istore_n 2, 1)), (44, (.goto (-35), 3)), (47, (.aload_n 0, 1)), (48, (.getfield 130, 3)), (51, (.ifCond .ne 7, 3))]
theorem td_M_readValue_2 : ∀ q ∈ tb_M_readValue_2, decode prog_8_method_37_code q.1 = .ok q.2 := by decide +kernel
def tb_M_readValue_3 : List (Nat × (Instr × Nat)) := [(54, (.iload_n 1, 1)), (55, (.goto 4, 3)), (58, (.iconst (-1), 1)), (59, (.ireturn, 1))]
theorem td_M_readValue_3 : ∀ q ∈ tb_M_readValue_3, decode prog_8_method_37_code q.1 = .ok q.2 := by decide +kernel
def tb_M_readValue : Nat → Option (Instr × Nat) := (am_nd 32 (am_nd 14 (am_look tb_M_readValue_0) (am_look tb_M_readValue_1)) (am_nd 54 (am_look tb_M_readValue_2) (am_look tb_M_readValue_3)))
theorem td_M_readValue : am_dok prog_8_method_37_code tb_M_readValue := (am_dok_nd (am_dok_nd (am_dok_lf td_M_readValue_0) (am_dok_lf td_M_readValue_1)) (am_dok_nd (am_dok_lf td_M_readValue_2) (am_dok_lf td_M_readValue_3)))
def m_M_readValue : am_M := (⟨"SyntaxRowsModel", "readValue", "()I"⟩, prog_8_method_37_code, 3, (some .int), 6, 0, tb_M_readValue)
set_option maxRecDepth 100000 in
theorem ok_M_readValue : am_ok m_M_readValue := ⟨td_M_readValue, am_in 1230 rfl rfl, am_in 103 (by decide +kernel) rfl, by decide, ⟨by decide, by decide, by decide +kernel⟩, rfl, by decide⟩
theorem oi_M_readValue : am_inst m_M_readValue := ⟨am_in 1229 (by decide +kernel) rfl, am_in 56 (by decide +kernel) rfl⟩
def tb_M_step_0 : List (Nat × (Instr × Nat)) := [(0, (.aload_n 0, 1)), (1, (.aload_n 0, 1)), (2, (.aload_n 0, 1)), (3, (.getfield 148, 3)), (6, (.invokevirtual 127, 3)), (9, (.putfield 148, 3)), (12, (.aload_n 0, 1)), (13, (.aload_n 0, 1)), (14, (.getfield 148, 3)), (17, (.invokevirtual 78, 3))]
theorem td_M_step_0 : ∀ q ∈ tb_M_step_0, decode prog_8_method_36_code q.1 = .ok q.2 := by decide +kernel
def tb_M_step_1 : List (Nat × (Instr × Nat)) := [(20, (.istore_n 1, 1)), (21, (.aload_n 0, 1)), (22, (.getfield 204, 3)), (25, (.ifCond .le 225, 3)), (28, (.aload_n 0, 1)), (29, (.getfield 47, 3)), (32, (.aload_n 0, 1)), (33, (.getfield 204, 3)), (36, (.iconst 1, 1)), (37, (.isub, 1))]
theorem td_M_step_1 : ∀ q ∈ tb_M_step_1, decode prog_8_method_36_code q.1 = .ok q.2 := by decide +kernel
def tb_M_step_2 : List (Nat × (Instr × Nat)) := [(38, (.iaload, 1)), (39, (.istore_n 2, 1)), (40, (.aload_n 0, 1)), (41, (.getfield 16, 3)), (44, (.iload_n 2, 1)), (45, (.iaload, 1)), (46, (.bipush 6, 2)), (48, (.if_icmp .ne 17, 3)), (51, (.iload_n 1, 1)), (52, (.bipush 93, 2))]
theorem td_M_step_2 : ∀ q ∈ tb_M_step_2, decode prog_8_method_36_code q.1 = .ok q.2 := by decide +kernel
def tb_M_step_3 : List (Nat × (Instr × Nat)) := [(54, (.if_icmp .ne 7, 3)), (57, (.iconst 1, 1)), (58, (.goto 48, 3)), (61, (.iconst 0, 1)), (62, (.goto 44, 3)), (65, (.aload_n 0, 1)), (66, (.getfield 50, 3)), (69, (.aload_n 0, 1)), (70, (.getfield 204, 3)), (73, (.iconst 1, 1))]
theorem td_M_step_3 : ∀ q ∈ tb_M_step_3, decode prog_8_method_36_code q.1 = .ok q.2 := by decide +kernel
def tb_M_step_4 : List (Nat × (Instr × Nat)) := [(74, (.isub, 1)), (75, (.iaload, 1)), (76, (.iconst (-1), 1)), (77, (.if_icmp .ne 28, 3)), (80, (.iload_n 1, 1)), (81, (.bipush 62, 2)), (83, (.if_icmp .ne 22, 3)), (86, (.aload_n 0, 1)), (87, (.aload_n 0, 1)), (88, (.getfield 148, 3))]
theorem td_M_step_4 : ∀ q ∈ tb_M_step_4, decode prog_8_method_36_code q.1 = .ok q.2 := by decide +kernel
def tb_M_step_5 : List (Nat × (Instr × Nat)) := [(91, (.iconst 1, 1)), (92, (.iadd, 1)), (93, (.invokevirtual 78, 3)), (96, (.bipush 62, 2)), (98, (.if_icmp .ne 7, 3)), (101, (.iconst 1, 1)), (102, (.goto 4, 3)), (105, (.iconst 0, 1)), (106, (.istore_n 3, 1)), (107, (.iload_n 3, 1))]
theorem td_M_step_5 : ∀ q ∈ tb_M_step_5, decode prog_8_method_36_code q.1 = .ok q.2 := by decide +kernel
def tb_M_step_6 : List (Nat × (Instr × Nat)) := [(108, (.ifCond .eq 40, 3)), (111, (.aload_n 0, 1)), (112, (.aload_n 0, 1)), (113, (.getfield 148, 3)), (116, (.aload_n 0, 1)), (117, (.getfield 16, 3)), (120, (.iload_n 2, 1)), (121, (.iaload, 1)), (122, (.bipush 6, 2)), (124, (.if_icmp .ne 7, 3))]
theorem td_M_step_6 : ∀ q ∈ tb_M_step_6, decode prog_8_method_36_code q.1 = .ok q.2 := by decide +kernel
def tb_M_step_7 : List (Nat × (Instr × Nat)) := [(127, (.iconst 1, 1)), (128, (.goto 4, 3)), (131, (.iconst 2, 1)), (132, (.iadd, 1)), (133, (.putfield 148, 3)), (136, (.aload_n 0, 1)), (137, (.dup, 1)), (138, (.getfield 204, 3)), (141, (.iconst 1, 1)), (142, (.isub, 1))]
theorem td_M_step_7 : ∀ q ∈ tb_M_step_7, decode prog_8_method_36_code q.1 = .ok q.2 := by decide +kernel
def tb_M_step_8 : List (Nat × (Instr × Nat)) := [(143, (.putfield 204, 3)), (146, (.iload_n 2, 1)), (147, (.ireturn, 1)), (148, (.aload_n 0, 1)), (149, (.getfield 16, 3)), (152, (.iload_n 2, 1)), (153, (.iaload, 1)), (154, (.bipush 7, 2)), (156, (.if_icmp .ne 94, 3)), (159, (.aload_n 0, 1))]
theorem td_M_step_8 : ∀ q ∈ tb_M_step_8, decode prog_8_method_36_code q.1 = .ok q.2 := by decide +kernel
def tb_M_step_9 : List (Nat × (Instr × Nat)) := [(160, (.getfield 50, 3)), (163, (.aload_n 0, 1)), (164, (.getfield 204, 3)), (167, (.iconst 1, 1)), (168, (.isub, 1)), (169, (.iaload, 1)), (170, (.iconst (-1), 1)), (171, (.if_icmp .ne 79, 3)), (174, (.aload_n 0, 1)), (175, (.getfield 148, 3))]
theorem td_M_step_9 : ∀ q ∈ tb_M_step_9, decode prog_8_method_36_code q.1 = .ok q.2 := by decide +kernel
def tb_M_step_10 : List (Nat × (Instr × Nat)) := [(178, (.aload_n 0, 1)), (179, (.getfield 62, 3)), (182, (.if_icmp .lt 15, 3)), (185, (.aload_n 0, 1)), (186, (.iconst 1, 1)), (187, (.aload_n 0, 1)), (188, (.getfield 62, 3)), (191, (.invokevirtual 139, 3)), (194, (.goto 26, 3)), (197, (.iload_n 1, 1))]
theorem td_M_step_10 : ∀ q ∈ tb_M_step_10, decode prog_8_method_36_code q.1 = .ok q.2 := by decide +kernel
def tb_M_step_11 : List (Nat × (Instr × Nat)) := [(198, (.bipush 47, 2)), (200, (.if_icmp .ne 10, 3)), (203, (.aload_n 0, 1)), (204, (.invokevirtual 211, 3)), (207, (.goto 13, 3)), (210, (.aload_n 0, 1)), (211, (.bipush 7, 2)), (213, (.aload_n 0, 1)), (214, (.getfield 148, 3)), (217, (.invokevirtual 139, 3))]
theorem td_M_step_11 : ∀ q ∈ tb_M_step_11, decode prog_8_method_36_code q.1 = .ok q.2 := by decide +kernel
def tb_M_step_12 : List (Nat × (Instr × Nat)) := [(220, (.istore 4, 2)), (222, (.aload_n 0, 1)), (223, (.getfield 50, 3)), (226, (.aload_n 0, 1)), (227, (.getfield 204, 3)), (230, (.iconst 1, 1)), (231, (.isub, 1)), (232, (.iload 4, 2)), (234, (.ifCond .eq 12, 3)), (237, (.aload_n 0, 1))]
theorem td_M_step_12 : ∀ q ∈ tb_M_step_12, decode prog_8_method_36_code q.1 = .ok q.2 := by decide +kernel
def tb_M_step_13 : List (Nat × (Instr × Nat)) := [(238, (.getfield 136, 3)), (241, (.iconst 1, 1)), (242, (.isub, 1)), (243, (.goto 4, 3)), (246, (.iconst (-1), 1)), (247, (.iastore, 1)), (248, (.iconst (-1), 1)), (249, (.ireturn, 1)), (250, (.iconst 1, 1)), (251, (.istore_n 2, 1))]
theorem td_M_step_13 : ∀ q ∈ tb_M_step_13, decode prog_8_method_36_code q.1 = .ok q.2 := by decide +kernel
def tb_M_step_14 : List (Nat × (Instr × Nat)) := [(252, (.aload_n 0, 1)), (253, (.getfield 148, 3)), (256, (.aload_n 0, 1)), (257, (.getfield 62, 3)), (260, (.if_icmp .lt 16, 3)), (263, (.aload_n 0, 1)), (264, (.iconst 1, 1)), (265, (.aload_n 0, 1)), (266, (.getfield 62, 3)), (269, (.invokevirtual 139, 3))]
theorem td_M_step_14 : ∀ q ∈ tb_M_step_14, decode prog_8_method_36_code q.1 = .ok q.2 := by decide +kernel
def tb_M_step_15 : List (Nat × (Instr × Nat)) := [(272, (.istore_n 2, 1)), (273, (.goto 117, 3)), (276, (.iload_n 1, 1)), (277, (.bipush 91, 2)), (279, (.if_icmp .ne 13, 3)), (282, (.aload_n 0, 1)), (283, (.bipush 6, 2)), (285, (.iconst 1, 1)), (286, (.invokevirtual 215, 3)), (289, (.istore_n 2, 1))]
theorem td_M_step_15 : ∀ q ∈ tb_M_step_15, decode prog_8_method_36_code q.1 = .ok q.2 := by decide +kernel
def tb_M_step_16 : List (Nat × (Instr × Nat)) := [(290, (.iconst (-1), 1)), (291, (.ireturn, 1)), (292, (.iload_n 1, 1)), (293, (.bipush 60, 2)), (295, (.if_icmp .ne 28, 3)), (298, (.aload_n 0, 1)), (299, (.aload_n 0, 1)), (300, (.getfield 148, 3)), (303, (.iconst 1, 1)), (304, (.iadd, 1))]
theorem td_M_step_16 : ∀ q ∈ tb_M_step_16, decode prog_8_method_36_code q.1 = .ok q.2 := by decide +kernel
def tb_M_step_17 : List (Nat × (Instr × Nat)) := [(305, (.invokevirtual 78, 3)), (308, (.bipush 60, 2)), (310, (.if_icmp .ne 13, 3)), (313, (.aload_n 0, 1)), (314, (.bipush 7, 2)), (316, (.iconst 2, 1)), (317, (.invokevirtual 215, 3)), (320, (.istore_n 2, 1)), (321, (.iconst (-1), 1)), (322, (.ireturn, 1))]
theorem td_M_step_17 : ∀ q ∈ tb_M_step_17, decode prog_8_method_36_code q.1 = .ok q.2 := by decide +kernel
def tb_M_step_18 : List (Nat × (Instr × Nat)) := [(323, (.iload_n 1, 1)), (324, (.bipush 60, 2)), (326, (.if_icmp .ne 11, 3)), (329, (.aload_n 0, 1)), (330, (.invokevirtual 218, 3)), (333, (.istore_n 2, 1)), (334, (.goto 56, 3)), (337, (.iload_n 1, 1)), (338, (.bipush 40, 2)), (340, (.if_icmp .ne 11, 3))]
theorem td_M_step_18 : ∀ q ∈ tb_M_step_18, decode prog_8_method_36_code q.1 = .ok q.2 := by decide +kernel
def tb_M_step_19 : List (Nat × (Instr × Nat)) := [(343, (.aload_n 0, 1)), (344, (.invokevirtual 221, 3)), (347, (.istore_n 2, 1)), (348, (.goto 42, 3)), (351, (.iload_n 1, 1)), (352, (.bipush 47, 2)), (354, (.if_icmp .ne 11, 3)), (357, (.aload_n 0, 1)), (358, (.invokevirtual 211, 3)), (361, (.istore_n 2, 1))]
theorem td_M_step_19 : ∀ q ∈ tb_M_step_19, decode prog_8_method_36_code q.1 = .ok q.2 := by decide +kernel
def tb_M_step_20 : List (Nat × (Instr × Nat)) := [(362, (.goto 28, 3)), (365, (.iload_n 1, 1)), (366, (.invokestatic 85, 3)), (369, (.ifCond .eq 11, 3)), (372, (.aload_n 0, 1)), (373, (.invokevirtual 224, 3)), (376, (.istore_n 2, 1)), (377, (.goto 13, 3)), (380, (.aload_n 0, 1)), (381, (.iconst 2, 1))]
theorem td_M_step_20 : ∀ q ∈ tb_M_step_20, decode prog_8_method_36_code q.1 = .ok q.2 := by decide +kernel
def tb_M_step_21 : List (Nat × (Instr × Nat)) := [(382, (.aload_n 0, 1)), (383, (.getfield 148, 3)), (386, (.invokevirtual 139, 3)), (389, (.istore_n 2, 1)), (390, (.iload_n 2, 1)), (391, (.ifCond .eq 12, 3)), (394, (.aload_n 0, 1)), (395, (.getfield 136, 3)), (398, (.iconst 1, 1)), (399, (.isub, 1))]
theorem td_M_step_21 : ∀ q ∈ tb_M_step_21, decode prog_8_method_36_code q.1 = .ok q.2 := by decide +kernel
def tb_M_step_22 : List (Nat × (Instr × Nat)) := [(400, (.goto 4, 3)), (403, (.iconst (-1), 1)), (404, (.ireturn, 1))]
theorem td_M_step_22 : ∀ q ∈ tb_M_step_22, decode prog_8_method_36_code q.1 = .ok q.2 := by decide +kernel
def tb_M_step : Nat → Option (Instr × Nat) := (am_nd 198 (am_nd 91 (am_nd 38 (am_nd 20 (am_look tb_M_step_0) (am_look tb_M_step_1)) (am_nd 54 (am_look tb_M_step_2) (am_nd 74 (am_look tb_M_step_3) (am_look tb_M_step_4)))) (am_nd 143 (am_nd 108 (am_look tb_M_step_5) (am_nd 127 (am_look tb_M_step_6) (am_look tb_M_step_7))) (am_nd 160 (am_look tb_M_step_8) (am_nd 178 (am_look tb_M_step_9) (am_look tb_M_step_10))))) (am_nd 305 (am_nd 252 (am_nd 220 (am_look tb_M_step_11) (am_nd 238 (am_look tb_M_step_12) (am_look tb_M_step_13))) (am_nd 272 (am_look tb_M_step_14) (am_nd 290 (am_look tb_M_step_15) (am_look tb_M_step_16)))) (am_nd 362 (am_nd 323 (am_look tb_M_step_17) (am_nd 343 (am_look tb_M_step_18) (am_look tb_M_step_19))) (am_nd 382 (am_look tb_M_step_20) (am_nd 400 (am_look tb_M_step_21) (am_look tb_M_step_22))))))
theorem td_M_step : am_dok prog_8_method_36_code tb_M_step := (am_dok_nd (am_dok_nd (am_dok_nd (am_dok_nd (am_dok_lf td_M_step_0) (am_dok_lf td_M_step_1)) (am_dok_nd (am_dok_lf td_M_step_2) (am_dok_nd (am_dok_lf td_M_step_3) (am_dok_lf td_M_step_4)))) (am_dok_nd (am_dok_nd (am_dok_lf td_M_step_5) (am_dok_nd (am_dok_lf td_M_step_6) (am_dok_lf td_M_step_7))) (am_dok_nd (am_dok_lf td_M_step_8) (am_dok_nd (am_dok_lf td_M_step_9) (am_dok_lf td_M_step_10))))) (am_dok_nd (am_dok_nd (am_dok_nd (am_dok_lf td_M_step_11) (am_dok_nd (am_dok_lf td_M_step_12) (am_dok_lf td_M_step_13))) (am_dok_nd (am_dok_lf td_M_step_14) (am_dok_nd (am_dok_lf td_M_step_15) (am_dok_lf td_M_step_16)))) (am_dok_nd (am_dok_nd (am_dok_lf td_M_step_17) (am_dok_nd (am_dok_lf td_M_step_18) (am_dok_lf td_M_step_19))) (am_dok_nd (am_dok_lf td_M_step_20) (am_dok_nd (am_dok_lf td_M_step_21) (am_dok_lf td_M_step_22))))))
def m_M_step : am_M := (⟨"SyntaxRowsModel", "step", "()I"⟩, prog_8_method_36_code, 5, (some .int), 6, 0, tb_M_step)
set_option maxRecDepth 100000 in
theorem ok_M_step : am_ok m_M_step := ⟨td_M_step, am_in 1234 rfl rfl, am_in 103 (by decide +kernel) rfl, by decide, ⟨by decide, by decide, by decide +kernel⟩, rfl, by decide⟩
theorem oi_M_step : am_inst m_M_step := ⟨am_in 1233 (by decide +kernel) rfl, am_in 57 (by decide +kernel) rfl⟩
def tb_M_fails_0 : List (Nat × (Instr × Nat)) := [(0, (.aload_n 0, 1)), (1, (.iload_n 1, 1)), (2, (.putfield 130, 3)), (5, (.aload_n 0, 1)), (6, (.iload_n 2, 1)), (7, (.putfield 133, 3)), (10, (.iconst 0, 1)), (11, (.ireturn, 1))]
theorem td_M_fails_0 : ∀ q ∈ tb_M_fails_0, decode prog_8_method_20_code q.1 = .ok q.2 := by decide +kernel
def tb_M_fails : Nat → Option (Instr × Nat) := (am_look tb_M_fails_0)
theorem td_M_fails : am_dok prog_8_method_20_code tb_M_fails := (am_dok_lf td_M_fails_0)
def m_M_fails : am_M := (⟨"SyntaxRowsModel", "fails", "(II)Z"⟩, prog_8_method_20_code, 3, (some .boolean), 6, 2, tb_M_fails)
set_option maxRecDepth 100000 in
theorem ok_M_fails : am_ok m_M_fails := ⟨td_M_fails, am_in 1238 rfl rfl, am_in 103 (by decide +kernel) rfl, by decide, ⟨by decide, by decide, by decide +kernel⟩, rfl, by decide⟩
theorem oi_M_fails : am_inst m_M_fails := ⟨am_in 1237 (by decide +kernel) rfl, am_in 58 (by decide +kernel) rfl⟩
def tb_M_readName_0 : List (Nat × (Instr × Nat)) := [(0, (.aload_n 0, 1)), (1, (.getfield 148, 3)), (4, (.istore_n 1, 1)), (5, (.aload_n 0, 1)), (6, (.iconst 4, 1)), (7, (.iload_n 1, 1)), (8, (.invokevirtual 151, 3)), (11, (.ifCond .ne 5, 3)), (14, (.iconst 0, 1)), (15, (.ireturn, 1))]
theorem td_M_readName_0 : ∀ q ∈ tb_M_readName_0, decode prog_8_method_24_code q.1 = .ok q.2 := by decide +kernel
def tb_M_readName_1 : List (Nat × (Instr × Nat)) := [(16, (.aload_n 0, 1)), (17, (.getfield 136, 3)), (20, (.iconst 1, 1)), (21, (.isub, 1)), (22, (.istore_n 2, 1)), (23, (.aload_n 0, 1)), (24, (.iconst 0, 1)), (25, (.putfield 145, 3)), (28, (.aload_n 0, 1)), (29, (.dup, 1))]
theorem td_M_readName_1 : ∀ q ∈ tb_M_readName_1, decode prog_8_method_24_code q.1 = .ok q.2 := by decide +kernel
def tb_M_readName_2 : List (Nat × (Instr × Nat)) := [(30, (.getfield 148, 3)), (33, (.iconst 1, 1)), (34, (.iadd, 1)), (35, (.putfield 148, 3)), (38, (.aload_n 0, 1)), (39, (.aload_n 0, 1)), (40, (.getfield 148, 3)), (43, (.invokevirtual 78, 3)), (46, (.invokestatic 85, 3)), (49, (.ifCond .eq 123, 3))]
theorem td_M_readName_2 : ∀ q ∈ tb_M_readName_2, decode prog_8_method_24_code q.1 = .ok q.2 := by decide +kernel
def tb_M_readName_3 : List (Nat × (Instr × Nat)) := [(52, (.aload_n 0, 1)), (53, (.getfield 7, 3)), (56, (.aload_n 0, 1)), (57, (.getfield 148, 3)), (60, (.iaload, 1)), (61, (.istore_n 3, 1)), (62, (.iload_n 3, 1)), (63, (.bipush 35, 2)), (65, (.if_icmp .ne 19, 3)), (68, (.aload_n 0, 1))]
theorem td_M_readName_3 : ∀ q ∈ tb_M_readName_3, decode prog_8_method_24_code q.1 = .ok q.2 := by decide +kernel
def tb_M_readName_4 : List (Nat × (Instr × Nat)) := [(69, (.aload_n 0, 1)), (70, (.getfield 148, 3)), (73, (.iconst 1, 1)), (74, (.iadd, 1)), (75, (.invokevirtual 78, 3)), (78, (.invokestatic 154, 3)), (81, (.goto 4, 3)), (84, (.iconst (-1), 1)), (85, (.istore 4, 2)), (87, (.iload 4, 2))]
theorem td_M_readName_4 : ∀ q ∈ tb_M_readName_4, decode prog_8_method_24_code q.1 = .ok q.2 := by decide +kernel
def tb_M_readName_5 : List (Nat × (Instr × Nat)) := [(89, (.ifCond .lt 19, 3)), (92, (.aload_n 0, 1)), (93, (.aload_n 0, 1)), (94, (.getfield 148, 3)), (97, (.iconst 2, 1)), (98, (.iadd, 1)), (99, (.invokevirtual 78, 3)), (102, (.invokestatic 154, 3)), (105, (.goto 4, 3)), (108, (.iconst (-1), 1))]
theorem td_M_readName_5 : ∀ q ∈ tb_M_readName_5, decode prog_8_method_24_code q.1 = .ok q.2 := by decide +kernel
def tb_M_readName_6 : List (Nat × (Instr × Nat)) := [(109, (.istore 5, 2)), (111, (.iload 5, 2)), (113, (.ifCond .lt 33, 3)), (116, (.bipush 16, 2)), (118, (.iload 4, 2)), (120, (.imul, 1)), (121, (.iload 5, 2)), (123, (.iadd, 1)), (124, (.istore_n 3, 1)), (125, (.aload_n 0, 1))]
theorem td_M_readName_6 : ∀ q ∈ tb_M_readName_6, decode prog_8_method_24_code q.1 = .ok q.2 := by decide +kernel
def tb_M_readName_7 : List (Nat × (Instr × Nat)) := [(126, (.aload_n 0, 1)), (127, (.getfield 148, 3)), (130, (.iconst 2, 1)), (131, (.iadd, 1)), (132, (.putfield 148, 3)), (135, (.iload_n 3, 1)), (136, (.ifCond .ne 10, 3)), (139, (.aload_n 0, 1)), (140, (.iconst 3, 1)), (141, (.iload_n 1, 1))]
theorem td_M_readName_7 : ∀ q ∈ tb_M_readName_7, decode prog_8_method_24_code q.1 = .ok q.2 := by decide +kernel
def tb_M_readName_8 : List (Nat × (Instr × Nat)) := [(142, (.invokevirtual 139, 3)), (145, (.ireturn, 1)), (146, (.aload_n 0, 1)), (147, (.iload_n 3, 1)), (148, (.bipush 40, 2)), (150, (.iload_n 1, 1)), (151, (.invokevirtual 157, 3)), (154, (.ifCond .ne 5, 3)), (157, (.iconst 0, 1)), (158, (.ireturn, 1))]
theorem td_M_readName_8 : ∀ q ∈ tb_M_readName_8, decode prog_8_method_24_code q.1 = .ok q.2 := by decide +kernel
def tb_M_readName_9 : List (Nat × (Instr × Nat)) := [(159, (.aload_n 0, 1)), (160, (.dup, 1)), (161, (.getfield 148, 3)), (164, (.iconst 1, 1)), (165, (.iadd, 1)), (166, (.putfield 148, 3)), (169, (.goto (-131), 3)), (172, (.aload_n 0, 1)), (173, (.iload_n 2, 1)), (174, (.iload_n 1, 1))]
theorem td_M_readName_9 : ∀ q ∈ tb_M_readName_9, decode prog_8_method_24_code q.1 = .ok q.2 := by decide +kernel
def tb_M_readName_10 : List (Nat × (Instr × Nat)) := [(175, (.invokevirtual 161, 3)), (178, (.ireturn, 1))]
theorem td_M_readName_10 : ∀ q ∈ tb_M_readName_10, decode prog_8_method_24_code q.1 = .ok q.2 := by decide +kernel
def tb_M_readName : Nat → Option (Instr × Nat) := (am_nd 89 (am_nd 30 (am_nd 16 (am_look tb_M_readName_0) (am_look tb_M_readName_1)) (am_nd 52 (am_look tb_M_readName_2) (am_nd 69 (am_look tb_M_readName_3) (am_look tb_M_readName_4)))) (am_nd 142 (am_nd 109 (am_look tb_M_readName_5) (am_nd 126 (am_look tb_M_readName_6) (am_look tb_M_readName_7))) (am_nd 159 (am_look tb_M_readName_8) (am_nd 175 (am_look tb_M_readName_9) (am_look tb_M_readName_10)))))
theorem td_M_readName : am_dok prog_8_method_24_code tb_M_readName := (am_dok_nd (am_dok_nd (am_dok_nd (am_dok_lf td_M_readName_0) (am_dok_lf td_M_readName_1)) (am_dok_nd (am_dok_lf td_M_readName_2) (am_dok_nd (am_dok_lf td_M_readName_3) (am_dok_lf td_M_readName_4)))) (am_dok_nd (am_dok_nd (am_dok_lf td_M_readName_5) (am_dok_nd (am_dok_lf td_M_readName_6) (am_dok_lf td_M_readName_7))) (am_dok_nd (am_dok_lf td_M_readName_8) (am_dok_nd (am_dok_lf td_M_readName_9) (am_dok_lf td_M_readName_10)))))
def m_M_readName : am_M := (⟨"SyntaxRowsModel", "readName", "()Z"⟩, prog_8_method_24_code, 6, (some .boolean), 6, 0, tb_M_readName)
set_option maxRecDepth 100000 in
theorem ok_M_readName : am_ok m_M_readName := ⟨td_M_readName, am_in 1242 rfl rfl, am_in 103 (by decide +kernel) rfl, by decide, ⟨by decide, by decide, by decide +kernel⟩, rfl, by decide⟩
theorem oi_M_readName : am_inst m_M_readName := ⟨am_in 1241 (by decide +kernel) rfl, am_in 59 (by decide +kernel) rfl⟩
def tb_M_begins_0 : List (Nat × (Instr × Nat)) := [(0, (.aload_n 0, 1)), (1, (.getfield 136, 3)), (4, (.sipush 300, 3)), (7, (.if_icmp .ne 11, 3)), (10, (.aload_n 0, 1)), (11, (.bipush 6, 2)), (13, (.iload_n 2, 1)), (14, (.invokevirtual 139, 3)), (17, (.ireturn, 1)), (18, (.aload_n 0, 1))]
theorem td_M_begins_0 : ∀ q ∈ tb_M_begins_0, decode prog_8_method_21_code q.1 = .ok q.2 := by decide +kernel
def tb_M_begins_1 : List (Nat × (Instr × Nat)) := [(19, (.getfield 16, 3)), (22, (.aload_n 0, 1)), (23, (.getfield 136, 3)), (26, (.iload_n 1, 1)), (27, (.iastore, 1)), (28, (.aload_n 0, 1)), (29, (.getfield 19, 3)), (32, (.aload_n 0, 1)), (33, (.getfield 136, 3)), (36, (.lconst 0, 1))]
theorem td_M_begins_1 : ∀ q ∈ tb_M_begins_1, decode prog_8_method_21_code q.1 = .ok q.2 := by decide +kernel
def tb_M_begins_2 : List (Nat × (Instr × Nat)) := [(37, (.lastore, 1)), (38, (.aload_n 0, 1)), (39, (.getfield 23, 3)), (42, (.aload_n 0, 1)), (43, (.getfield 136, 3)), (46, (.iconst (-1), 1)), (47, (.iastore, 1)), (48, (.aload_n 0, 1)), (49, (.getfield 26, 3)), (52, (.aload_n 0, 1))]
theorem td_M_begins_2 : ∀ q ∈ tb_M_begins_2, decode prog_8_method_21_code q.1 = .ok q.2 := by decide +kernel
def tb_M_begins_3 : List (Nat × (Instr × Nat)) := [(53, (.getfield 136, 3)), (56, (.iconst (-1), 1)), (57, (.iastore, 1)), (58, (.aload_n 0, 1)), (59, (.getfield 29, 3)), (62, (.aload_n 0, 1)), (63, (.getfield 136, 3)), (66, (.iconst (-1), 1)), (67, (.iastore, 1)), (68, (.aload_n 0, 1))]
theorem td_M_begins_3 : ∀ q ∈ tb_M_begins_3, decode prog_8_method_21_code q.1 = .ok q.2 := by decide +kernel
def tb_M_begins_4 : List (Nat × (Instr × Nat)) := [(69, (.getfield 32, 3)), (72, (.aload_n 0, 1)), (73, (.getfield 136, 3)), (76, (.iconst 0, 1)), (77, (.iastore, 1)), (78, (.aload_n 0, 1)), (79, (.getfield 35, 3)), (82, (.aload_n 0, 1)), (83, (.getfield 136, 3)), (86, (.aload_n 0, 1))]
theorem td_M_begins_4 : ∀ q ∈ tb_M_begins_4, decode prog_8_method_21_code q.1 = .ok q.2 := by decide +kernel
def tb_M_begins_5 : List (Nat × (Instr × Nat)) := [(87, (.getfield 142, 3)), (90, (.iastore, 1)), (91, (.aload_n 0, 1)), (92, (.getfield 38, 3)), (95, (.aload_n 0, 1)), (96, (.getfield 136, 3)), (99, (.iconst 0, 1)), (100, (.iastore, 1)), (101, (.aload_n 0, 1)), (102, (.dup, 1))]
theorem td_M_begins_5 : ∀ q ∈ tb_M_begins_5, decode prog_8_method_21_code q.1 = .ok q.2 := by decide +kernel
def tb_M_begins_6 : List (Nat × (Instr × Nat)) := [(103, (.getfield 136, 3)), (106, (.iconst 1, 1)), (107, (.iadd, 1)), (108, (.putfield 136, 3)), (111, (.iconst 1, 1)), (112, (.ireturn, 1))]
theorem td_M_begins_6 : ∀ q ∈ tb_M_begins_6, decode prog_8_method_21_code q.1 = .ok q.2 := by decide +kernel
def tb_M_begins : Nat → Option (Instr × Nat) := (am_nd 53 (am_nd 19 (am_look tb_M_begins_0) (am_nd 37 (am_look tb_M_begins_1) (am_look tb_M_begins_2))) (am_nd 87 (am_nd 69 (am_look tb_M_begins_3) (am_look tb_M_begins_4)) (am_nd 103 (am_look tb_M_begins_5) (am_look tb_M_begins_6))))
theorem td_M_begins : am_dok prog_8_method_21_code tb_M_begins := (am_dok_nd (am_dok_nd (am_dok_lf td_M_begins_0) (am_dok_nd (am_dok_lf td_M_begins_1) (am_dok_lf td_M_begins_2))) (am_dok_nd (am_dok_nd (am_dok_lf td_M_begins_3) (am_dok_lf td_M_begins_4)) (am_dok_nd (am_dok_lf td_M_begins_5) (am_dok_lf td_M_begins_6))))
def m_M_begins : am_M := (⟨"SyntaxRowsModel", "begins", "(II)Z"⟩, prog_8_method_21_code, 3, (some .boolean), 6, 2, tb_M_begins)
set_option maxRecDepth 100000 in
theorem ok_M_begins : am_ok m_M_begins := ⟨td_M_begins, am_in 1246 rfl rfl, am_in 103 (by decide +kernel) rfl, by decide, ⟨by decide, by decide, by decide +kernel⟩, rfl, by decide⟩
theorem oi_M_begins : am_inst m_M_begins := ⟨am_in 1245 (by decide +kernel) rfl, am_in 60 (by decide +kernel) rfl⟩
def tb_M_hex_0 : List (Nat × (Instr × Nat)) := [(0, (.iload_n 0, 1)), (1, (.invokestatic 73, 3)), (4, (.ifCond .eq 8, 3)), (7, (.iload_n 0, 1)), (8, (.bipush 48, 2)), (10, (.isub, 1)), (11, (.ireturn, 1)), (12, (.iload_n 0, 1)), (13, (.bipush 97, 2)), (15, (.if_icmp .lt 17, 3))]
theorem td_M_hex_0 : ∀ q ∈ tb_M_hex_0, decode prog_8_method_8_code q.1 = .ok q.2 := by decide +kernel
def tb_M_hex_1 : List (Nat × (Instr × Nat)) := [(18, (.iload_n 0, 1)), (19, (.bipush 102, 2)), (21, (.if_icmp .gt 11, 3)), (24, (.iload_n 0, 1)), (25, (.bipush 97, 2)), (27, (.isub, 1)), (28, (.bipush 10, 2)), (30, (.iadd, 1)), (31, (.ireturn, 1)), (32, (.iload_n 0, 1))]
theorem td_M_hex_1 : ∀ q ∈ tb_M_hex_1, decode prog_8_method_8_code q.1 = .ok q.2 := by decide +kernel
def tb_M_hex_2 : List (Nat × (Instr × Nat)) := [(33, (.bipush 65, 2)), (35, (.if_icmp .lt 19, 3)), (38, (.iload_n 0, 1)), (39, (.bipush 70, 2)), (41, (.if_icmp .gt 13, 3)), (44, (.iload_n 0, 1)), (45, (.bipush 65, 2)), (47, (.isub, 1)), (48, (.bipush 10, 2)), (50, (.iadd, 1))]
theorem td_M_hex_2 : ∀ q ∈ tb_M_hex_2, decode prog_8_method_8_code q.1 = .ok q.2 := by decide +kernel
def tb_M_hex_3 : List (Nat × (Instr × Nat)) := [(51, (.goto 4, 3)), (54, (.iconst (-1), 1)), (55, (.ireturn, 1))]
theorem td_M_hex_3 : ∀ q ∈ tb_M_hex_3, decode prog_8_method_8_code q.1 = .ok q.2 := by decide +kernel
def tb_M_hex : Nat → Option (Instr × Nat) := (am_nd 33 (am_nd 18 (am_look tb_M_hex_0) (am_look tb_M_hex_1)) (am_nd 51 (am_look tb_M_hex_2) (am_look tb_M_hex_3)))
theorem td_M_hex : am_dok prog_8_method_8_code tb_M_hex := (am_dok_nd (am_dok_nd (am_dok_lf td_M_hex_0) (am_dok_lf td_M_hex_1)) (am_dok_nd (am_dok_lf td_M_hex_2) (am_dok_lf td_M_hex_3)))
def m_M_hex : am_M := (⟨"SyntaxRowsModel", "hex", "(I)I"⟩, prog_8_method_8_code, 1, (some .int), 6, 1, tb_M_hex)
set_option maxRecDepth 100000 in
theorem ok_M_hex : am_ok m_M_hex := ⟨td_M_hex, am_in 1249 rfl rfl, am_in 103 (by decide +kernel) rfl, by decide, ⟨by decide, by decide, by decide +kernel⟩, rfl, by decide⟩
theorem os_M_hex : am_stat m_M_hex := am_in 1248 (by decide +kernel) rfl
def tb_M_gets_0 : List (Nat × (Instr × Nat)) := [(0, (.aload_n 0, 1)), (1, (.getfield 145, 3)), (4, (.iload_n 2, 1)), (5, (.if_icmp .ne 10, 3)), (8, (.aload_n 0, 1)), (9, (.iconst 3, 1)), (10, (.iload_n 3, 1)), (11, (.invokevirtual 139, 3)), (14, (.ireturn, 1)), (15, (.aload_n 0, 1))]
theorem td_M_gets_0 : ∀ q ∈ tb_M_gets_0, decode prog_8_method_23_code q.1 = .ok q.2 := by decide +kernel
def tb_M_gets_1 : List (Nat × (Instr × Nat)) := [(16, (.getfield 44, 3)), (19, (.aload_n 0, 1)), (20, (.getfield 145, 3)), (23, (.iload_n 1, 1)), (24, (.iastore, 1)), (25, (.aload_n 0, 1)), (26, (.dup, 1)), (27, (.getfield 145, 3)), (30, (.iconst 1, 1)), (31, (.iadd, 1))]
theorem td_M_gets_1 : ∀ q ∈ tb_M_gets_1, decode prog_8_method_23_code q.1 = .ok q.2 := by decide +kernel
def tb_M_gets_2 : List (Nat × (Instr × Nat)) := [(32, (.putfield 145, 3)), (35, (.iconst 1, 1)), (36, (.ireturn, 1))]
theorem td_M_gets_2 : ∀ q ∈ tb_M_gets_2, decode prog_8_method_23_code q.1 = .ok q.2 := by decide +kernel
def tb_M_gets : Nat → Option (Instr × Nat) := (am_nd 16 (am_look tb_M_gets_0) (am_nd 32 (am_look tb_M_gets_1) (am_look tb_M_gets_2)))
theorem td_M_gets : am_dok prog_8_method_23_code tb_M_gets := (am_dok_nd (am_dok_lf td_M_gets_0) (am_dok_nd (am_dok_lf td_M_gets_1) (am_dok_lf td_M_gets_2)))
def m_M_gets : am_M := (⟨"SyntaxRowsModel", "gets", "(III)Z"⟩, prog_8_method_23_code, 4, (some .boolean), 6, 3, tb_M_gets)
set_option maxRecDepth 100000 in
theorem ok_M_gets : am_ok m_M_gets := ⟨td_M_gets, am_in 1253 rfl rfl, am_in 103 (by decide +kernel) rfl, by decide, ⟨by decide, by decide, by decide +kernel⟩, rfl, by decide⟩
theorem oi_M_gets : am_inst m_M_gets := ⟨am_in 1252 (by decide +kernel) rfl, am_in 61 (by decide +kernel) rfl⟩
def tb_M_keepBytes_0 : List (Nat × (Instr × Nat)) := [(0, (.aload_n 0, 1)), (1, (.getfield 142, 3)), (4, (.aload_n 0, 1)), (5, (.getfield 145, 3)), (8, (.iadd, 1)), (9, (.sipush 2000, 3)), (12, (.if_icmp .le 11, 3)), (15, (.aload_n 0, 1)), (16, (.bipush 6, 2)), (18, (.iload_n 2, 1))]
theorem td_M_keepBytes_0 : ∀ q ∈ tb_M_keepBytes_0, decode prog_8_method_22_code q.1 = .ok q.2 := by decide +kernel
def tb_M_keepBytes_1 : List (Nat × (Instr × Nat)) := [(19, (.invokevirtual 139, 3)), (22, (.ireturn, 1)), (23, (.aload_n 0, 1)), (24, (.getfield 35, 3)), (27, (.iload_n 1, 1)), (28, (.aload_n 0, 1)), (29, (.getfield 142, 3)), (32, (.iastore, 1)), (33, (.aload_n 0, 1)), (34, (.getfield 38, 3))]
theorem td_M_keepBytes_1 : ∀ q ∈ tb_M_keepBytes_1, decode prog_8_method_22_code q.1 = .ok q.2 := by decide +kernel
def tb_M_keepBytes_2 : List (Nat × (Instr × Nat)) := [(37, (.iload_n 1, 1)), (38, (.aload_n 0, 1)), (39, (.getfield 145, 3)), (42, (.iastore, 1)), (43, (.iconst 0, 1)), (44, (.istore_n 3, 1)), (45, (.iload_n 3, 1)), (46, (.aload_n 0, 1)), (47, (.getfield 145, 3)), (50, (.if_icmp .ge 26, 3))]
theorem td_M_keepBytes_2 : ∀ q ∈ tb_M_keepBytes_2, decode prog_8_method_22_code q.1 = .ok q.2 := by decide +kernel
def tb_M_keepBytes_3 : List (Nat × (Instr × Nat)) := [(53, (.aload_n 0, 1)), (54, (.getfield 41, 3)), (57, (.aload_n 0, 1)), (58, (.getfield 142, 3)), (61, (.iload_n 3, 1)), (62, (.iadd, 1)), (63, (.aload_n 0, 1)), (64, (.getfield 44, 3)), (67, (.iload_n 3, 1)), (68, (.iaload, 1))]
theorem td_M_keepBytes_3 : ∀ q ∈ tb_M_keepBytes_3, decode prog_8_method_22_code q.1 = .ok q.2 := by decide +kernel
def tb_M_keepBytes_4 : List (Nat × (Instr × Nat)) := [(69, (.iastore, 1)), (70, (.iinc 3 1, 3)), (73, (.goto (-28), 3)), (76, (.aload_n 0, 1)), (77, (.aload_n 0, 1)), (78, (.getfield 142, 3)), (81, (.aload_n 0, 1)), (82, (.getfield 145, 3)), (85, (.iadd, 1)), (86, (.putfield 142, 3))]
theorem td_M_keepBytes_4 : ∀ q ∈ tb_M_keepBytes_4, decode prog_8_method_22_code q.1 = .ok q.2 := by decide +kernel
def tb_M_keepBytes_5 : List (Nat × (Instr × Nat)) := [(89, (.iconst 1, 1)), (90, (.ireturn, 1))]
theorem td_M_keepBytes_5 : ∀ q ∈ tb_M_keepBytes_5, decode prog_8_method_22_code q.1 = .ok q.2 := by decide +kernel
def tb_M_keepBytes : Nat → Option (Instr × Nat) := (am_nd 53 (am_nd 19 (am_look tb_M_keepBytes_0) (am_nd 37 (am_look tb_M_keepBytes_1) (am_look tb_M_keepBytes_2))) (am_nd 69 (am_look tb_M_keepBytes_3) (am_nd 89 (am_look tb_M_keepBytes_4) (am_look tb_M_keepBytes_5))))
theorem td_M_keepBytes : am_dok prog_8_method_22_code tb_M_keepBytes := (am_dok_nd (am_dok_nd (am_dok_lf td_M_keepBytes_0) (am_dok_nd (am_dok_lf td_M_keepBytes_1) (am_dok_lf td_M_keepBytes_2))) (am_dok_nd (am_dok_lf td_M_keepBytes_3) (am_dok_nd (am_dok_lf td_M_keepBytes_4) (am_dok_lf td_M_keepBytes_5))))
def m_M_keepBytes : am_M := (⟨"SyntaxRowsModel", "keepBytes", "(II)Z"⟩, prog_8_method_22_code, 4, (some .boolean), 6, 2, tb_M_keepBytes)
set_option maxRecDepth 100000 in
theorem ok_M_keepBytes : am_ok m_M_keepBytes := ⟨td_M_keepBytes, am_in 1257 rfl rfl, am_in 103 (by decide +kernel) rfl, by decide, ⟨by decide, by decide, by decide +kernel⟩, rfl, by decide⟩
theorem oi_M_keepBytes : am_inst m_M_keepBytes := ⟨am_in 1256 (by decide +kernel) rfl, am_in 62 (by decide +kernel) rfl⟩
def tb_M_opens_0 : List (Nat × (Instr × Nat)) := [(0, (.aload_n 0, 1)), (1, (.getfield 204, 3)), (4, (.bipush 8, 2)), (6, (.if_icmp .ne 13, 3)), (9, (.aload_n 0, 1)), (10, (.iconst 5, 1)), (11, (.aload_n 0, 1)), (12, (.getfield 148, 3)), (15, (.invokevirtual 139, 3)), (18, (.ireturn, 1))]
theorem td_M_opens_0 : ∀ q ∈ tb_M_opens_0, decode prog_8_method_35_code q.1 = .ok q.2 := by decide +kernel
def tb_M_opens_1 : List (Nat × (Instr × Nat)) := [(19, (.aload_n 0, 1)), (20, (.iload_n 1, 1)), (21, (.aload_n 0, 1)), (22, (.getfield 148, 3)), (25, (.invokevirtual 151, 3)), (28, (.ifCond .ne 5, 3)), (31, (.iconst 0, 1)), (32, (.ireturn, 1)), (33, (.aload_n 0, 1)), (34, (.getfield 47, 3))]
theorem td_M_opens_1 : ∀ q ∈ tb_M_opens_1, decode prog_8_method_35_code q.1 = .ok q.2 := by decide +kernel
def tb_M_opens_2 : List (Nat × (Instr × Nat)) := [(37, (.aload_n 0, 1)), (38, (.getfield 204, 3)), (41, (.aload_n 0, 1)), (42, (.getfield 136, 3)), (45, (.iconst 1, 1)), (46, (.isub, 1)), (47, (.iastore, 1)), (48, (.aload_n 0, 1)), (49, (.getfield 50, 3)), (52, (.aload_n 0, 1))]
theorem td_M_opens_2 : ∀ q ∈ tb_M_opens_2, decode prog_8_method_35_code q.1 = .ok q.2 := by decide +kernel
def tb_M_opens_3 : List (Nat × (Instr × Nat)) := [(53, (.getfield 204, 3)), (56, (.iconst (-1), 1)), (57, (.iastore, 1)), (58, (.aload_n 0, 1)), (59, (.dup, 1)), (60, (.getfield 204, 3)), (63, (.iconst 1, 1)), (64, (.iadd, 1)), (65, (.putfield 204, 3)), (68, (.aload_n 0, 1))]
theorem td_M_opens_3 : ∀ q ∈ tb_M_opens_3, decode prog_8_method_35_code q.1 = .ok q.2 := by decide +kernel
def tb_M_opens_4 : List (Nat × (Instr × Nat)) := [(69, (.aload_n 0, 1)), (70, (.getfield 148, 3)), (73, (.iload_n 2, 1)), (74, (.iadd, 1)), (75, (.putfield 148, 3)), (78, (.iconst 1, 1)), (79, (.ireturn, 1))]
theorem td_M_opens_4 : ∀ q ∈ tb_M_opens_4, decode prog_8_method_35_code q.1 = .ok q.2 := by decide +kernel
def tb_M_opens : Nat → Option (Instr × Nat) := (am_nd 37 (am_nd 19 (am_look tb_M_opens_0) (am_look tb_M_opens_1)) (am_nd 53 (am_look tb_M_opens_2) (am_nd 69 (am_look tb_M_opens_3) (am_look tb_M_opens_4))))
theorem td_M_opens : am_dok prog_8_method_35_code tb_M_opens := (am_dok_nd (am_dok_nd (am_dok_lf td_M_opens_0) (am_dok_lf td_M_opens_1)) (am_dok_nd (am_dok_lf td_M_opens_2) (am_dok_nd (am_dok_lf td_M_opens_3) (am_dok_lf td_M_opens_4))))
def m_M_opens : am_M := (⟨"SyntaxRowsModel", "opens", "(II)Z"⟩, prog_8_method_35_code, 3, (some .boolean), 6, 2, tb_M_opens)
set_option maxRecDepth 100000 in
theorem ok_M_opens : am_ok m_M_opens := ⟨td_M_opens, am_in 1261 rfl rfl, am_in 103 (by decide +kernel) rfl, by decide, ⟨by decide, by decide, by decide +kernel⟩, rfl, by decide⟩
theorem oi_M_opens : am_inst m_M_opens := ⟨am_in 1260 (by decide +kernel) rfl, am_in 63 (by decide +kernel) rfl⟩
def tb_M_readAngled_0 : List (Nat × (Instr × Nat)) := [(0, (.aload_n 0, 1)), (1, (.getfield 148, 3)), (4, (.istore_n 1, 1)), (5, (.aload_n 0, 1)), (6, (.iconst 5, 1)), (7, (.iload_n 1, 1)), (8, (.invokevirtual 151, 3)), (11, (.ifCond .ne 5, 3)), (14, (.iconst 0, 1)), (15, (.ireturn, 1))]
theorem td_M_readAngled_0 : ∀ q ∈ tb_M_readAngled_0, decode prog_8_method_28_code q.1 = .ok q.2 := by decide +kernel
def tb_M_readAngled_1 : List (Nat × (Instr × Nat)) := [(16, (.aload_n 0, 1)), (17, (.getfield 136, 3)), (20, (.iconst 1, 1)), (21, (.isub, 1)), (22, (.istore_n 2, 1)), (23, (.aload_n 0, 1)), (24, (.iconst 0, 1)), (25, (.putfield 145, 3)), (28, (.aload_n 0, 1)), (29, (.dup, 1))]
theorem td_M_readAngled_1 : ∀ q ∈ tb_M_readAngled_1, decode prog_8_method_28_code q.1 = .ok q.2 := by decide +kernel
def tb_M_readAngled_2 : List (Nat × (Instr × Nat)) := [(30, (.getfield 148, 3)), (33, (.iconst 1, 1)), (34, (.iadd, 1)), (35, (.putfield 148, 3)), (38, (.iconst (-1), 1)), (39, (.istore_n 3, 1)), (40, (.aload_n 0, 1)), (41, (.aload_n 0, 1)), (42, (.getfield 148, 3)), (45, (.invokevirtual 78, 3))]
theorem td_M_readAngled_2 : ∀ q ∈ tb_M_readAngled_2, decode prog_8_method_28_code q.1 = .ok q.2 := by decide +kernel
def tb_M_readAngled_3 : List (Nat × (Instr × Nat)) := [(48, (.bipush 62, 2)), (50, (.if_icmp .eq 123, 3)), (53, (.aload_n 0, 1)), (54, (.getfield 148, 3)), (57, (.aload_n 0, 1)), (58, (.getfield 62, 3)), (61, (.if_icmp .lt 13, 3)), (64, (.aload_n 0, 1)), (65, (.iconst 1, 1)), (66, (.aload_n 0, 1))]
theorem td_M_readAngled_3 : ∀ q ∈ tb_M_readAngled_3, decode prog_8_method_28_code q.1 = .ok q.2 := by decide +kernel
def tb_M_readAngled_4 : List (Nat × (Instr × Nat)) := [(67, (.getfield 62, 3)), (70, (.invokevirtual 139, 3)), (73, (.ireturn, 1)), (74, (.aload_n 0, 1)), (75, (.getfield 7, 3)), (78, (.aload_n 0, 1)), (79, (.getfield 148, 3)), (82, (.iaload, 1)), (83, (.invokestatic 154, 3)), (86, (.istore 4, 2))]
theorem td_M_readAngled_4 : ∀ q ∈ tb_M_readAngled_4, decode prog_8_method_28_code q.1 = .ok q.2 := by decide +kernel
def tb_M_readAngled_5 : List (Nat × (Instr × Nat)) := [(88, (.iload 4, 2)), (90, (.ifCond .ge 28, 3)), (93, (.aload_n 0, 1)), (94, (.getfield 7, 3)), (97, (.aload_n 0, 1)), (98, (.getfield 148, 3)), (101, (.iaload, 1)), (102, (.invokestatic 82, 3)), (105, (.ifCond .ne 13, 3)), (108, (.aload_n 0, 1))]
theorem td_M_readAngled_5 : ∀ q ∈ tb_M_readAngled_5, decode prog_8_method_28_code q.1 = .ok q.2 := by decide +kernel
def tb_M_readAngled_6 : List (Nat × (Instr × Nat)) := [(109, (.iconst 2, 1)), (110, (.aload_n 0, 1)), (111, (.getfield 148, 3)), (114, (.invokevirtual 139, 3)), (117, (.ireturn, 1)), (118, (.iload 4, 2)), (120, (.ifCond .lt 32, 3)), (123, (.iload_n 3, 1)), (124, (.ifCond .lt 28, 3)), (127, (.aload_n 0, 1))]
theorem td_M_readAngled_6 : ∀ q ∈ tb_M_readAngled_6, decode prog_8_method_28_code q.1 = .ok q.2 := by decide +kernel
def tb_M_readAngled_7 : List (Nat × (Instr × Nat)) := [(128, (.bipush 16, 2)), (130, (.iload_n 3, 1)), (131, (.imul, 1)), (132, (.iload 4, 2)), (134, (.iadd, 1)), (135, (.sipush 200, 3)), (138, (.iload_n 1, 1)), (139, (.invokevirtual 157, 3)), (142, (.ifCond .ne 5, 3)), (145, (.iconst 0, 1))]
theorem td_M_readAngled_7 : ∀ q ∈ tb_M_readAngled_7, decode prog_8_method_28_code q.1 = .ok q.2 := by decide +kernel
def tb_M_readAngled_8 : List (Nat × (Instr × Nat)) := [(146, (.ireturn, 1)), (147, (.iconst (-1), 1)), (148, (.istore_n 3, 1)), (149, (.goto 11, 3)), (152, (.iload 4, 2)), (154, (.ifCond .lt 6, 3)), (157, (.iload 4, 2)), (159, (.istore_n 3, 1)), (160, (.aload_n 0, 1)), (161, (.dup, 1))]
theorem td_M_readAngled_8 : ∀ q ∈ tb_M_readAngled_8, decode prog_8_method_28_code q.1 = .ok q.2 := by decide +kernel
def tb_M_readAngled_9 : List (Nat × (Instr × Nat)) := [(162, (.getfield 148, 3)), (165, (.iconst 1, 1)), (166, (.iadd, 1)), (167, (.putfield 148, 3)), (170, (.goto (-130), 3)), (173, (.aload_n 0, 1)), (174, (.dup, 1)), (175, (.getfield 148, 3)), (178, (.iconst 1, 1)), (179, (.iadd, 1))]
theorem td_M_readAngled_9 : ∀ q ∈ tb_M_readAngled_9, decode prog_8_method_28_code q.1 = .ok q.2 := by decide +kernel
def tb_M_readAngled_10 : List (Nat × (Instr × Nat)) := [(180, (.putfield 148, 3)), (183, (.iload_n 3, 1)), (184, (.ifCond .lt 30, 3)), (187, (.aload_n 0, 1)), (188, (.bipush 16, 2)), (190, (.iload_n 3, 1)), (191, (.imul, 1)), (192, (.sipush 200, 3)), (195, (.iload_n 1, 1)), (196, (.invokevirtual 157, 3))]
theorem td_M_readAngled_10 : ∀ q ∈ tb_M_readAngled_10, decode prog_8_method_28_code q.1 = .ok q.2 := by decide +kernel
def tb_M_readAngled_11 : List (Nat × (Instr × Nat)) := [(199, (.ifCond .ne 5, 3)), (202, (.iconst 0, 1)), (203, (.ireturn, 1)), (204, (.aload_n 0, 1)), (205, (.aload_n 0, 1)), (206, (.getfield 171, 3)), (209, (.iconst 1, 1)), (210, (.ior, 1)), (211, (.putfield 171, 3)), (214, (.aload_n 0, 1))]
theorem td_M_readAngled_11 : ∀ q ∈ tb_M_readAngled_11, decode prog_8_method_28_code q.1 = .ok q.2 := by decide +kernel
def tb_M_readAngled_12 : List (Nat × (Instr × Nat)) := [(215, (.iload_n 2, 1)), (216, (.iload_n 1, 1)), (217, (.invokevirtual 161, 3)), (220, (.ireturn, 1))]
theorem td_M_readAngled_12 : ∀ q ∈ tb_M_readAngled_12, decode prog_8_method_28_code q.1 = .ok q.2 := by decide +kernel
def tb_M_readAngled : Nat → Option (Instr × Nat) := (am_nd 109 (am_nd 48 (am_nd 16 (am_look tb_M_readAngled_0) (am_nd 30 (am_look tb_M_readAngled_1) (am_look tb_M_readAngled_2))) (am_nd 67 (am_look tb_M_readAngled_3) (am_nd 88 (am_look tb_M_readAngled_4) (am_look tb_M_readAngled_5)))) (am_nd 162 (am_nd 128 (am_look tb_M_readAngled_6) (am_nd 146 (am_look tb_M_readAngled_7) (am_look tb_M_readAngled_8))) (am_nd 199 (am_nd 180 (am_look tb_M_readAngled_9) (am_look tb_M_readAngled_10)) (am_nd 215 (am_look tb_M_readAngled_11) (am_look tb_M_readAngled_12)))))
theorem td_M_readAngled : am_dok prog_8_method_28_code tb_M_readAngled := (am_dok_nd (am_dok_nd (am_dok_nd (am_dok_lf td_M_readAngled_0) (am_dok_nd (am_dok_lf td_M_readAngled_1) (am_dok_lf td_M_readAngled_2))) (am_dok_nd (am_dok_lf td_M_readAngled_3) (am_dok_nd (am_dok_lf td_M_readAngled_4) (am_dok_lf td_M_readAngled_5)))) (am_dok_nd (am_dok_nd (am_dok_lf td_M_readAngled_6) (am_dok_nd (am_dok_lf td_M_readAngled_7) (am_dok_lf td_M_readAngled_8))) (am_dok_nd (am_dok_nd (am_dok_lf td_M_readAngled_9) (am_dok_lf td_M_readAngled_10)) (am_dok_nd (am_dok_lf td_M_readAngled_11) (am_dok_lf td_M_readAngled_12)))))
def m_M_readAngled : am_M := (⟨"SyntaxRowsModel", "readAngled", "()Z"⟩, prog_8_method_28_code, 5, (some .boolean), 6, 0, tb_M_readAngled)
set_option maxRecDepth 100000 in
theorem ok_M_readAngled : am_ok m_M_readAngled := ⟨td_M_readAngled, am_in 1265 rfl rfl, am_in 103 (by decide +kernel) rfl, by decide, ⟨by decide, by decide, by decide +kernel⟩, rfl, by decide⟩
theorem oi_M_readAngled : am_inst m_M_readAngled := ⟨am_in 1264 (by decide +kernel) rfl, am_in 64 (by decide +kernel) rfl⟩
def tb_M_readRound_0 : List (Nat × (Instr × Nat)) := [(0, (.aload_n 0, 1)), (1, (.getfield 148, 3)), (4, (.istore_n 1, 1)), (5, (.aload_n 0, 1)), (6, (.iconst 5, 1)), (7, (.iload_n 1, 1)), (8, (.invokevirtual 151, 3)), (11, (.ifCond .ne 5, 3)), (14, (.iconst 0, 1)), (15, (.ireturn, 1))]
theorem td_M_readRound_0 : ∀ q ∈ tb_M_readRound_0, decode prog_8_method_27_code q.1 = .ok q.2 := by decide +kernel
def tb_M_readRound_1 : List (Nat × (Instr × Nat)) := [(16, (.aload_n 0, 1)), (17, (.getfield 136, 3)), (20, (.iconst 1, 1)), (21, (.isub, 1)), (22, (.istore_n 2, 1)), (23, (.aload_n 0, 1)), (24, (.iconst 0, 1)), (25, (.putfield 145, 3)), (28, (.aload_n 0, 1)), (29, (.dup, 1))]
theorem td_M_readRound_1 : ∀ q ∈ tb_M_readRound_1, decode prog_8_method_27_code q.1 = .ok q.2 := by decide +kernel
def tb_M_readRound_2 : List (Nat × (Instr × Nat)) := [(30, (.getfield 148, 3)), (33, (.iconst 1, 1)), (34, (.iadd, 1)), (35, (.putfield 148, 3)), (38, (.iconst 1, 1)), (39, (.istore_n 3, 1)), (40, (.iload_n 3, 1)), (41, (.ifCond .le 180, 3)), (44, (.aload_n 0, 1)), (45, (.getfield 148, 3))]
theorem td_M_readRound_2 : ∀ q ∈ tb_M_readRound_2, decode prog_8_method_27_code q.1 = .ok q.2 := by decide +kernel
def tb_M_readRound_3 : List (Nat × (Instr × Nat)) := [(48, (.aload_n 0, 1)), (49, (.getfield 62, 3)), (52, (.if_icmp .lt 13, 3)), (55, (.aload_n 0, 1)), (56, (.iconst 1, 1)), (57, (.aload_n 0, 1)), (58, (.getfield 62, 3)), (61, (.invokevirtual 139, 3)), (64, (.ireturn, 1)), (65, (.aload_n 0, 1))]
theorem td_M_readRound_3 : ∀ q ∈ tb_M_readRound_3, decode prog_8_method_27_code q.1 = .ok q.2 := by decide +kernel
def tb_M_readRound_4 : List (Nat × (Instr × Nat)) := [(66, (.getfield 7, 3)), (69, (.aload_n 0, 1)), (70, (.getfield 148, 3)), (73, (.iaload, 1)), (74, (.istore 4, 2)), (76, (.iload 4, 2)), (78, (.bipush 92, 2)), (80, (.if_icmp .ne 43, 3)), (83, (.aload_n 0, 1)), (84, (.dup, 1))]
theorem td_M_readRound_4 : ∀ q ∈ tb_M_readRound_4, decode prog_8_method_27_code q.1 = .ok q.2 := by decide +kernel
def tb_M_readRound_5 : List (Nat × (Instr × Nat)) := [(85, (.getfield 148, 3)), (88, (.iconst 1, 1)), (89, (.iadd, 1)), (90, (.putfield 148, 3)), (93, (.aload_n 0, 1)), (94, (.getfield 148, 3)), (97, (.aload_n 0, 1)), (98, (.getfield 62, 3)), (101, (.if_icmp .lt 13, 3)), (104, (.aload_n 0, 1))]
theorem td_M_readRound_5 : ∀ q ∈ tb_M_readRound_5, decode prog_8_method_27_code q.1 = .ok q.2 := by decide +kernel
def tb_M_readRound_6 : List (Nat × (Instr × Nat)) := [(105, (.iconst 1, 1)), (106, (.aload_n 0, 1)), (107, (.getfield 62, 3)), (110, (.invokevirtual 139, 3)), (113, (.ireturn, 1)), (114, (.aload_n 0, 1)), (115, (.invokevirtual 167, 3)), (118, (.istore 4, 2)), (120, (.goto 74, 3)), (123, (.iload 4, 2))]
theorem td_M_readRound_6 : ∀ q ∈ tb_M_readRound_6, decode prog_8_method_27_code q.1 = .ok q.2 := by decide +kernel
def tb_M_readRound_7 : List (Nat × (Instr × Nat)) := [(125, (.bipush 13, 2)), (127, (.if_icmp .eq 10, 3)), (130, (.iload 4, 2)), (132, (.bipush 10, 2)), (134, (.if_icmp .ne 22, 3)), (137, (.aload_n 0, 1)), (138, (.aload_n 0, 1)), (139, (.aload_n 0, 1)), (140, (.getfield 148, 3)), (143, (.invokevirtual 164, 3))]
theorem td_M_readRound_7 : ∀ q ∈ tb_M_readRound_7, decode prog_8_method_27_code q.1 = .ok q.2 := by decide +kernel
def tb_M_readRound_8 : List (Nat × (Instr × Nat)) := [(146, (.putfield 148, 3)), (149, (.bipush 10, 2)), (151, (.istore 4, 2)), (153, (.goto 41, 3)), (156, (.aload_n 0, 1)), (157, (.dup, 1)), (158, (.getfield 148, 3)), (161, (.iconst 1, 1)), (162, (.iadd, 1)), (163, (.putfield 148, 3))]
theorem td_M_readRound_8 : ∀ q ∈ tb_M_readRound_8, decode prog_8_method_27_code q.1 = .ok q.2 := by decide +kernel
def tb_M_readRound_9 : List (Nat × (Instr × Nat)) := [(166, (.iload 4, 2)), (168, (.bipush 40, 2)), (170, (.if_icmp .ne 9, 3)), (173, (.iload_n 3, 1)), (174, (.iconst 1, 1)), (175, (.iadd, 1)), (176, (.goto 17, 3)), (179, (.iload 4, 2)), (181, (.bipush 41, 2)), (183, (.if_icmp .ne 9, 3))]
theorem td_M_readRound_9 : ∀ q ∈ tb_M_readRound_9, decode prog_8_method_27_code q.1 = .ok q.2 := by decide +kernel
def tb_M_readRound_10 : List (Nat × (Instr × Nat)) := [(186, (.iload_n 3, 1)), (187, (.iconst 1, 1)), (188, (.isub, 1)), (189, (.goto 4, 3)), (192, (.iload_n 3, 1)), (193, (.istore_n 3, 1)), (194, (.iload_n 3, 1)), (195, (.ifCond .le 23, 3)), (198, (.iload 4, 2)), (200, (.ifCond .lt 18, 3))]
theorem td_M_readRound_10 : ∀ q ∈ tb_M_readRound_10, decode prog_8_method_27_code q.1 = .ok q.2 := by decide +kernel
def tb_M_readRound_11 : List (Nat × (Instr × Nat)) := [(203, (.aload_n 0, 1)), (204, (.iload 4, 2)), (206, (.sipush 200, 3)), (209, (.iload_n 1, 1)), (210, (.invokevirtual 157, 3)), (213, (.ifCond .ne 5, 3)), (216, (.iconst 0, 1)), (217, (.ireturn, 1)), (218, (.goto (-178), 3)), (221, (.aload_n 0, 1))]
theorem td_M_readRound_11 : ∀ q ∈ tb_M_readRound_11, decode prog_8_method_27_code q.1 = .ok q.2 := by decide +kernel
def tb_M_readRound_12 : List (Nat × (Instr × Nat)) := [(222, (.iload_n 2, 1)), (223, (.iload_n 1, 1)), (224, (.invokevirtual 161, 3)), (227, (.ireturn, 1))]
theorem td_M_readRound_12 : ∀ q ∈ tb_M_readRound_12, decode prog_8_method_27_code q.1 = .ok q.2 := by decide +kernel
def tb_M_readRound : Nat → Option (Instr × Nat) := (am_nd 105 (am_nd 48 (am_nd 16 (am_look tb_M_readRound_0) (am_nd 30 (am_look tb_M_readRound_1) (am_look tb_M_readRound_2))) (am_nd 66 (am_look tb_M_readRound_3) (am_nd 85 (am_look tb_M_readRound_4) (am_look tb_M_readRound_5)))) (am_nd 166 (am_nd 125 (am_look tb_M_readRound_6) (am_nd 146 (am_look tb_M_readRound_7) (am_look tb_M_readRound_8))) (am_nd 203 (am_nd 186 (am_look tb_M_readRound_9) (am_look tb_M_readRound_10)) (am_nd 222 (am_look tb_M_readRound_11) (am_look tb_M_readRound_12)))))
theorem td_M_readRound : am_dok prog_8_method_27_code tb_M_readRound := (am_dok_nd (am_dok_nd (am_dok_nd (am_dok_lf td_M_readRound_0) (am_dok_nd (am_dok_lf td_M_readRound_1) (am_dok_lf td_M_readRound_2))) (am_dok_nd (am_dok_lf td_M_readRound_3) (am_dok_nd (am_dok_lf td_M_readRound_4) (am_dok_lf td_M_readRound_5)))) (am_dok_nd (am_dok_nd (am_dok_lf td_M_readRound_6) (am_dok_nd (am_dok_lf td_M_readRound_7) (am_dok_lf td_M_readRound_8))) (am_dok_nd (am_dok_nd (am_dok_lf td_M_readRound_9) (am_dok_lf td_M_readRound_10)) (am_dok_nd (am_dok_lf td_M_readRound_11) (am_dok_lf td_M_readRound_12)))))
def m_M_readRound : am_M := (⟨"SyntaxRowsModel", "readRound", "()Z"⟩, prog_8_method_27_code, 5, (some .boolean), 6, 0, tb_M_readRound)
set_option maxRecDepth 100000 in
theorem ok_M_readRound : am_ok m_M_readRound := ⟨td_M_readRound, am_in 1269 rfl rfl, am_in 103 (by decide +kernel) rfl, by decide, ⟨by decide, by decide, by decide +kernel⟩, rfl, by decide⟩
theorem oi_M_readRound : am_inst m_M_readRound := ⟨am_in 1268 (by decide +kernel) rfl, am_in 65 (by decide +kernel) rfl⟩
def tb_M_escaped_0 : List (Nat × (Instr × Nat)) := [(0, (.aload_n 0, 1)), (1, (.aload_n 0, 1)), (2, (.getfield 148, 3)), (5, (.invokevirtual 78, 3)), (8, (.istore_n 1, 1)), (9, (.iload_n 1, 1)), (10, (.bipush 48, 2)), (12, (.if_icmp .lt 84, 3)), (15, (.iload_n 1, 1)), (16, (.bipush 55, 2))]
theorem td_M_escaped_0 : ∀ q ∈ tb_M_escaped_0, decode prog_8_method_26_code q.1 = .ok q.2 := by decide +kernel
def tb_M_escaped_1 : List (Nat × (Instr × Nat)) := [(18, (.if_icmp .gt 78, 3)), (21, (.iconst 0, 1)), (22, (.istore_n 2, 1)), (23, (.iconst 0, 1)), (24, (.istore_n 3, 1)), (25, (.iload_n 3, 1)), (26, (.iconst 3, 1)), (27, (.if_icmp .ge 63, 3)), (30, (.aload_n 0, 1)), (31, (.aload_n 0, 1))]
theorem td_M_escaped_1 : ∀ q ∈ tb_M_escaped_1, decode prog_8_method_26_code q.1 = .ok q.2 := by decide +kernel
def tb_M_escaped_2 : List (Nat × (Instr × Nat)) := [(32, (.getfield 148, 3)), (35, (.invokevirtual 78, 3)), (38, (.bipush 48, 2)), (40, (.if_icmp .lt 50, 3)), (43, (.aload_n 0, 1)), (44, (.aload_n 0, 1)), (45, (.getfield 148, 3)), (48, (.invokevirtual 78, 3)), (51, (.bipush 55, 2)), (53, (.if_icmp .gt 37, 3))]
theorem td_M_escaped_2 : ∀ q ∈ tb_M_escaped_2, decode prog_8_method_26_code q.1 = .ok q.2 := by decide +kernel
def tb_M_escaped_3 : List (Nat × (Instr × Nat)) := [(56, (.bipush 8, 2)), (58, (.iload_n 2, 1)), (59, (.imul, 1)), (60, (.aload_n 0, 1)), (61, (.getfield 7, 3)), (64, (.aload_n 0, 1)), (65, (.getfield 148, 3)), (68, (.iaload, 1)), (69, (.iadd, 1)), (70, (.bipush 48, 2))]
theorem td_M_escaped_3 : ∀ q ∈ tb_M_escaped_3, decode prog_8_method_26_code q.1 = .ok q.2 := by decide +kernel
def tb_M_escaped_4 : List (Nat × (Instr × Nat)) := [(72, (.isub, 1)), (73, (.istore_n 2, 1)), (74, (.aload_n 0, 1)), (75, (.dup, 1)), (76, (.getfield 148, 3)), (79, (.iconst 1, 1)), (80, (.iadd, 1)), (81, (.putfield 148, 3)), (84, (.iinc 3 1, 3)), (87, (.goto (-62), 3))]
theorem td_M_escaped_4 : ∀ q ∈ tb_M_escaped_4, decode prog_8_method_26_code q.1 = .ok q.2 := by decide +kernel
def tb_M_escaped_5 : List (Nat × (Instr × Nat)) := [(90, (.iload_n 2, 1)), (91, (.sipush 255, 3)), (94, (.iand, 1)), (95, (.ireturn, 1)), (96, (.iload_n 1, 1)), (97, (.bipush 10, 2)), (99, (.if_icmp .eq 9, 3)), (102, (.iload_n 1, 1)), (103, (.bipush 13, 2)), (105, (.if_icmp .ne 17, 3))]
theorem td_M_escaped_5 : ∀ q ∈ tb_M_escaped_5, decode prog_8_method_26_code q.1 = .ok q.2 := by decide +kernel
def tb_M_escaped_6 : List (Nat × (Instr × Nat)) := [(108, (.aload_n 0, 1)), (109, (.aload_n 0, 1)), (110, (.aload_n 0, 1)), (111, (.getfield 148, 3)), (114, (.invokevirtual 164, 3)), (117, (.putfield 148, 3)), (120, (.iconst (-1), 1)), (121, (.ireturn, 1)), (122, (.aload_n 0, 1)), (123, (.dup, 1))]
theorem td_M_escaped_6 : ∀ q ∈ tb_M_escaped_6, decode prog_8_method_26_code q.1 = .ok q.2 := by decide +kernel
def tb_M_escaped_7 : List (Nat × (Instr × Nat)) := [(124, (.getfield 148, 3)), (127, (.iconst 1, 1)), (128, (.iadd, 1)), (129, (.putfield 148, 3)), (132, (.iload_n 1, 1)), (133, (.bipush 110, 2)), (135, (.if_icmp .ne 8, 3)), (138, (.bipush 10, 2)), (140, (.goto 48, 3)), (143, (.iload_n 1, 1))]
theorem td_M_escaped_7 : ∀ q ∈ tb_M_escaped_7, decode prog_8_method_26_code q.1 = .ok q.2 := by decide +kernel
def tb_M_escaped_8 : List (Nat × (Instr × Nat)) := [(144, (.bipush 114, 2)), (146, (.if_icmp .ne 8, 3)), (149, (.bipush 13, 2)), (151, (.goto 37, 3)), (154, (.iload_n 1, 1)), (155, (.bipush 116, 2)), (157, (.if_icmp .ne 8, 3)), (160, (.bipush 9, 2)), (162, (.goto 26, 3)), (165, (.iload_n 1, 1))]
theorem td_M_escaped_8 : ∀ q ∈ tb_M_escaped_8, decode prog_8_method_26_code q.1 = .ok q.2 := by decide +kernel
def tb_M_escaped_9 : List (Nat × (Instr × Nat)) := [(166, (.bipush 98, 2)), (168, (.if_icmp .ne 8, 3)), (171, (.bipush 8, 2)), (173, (.goto 15, 3)), (176, (.iload_n 1, 1)), (177, (.bipush 102, 2)), (179, (.if_icmp .ne 8, 3)), (182, (.bipush 12, 2)), (184, (.goto 4, 3)), (187, (.iload_n 1, 1))]
theorem td_M_escaped_9 : ∀ q ∈ tb_M_escaped_9, decode prog_8_method_26_code q.1 = .ok q.2 := by decide +kernel
def tb_M_escaped_10 : List (Nat × (Instr × Nat)) := [(188, (.ireturn, 1))]
theorem td_M_escaped_10 : ∀ q ∈ tb_M_escaped_10, decode prog_8_method_26_code q.1 = .ok q.2 := by decide +kernel
def tb_M_escaped : Nat → Option (Instr × Nat) := (am_nd 90 (am_nd 32 (am_nd 18 (am_look tb_M_escaped_0) (am_look tb_M_escaped_1)) (am_nd 56 (am_look tb_M_escaped_2) (am_nd 72 (am_look tb_M_escaped_3) (am_look tb_M_escaped_4)))) (am_nd 144 (am_nd 108 (am_look tb_M_escaped_5) (am_nd 124 (am_look tb_M_escaped_6) (am_look tb_M_escaped_7))) (am_nd 166 (am_look tb_M_escaped_8) (am_nd 188 (am_look tb_M_escaped_9) (am_look tb_M_escaped_10)))))
theorem td_M_escaped : am_dok prog_8_method_26_code tb_M_escaped := (am_dok_nd (am_dok_nd (am_dok_nd (am_dok_lf td_M_escaped_0) (am_dok_lf td_M_escaped_1)) (am_dok_nd (am_dok_lf td_M_escaped_2) (am_dok_nd (am_dok_lf td_M_escaped_3) (am_dok_lf td_M_escaped_4)))) (am_dok_nd (am_dok_nd (am_dok_lf td_M_escaped_5) (am_dok_nd (am_dok_lf td_M_escaped_6) (am_dok_lf td_M_escaped_7))) (am_dok_nd (am_dok_lf td_M_escaped_8) (am_dok_nd (am_dok_lf td_M_escaped_9) (am_dok_lf td_M_escaped_10)))))
def m_M_escaped : am_M := (⟨"SyntaxRowsModel", "escaped", "()I"⟩, prog_8_method_26_code, 4, (some .int), 6, 0, tb_M_escaped)
set_option maxRecDepth 100000 in
theorem ok_M_escaped : am_ok m_M_escaped := ⟨td_M_escaped, am_in 1273 rfl rfl, am_in 103 (by decide +kernel) rfl, by decide, ⟨by decide, by decide, by decide +kernel⟩, rfl, by decide⟩
theorem oi_M_escaped : am_inst m_M_escaped := ⟨am_in 1272 (by decide +kernel) rfl, am_in 66 (by decide +kernel) rfl⟩
def tb_M_behindLineEnd_0 : List (Nat × (Instr × Nat)) := [(0, (.aload_n 0, 1)), (1, (.iload_n 1, 1)), (2, (.invokevirtual 78, 3)), (5, (.bipush 13, 2)), (7, (.if_icmp .ne 19, 3)), (10, (.aload_n 0, 1)), (11, (.iload_n 1, 1)), (12, (.iconst 1, 1)), (13, (.iadd, 1)), (14, (.invokevirtual 78, 3))]
theorem td_M_behindLineEnd_0 : ∀ q ∈ tb_M_behindLineEnd_0, decode prog_8_method_25_code q.1 = .ok q.2 := by decide +kernel
def tb_M_behindLineEnd_1 : List (Nat × (Instr × Nat)) := [(17, (.bipush 10, 2)), (19, (.if_icmp .ne 7, 3)), (22, (.iload_n 1, 1)), (23, (.iconst 2, 1)), (24, (.iadd, 1)), (25, (.ireturn, 1)), (26, (.aload_n 0, 1)), (27, (.iload_n 1, 1)), (28, (.invokevirtual 78, 3)), (31, (.bipush 13, 2))]
theorem td_M_behindLineEnd_1 : ∀ q ∈ tb_M_behindLineEnd_1, decode prog_8_method_25_code q.1 = .ok q.2 := by decide +kernel
def tb_M_behindLineEnd_2 : List (Nat × (Instr × Nat)) := [(33, (.if_icmp .eq 13, 3)), (36, (.aload_n 0, 1)), (37, (.iload_n 1, 1)), (38, (.invokevirtual 78, 3)), (41, (.bipush 10, 2)), (43, (.if_icmp .ne 9, 3)), (46, (.iload_n 1, 1)), (47, (.iconst 1, 1)), (48, (.iadd, 1)), (49, (.goto 4, 3))]
theorem td_M_behindLineEnd_2 : ∀ q ∈ tb_M_behindLineEnd_2, decode prog_8_method_25_code q.1 = .ok q.2 := by decide +kernel
def tb_M_behindLineEnd_3 : List (Nat × (Instr × Nat)) := [(52, (.iload_n 1, 1)), (53, (.ireturn, 1))]
theorem td_M_behindLineEnd_3 : ∀ q ∈ tb_M_behindLineEnd_3, decode prog_8_method_25_code q.1 = .ok q.2 := by decide +kernel
def tb_M_behindLineEnd : Nat → Option (Instr × Nat) := (am_nd 33 (am_nd 17 (am_look tb_M_behindLineEnd_0) (am_look tb_M_behindLineEnd_1)) (am_nd 52 (am_look tb_M_behindLineEnd_2) (am_look tb_M_behindLineEnd_3)))
theorem td_M_behindLineEnd : am_dok prog_8_method_25_code tb_M_behindLineEnd := (am_dok_nd (am_dok_nd (am_dok_lf td_M_behindLineEnd_0) (am_dok_lf td_M_behindLineEnd_1)) (am_dok_nd (am_dok_lf td_M_behindLineEnd_2) (am_dok_lf td_M_behindLineEnd_3)))
def m_M_behindLineEnd : am_M := (⟨"SyntaxRowsModel", "behindLineEnd", "(I)I"⟩, prog_8_method_25_code, 2, (some .int), 6, 1, tb_M_behindLineEnd)
set_option maxRecDepth 100000 in
theorem ok_M_behindLineEnd : am_ok m_M_behindLineEnd := ⟨td_M_behindLineEnd, am_in 1277 rfl rfl, am_in 103 (by decide +kernel) rfl, by decide, ⟨by decide, by decide, by decide +kernel⟩, rfl, by decide⟩
theorem oi_M_behindLineEnd : am_inst m_M_behindLineEnd := ⟨am_in 1276 (by decide +kernel) rfl, am_in 67 (by decide +kernel) rfl⟩
def tb_M_readWord_0 : List (Nat × (Instr × Nat)) := [(0, (.aload_n 0, 1)), (1, (.getfield 148, 3)), (4, (.istore_n 1, 1)), (5, (.aload_n 0, 1)), (6, (.getfield 136, 3)), (9, (.sipush 300, 3)), (12, (.if_icmp .ne 11, 3)), (15, (.aload_n 0, 1)), (16, (.bipush 6, 2)), (18, (.iload_n 1, 1))]
theorem td_M_readWord_0 : ∀ q ∈ tb_M_readWord_0, decode prog_8_method_30_code q.1 = .ok q.2 := by decide +kernel
def tb_M_readWord_1 : List (Nat × (Instr × Nat)) := [(19, (.invokevirtual 139, 3)), (22, (.ireturn, 1)), (23, (.aload_n 0, 1)), (24, (.aload_n 0, 1)), (25, (.getfield 148, 3)), (28, (.invokevirtual 117, 3)), (31, (.istore_n 2, 1)), (32, (.aload_n 0, 1)), (33, (.aload_n 0, 1)), (34, (.getfield 148, 3))]
theorem td_M_readWord_1 : ∀ q ∈ tb_M_readWord_1, decode prog_8_method_30_code q.1 = .ok q.2 := by decide +kernel
def tb_M_readWord_2 : List (Nat × (Instr × Nat)) := [(37, (.iconst 4, 1)), (38, (.invokevirtual 182, 3)), (41, (.ifCond .eq 7, 3)), (44, (.iconst 4, 1)), (45, (.goto 38, 3)), (48, (.aload_n 0, 1)), (49, (.aload_n 0, 1)), (50, (.getfield 148, 3)), (53, (.iconst 5, 1)), (54, (.invokevirtual 182, 3))]
theorem td_M_readWord_2 : ∀ q ∈ tb_M_readWord_2, decode prog_8_method_30_code q.1 = .ok q.2 := by decide +kernel
def tb_M_readWord_3 : List (Nat × (Instr × Nat)) := [(57, (.ifCond .eq 7, 3)), (60, (.iconst 5, 1)), (61, (.goto 22, 3)), (64, (.aload_n 0, 1)), (65, (.aload_n 0, 1)), (66, (.getfield 148, 3)), (69, (.bipush 6, 2)), (71, (.invokevirtual 182, 3)), (74, (.ifCond .eq 8, 3)), (77, (.bipush 6, 2))]
theorem td_M_readWord_3 : ∀ q ∈ tb_M_readWord_3, decode prog_8_method_30_code q.1 = .ok q.2 := by decide +kernel
def tb_M_readWord_4 : List (Nat × (Instr × Nat)) := [(79, (.goto 4, 3)), (82, (.iconst 0, 1)), (83, (.istore_n 3, 1)), (84, (.iload_n 3, 1)), (85, (.ifCond .le 52, 3)), (88, (.aload_n 0, 1)), (89, (.iload_n 3, 1)), (90, (.bipush 6, 2)), (92, (.if_icmp .ne 7, 3)), (95, (.iconst 0, 1))]
theorem td_M_readWord_4 : ∀ q ∈ tb_M_readWord_4, decode prog_8_method_30_code q.1 = .ok q.2 := by decide +kernel
def tb_M_readWord_5 : List (Nat × (Instr × Nat)) := [(96, (.goto 4, 3)), (99, (.iconst 1, 1)), (100, (.iload_n 1, 1)), (101, (.invokevirtual 151, 3)), (104, (.ifCond .ne 5, 3)), (107, (.iconst 0, 1)), (108, (.ireturn, 1)), (109, (.aload_n 0, 1)), (110, (.getfield 19, 3)), (113, (.aload_n 0, 1))]
theorem td_M_readWord_5 : ∀ q ∈ tb_M_readWord_5, decode prog_8_method_30_code q.1 = .ok q.2 := by decide +kernel
def tb_M_readWord_6 : List (Nat × (Instr × Nat)) := [(114, (.getfield 136, 3)), (117, (.iconst 1, 1)), (118, (.isub, 1)), (119, (.iload_n 3, 1)), (120, (.iconst 4, 1)), (121, (.if_icmp .ne 7, 3)), (124, (.lconst 1, 1)), (125, (.goto 4, 3)), (128, (.lconst 0, 1)), (129, (.lastore, 1))]
theorem td_M_readWord_6 : ∀ q ∈ tb_M_readWord_6, decode prog_8_method_30_code q.1 = .ok q.2 := by decide +kernel
def tb_M_readWord_7 : List (Nat × (Instr × Nat)) := [(130, (.aload_n 0, 1)), (131, (.iload_n 2, 1)), (132, (.putfield 148, 3)), (135, (.iconst 1, 1)), (136, (.ireturn, 1)), (137, (.aload_n 0, 1)), (138, (.getfield 171, 3)), (141, (.istore 4, 2)), (143, (.aload_n 0, 1)), (144, (.aload_n 0, 1))]
theorem td_M_readWord_7 : ∀ q ∈ tb_M_readWord_7, decode prog_8_method_30_code q.1 = .ok q.2 := by decide +kernel
def tb_M_readWord_8 : List (Nat × (Instr × Nat)) := [(145, (.getfield 148, 3)), (148, (.iload_n 2, 1)), (149, (.invokevirtual 185, 3)), (152, (.istore 5, 2)), (154, (.aload_n 0, 1)), (155, (.getfield 171, 3)), (158, (.istore 6, 2)), (160, (.aload_n 0, 1)), (161, (.iload 4, 2)), (163, (.putfield 171, 3))]
theorem td_M_readWord_8 : ∀ q ∈ tb_M_readWord_8, decode prog_8_method_30_code q.1 = .ok q.2 := by decide +kernel
def tb_M_readWord_9 : List (Nat × (Instr × Nat)) := [(166, (.iload 5, 2)), (168, (.ifCond .ne 10, 3)), (171, (.aload_n 0, 1)), (172, (.iconst 2, 1)), (173, (.iload_n 1, 1)), (174, (.invokevirtual 139, 3)), (177, (.ireturn, 1)), (178, (.aload_n 0, 1)), (179, (.iconst 2, 1)), (180, (.iload_n 1, 1))]
theorem td_M_readWord_9 : ∀ q ∈ tb_M_readWord_9, decode prog_8_method_30_code q.1 = .ok q.2 := by decide +kernel
def tb_M_readWord_10 : List (Nat × (Instr × Nat)) := [(181, (.invokevirtual 151, 3)), (184, (.ifCond .ne 5, 3)), (187, (.iconst 0, 1)), (188, (.ireturn, 1)), (189, (.iload 5, 2)), (191, (.iconst 2, 1)), (192, (.if_icmp .ne 10, 3)), (195, (.aload_n 0, 1)), (196, (.iconst 4, 1)), (197, (.iload_n 1, 1))]
theorem td_M_readWord_10 : ∀ q ∈ tb_M_readWord_10, decode prog_8_method_30_code q.1 = .ok q.2 := by decide +kernel
def tb_M_readWord_11 : List (Nat × (Instr × Nat)) := [(198, (.invokevirtual 139, 3)), (201, (.ireturn, 1)), (202, (.aload_n 0, 1)), (203, (.iload 6, 2)), (205, (.putfield 171, 3)), (208, (.aload_n 0, 1)), (209, (.getfield 136, 3)), (212, (.iconst 1, 1)), (213, (.isub, 1)), (214, (.istore 7, 2))]
theorem td_M_readWord_11 : ∀ q ∈ tb_M_readWord_11, decode prog_8_method_30_code q.1 = .ok q.2 := by decide +kernel
def tb_M_readWord_12 : List (Nat × (Instr × Nat)) := [(216, (.aload_n 0, 1)), (217, (.getfield 16, 3)), (220, (.iload 7, 2)), (222, (.aload_n 0, 1)), (223, (.getfield 174, 3)), (226, (.ifCond .eq 7, 3)), (229, (.iconst 3, 1)), (230, (.goto 4, 3)), (233, (.iconst 2, 1)), (234, (.iastore, 1))]
theorem td_M_readWord_12 : ∀ q ∈ tb_M_readWord_12, decode prog_8_method_30_code q.1 = .ok q.2 := by decide +kernel
def tb_M_readWord_13 : List (Nat × (Instr × Nat)) := [(235, (.aload_n 0, 1)), (236, (.getfield 19, 3)), (239, (.iload 7, 2)), (241, (.aload_n 0, 1)), (242, (.getfield 178, 3)), (245, (.lastore, 1)), (246, (.aload_n 0, 1)), (247, (.iload_n 2, 1)), (248, (.putfield 148, 3)), (251, (.iload 5, 2))]
theorem td_M_readWord_13 : ∀ q ∈ tb_M_readWord_13, decode prog_8_method_30_code q.1 = .ok q.2 := by decide +kernel
def tb_M_readWord_14 : List (Nat × (Instr × Nat)) := [(253, (.iconst 3, 1)), (254, (.if_icmp .ne 11, 3)), (257, (.aload_n 0, 1)), (258, (.iload_n 1, 1)), (259, (.invokevirtual 188, 3)), (262, (.goto 4, 3)), (265, (.iconst (-1), 1)), (266, (.istore 8, 2)), (268, (.iload 8, 2)), (270, (.iconst (-1), 1))]
theorem td_M_readWord_14 : ∀ q ∈ tb_M_readWord_14, decode prog_8_method_30_code q.1 = .ok q.2 := by decide +kernel
def tb_M_readWord_15 : List (Nat × (Instr × Nat)) := [(271, (.if_icmp .eq 57, 3)), (274, (.aload_n 0, 1)), (275, (.iload 8, 2)), (277, (.bipush 8, 2)), (279, (.invokevirtual 182, 3)), (282, (.ifCond .eq 46, 3)), (285, (.aload_n 0, 1)), (286, (.getfield 16, 3)), (289, (.iload 7, 2)), (291, (.bipush 8, 2))]
theorem td_M_readWord_15 : ∀ q ∈ tb_M_readWord_15, decode prog_8_method_30_code q.1 = .ok q.2 := by decide +kernel
def tb_M_readWord_16 : List (Nat × (Instr × Nat)) := [(293, (.iastore, 1)), (294, (.aload_n 0, 1)), (295, (.getfield 19, 3)), (298, (.iload 7, 2)), (300, (.ldc2_w 191, 3)), (303, (.aload_n 0, 1)), (304, (.aload_n 0, 1)), (305, (.iload_n 2, 1)), (306, (.invokevirtual 127, 3)), (309, (.invokevirtual 193, 3))]
theorem td_M_readWord_16 : ∀ q ∈ tb_M_readWord_16, decode prog_8_method_30_code q.1 = .ok q.2 := by decide +kernel
def tb_M_readWord_17 : List (Nat × (Instr × Nat)) := [(312, (.lmul, 1)), (313, (.aload_n 0, 1)), (314, (.iload_n 1, 1)), (315, (.invokevirtual 193, 3)), (318, (.ladd, 1)), (319, (.lastore, 1)), (320, (.aload_n 0, 1)), (321, (.iload 8, 2)), (323, (.iconst 1, 1)), (324, (.iadd, 1))]
theorem td_M_readWord_17 : ∀ q ∈ tb_M_readWord_17, decode prog_8_method_30_code q.1 = .ok q.2 := by decide +kernel
def tb_M_readWord_18 : List (Nat × (Instr × Nat)) := [(325, (.putfield 148, 3)), (328, (.iconst 1, 1)), (329, (.ireturn, 1))]
theorem td_M_readWord_18 : ∀ q ∈ tb_M_readWord_18, decode prog_8_method_30_code q.1 = .ok q.2 := by decide +kernel
def tb_M_readWord : Nat → Option (Instr × Nat) := (am_nd 166 (am_nd 79 (am_nd 37 (am_nd 19 (am_look tb_M_readWord_0) (am_look tb_M_readWord_1)) (am_nd 57 (am_look tb_M_readWord_2) (am_look tb_M_readWord_3))) (am_nd 114 (am_nd 96 (am_look tb_M_readWord_4) (am_look tb_M_readWord_5)) (am_nd 130 (am_look tb_M_readWord_6) (am_nd 145 (am_look tb_M_readWord_7) (am_look tb_M_readWord_8))))) (am_nd 253 (am_nd 198 (am_nd 181 (am_look tb_M_readWord_9) (am_look tb_M_readWord_10)) (am_nd 216 (am_look tb_M_readWord_11) (am_nd 235 (am_look tb_M_readWord_12) (am_look tb_M_readWord_13)))) (am_nd 293 (am_nd 271 (am_look tb_M_readWord_14) (am_look tb_M_readWord_15)) (am_nd 312 (am_look tb_M_readWord_16) (am_nd 325 (am_look tb_M_readWord_17) (am_look tb_M_readWord_18))))))
theorem td_M_readWord : am_dok prog_8_method_30_code tb_M_readWord := (am_dok_nd (am_dok_nd (am_dok_nd (am_dok_nd (am_dok_lf td_M_readWord_0) (am_dok_lf td_M_readWord_1)) (am_dok_nd (am_dok_lf td_M_readWord_2) (am_dok_lf td_M_readWord_3))) (am_dok_nd (am_dok_nd (am_dok_lf td_M_readWord_4) (am_dok_lf td_M_readWord_5)) (am_dok_nd (am_dok_lf td_M_readWord_6) (am_dok_nd (am_dok_lf td_M_readWord_7) (am_dok_lf td_M_readWord_8))))) (am_dok_nd (am_dok_nd (am_dok_nd (am_dok_lf td_M_readWord_9) (am_dok_lf td_M_readWord_10)) (am_dok_nd (am_dok_lf td_M_readWord_11) (am_dok_nd (am_dok_lf td_M_readWord_12) (am_dok_lf td_M_readWord_13)))) (am_dok_nd (am_dok_nd (am_dok_lf td_M_readWord_14) (am_dok_lf td_M_readWord_15)) (am_dok_nd (am_dok_lf td_M_readWord_16) (am_dok_nd (am_dok_lf td_M_readWord_17) (am_dok_lf td_M_readWord_18))))))
def m_M_readWord : am_M := (⟨"SyntaxRowsModel", "readWord", "()Z"⟩, prog_8_method_30_code, 9, (some .boolean), 6, 0, tb_M_readWord)
set_option maxRecDepth 100000 in
theorem ok_M_readWord : am_ok m_M_readWord := ⟨td_M_readWord, am_in 1281 rfl rfl, am_in 103 (by decide +kernel) rfl, by decide, ⟨by decide, by decide, by decide +kernel⟩, rfl, by decide⟩
theorem oi_M_readWord : am_inst m_M_readWord := ⟨am_in 1280 (by decide +kernel) rfl, am_in 68 (by decide +kernel) rfl⟩
def tb_M_asNumber_0 : List (Nat × (Instr × Nat)) := [(0, (.iload_n 1, 1)), (1, (.istore_n 3, 1)), (2, (.iload_n 3, 1)), (3, (.iload_n 2, 1)), (4, (.if_icmp .ge 31, 3)), (7, (.aload_n 0, 1)), (8, (.getfield 7, 3)), (11, (.iload_n 3, 1)), (12, (.iaload, 1)), (13, (.bipush 43, 2))]
theorem td_M_asNumber_0 : ∀ q ∈ tb_M_asNumber_0, decode prog_8_method_29_code q.1 = .ok q.2 := by decide +kernel
def tb_M_asNumber_1 : List (Nat × (Instr × Nat)) := [(15, (.if_icmp .eq 14, 3)), (18, (.aload_n 0, 1)), (19, (.getfield 7, 3)), (22, (.iload_n 3, 1)), (23, (.iaload, 1)), (24, (.bipush 45, 2)), (26, (.if_icmp .ne 9, 3)), (29, (.iinc 3 1, 3)), (32, (.goto (-30), 3)), (35, (.iload_n 3, 1))]
theorem td_M_asNumber_1 : ∀ q ∈ tb_M_asNumber_1, decode prog_8_method_29_code q.1 = .ok q.2 := by decide +kernel
def tb_M_asNumber_2 : List (Nat × (Instr × Nat)) := [(36, (.iload_n 1, 1)), (37, (.isub, 1)), (38, (.istore 4, 2)), (40, (.iload 4, 2)), (42, (.ifCond .le 18, 3)), (45, (.aload_n 0, 1)), (46, (.getfield 7, 3)), (49, (.iload_n 1, 1)), (50, (.iaload, 1)), (51, (.bipush 45, 2))]
theorem td_M_asNumber_2 : ∀ q ∈ tb_M_asNumber_2, decode prog_8_method_29_code q.1 = .ok q.2 := by decide +kernel
def tb_M_asNumber_3 : List (Nat × (Instr × Nat)) := [(53, (.if_icmp .ne 7, 3)), (56, (.iconst 1, 1)), (57, (.goto 4, 3)), (60, (.iconst 0, 1)), (61, (.istore 5, 2)), (63, (.lconst 0, 1)), (64, (.lstore 6, 2)), (66, (.iconst 0, 1)), (67, (.istore 8, 2)), (69, (.iconst 0, 1))]
theorem td_M_asNumber_3 : ∀ q ∈ tb_M_asNumber_3, decode prog_8_method_29_code q.1 = .ok q.2 := by decide +kernel
def tb_M_asNumber_4 : List (Nat × (Instr × Nat)) := [(70, (.istore 9, 2)), (72, (.aload_n 0, 1)), (73, (.iconst 0, 1)), (74, (.putfield 174, 3)), (77, (.iload_n 3, 1)), (78, (.iload_n 2, 1)), (79, (.if_icmp .ge 129, 3)), (82, (.aload_n 0, 1)), (83, (.getfield 7, 3)), (86, (.iload_n 3, 1))]
theorem td_M_asNumber_4 : ∀ q ∈ tb_M_asNumber_4, decode prog_8_method_29_code q.1 = .ok q.2 := by decide +kernel
def tb_M_asNumber_5 : List (Nat × (Instr × Nat)) := [(87, (.iaload, 1)), (88, (.bipush 46, 2)), (90, (.if_icmp .ne 20, 3)), (93, (.aload_n 0, 1)), (94, (.getfield 174, 3)), (97, (.ifCond .eq 5, 3)), (100, (.iconst 0, 1)), (101, (.ireturn, 1)), (102, (.aload_n 0, 1)), (103, (.iconst 1, 1))]
theorem td_M_asNumber_5 : ∀ q ∈ tb_M_asNumber_5, decode prog_8_method_29_code q.1 = .ok q.2 := by decide +kernel
def tb_M_asNumber_6 : List (Nat × (Instr × Nat)) := [(104, (.putfield 174, 3)), (107, (.goto 95, 3)), (110, (.aload_n 0, 1)), (111, (.getfield 7, 3)), (114, (.iload_n 3, 1)), (115, (.iaload, 1)), (116, (.invokestatic 73, 3)), (119, (.ifCond .eq 81, 3)), (122, (.aload_n 0, 1)), (123, (.getfield 174, 3))]
theorem td_M_asNumber_6 : ∀ q ∈ tb_M_asNumber_6, decode prog_8_method_29_code q.1 = .ok q.2 := by decide +kernel
def tb_M_asNumber_7 : List (Nat × (Instr × Nat)) := [(126, (.ifCond .eq 8, 3)), (129, (.iload 8, 2)), (131, (.goto 7, 3)), (134, (.iload 8, 2)), (136, (.iconst 1, 1)), (137, (.iadd, 1)), (138, (.istore 8, 2)), (140, (.aload_n 0, 1)), (141, (.getfield 174, 3)), (144, (.ifCond .eq 10, 3))]
theorem td_M_asNumber_7 : ∀ q ∈ tb_M_asNumber_7, decode prog_8_method_29_code q.1 = .ok q.2 := by decide +kernel
def tb_M_asNumber_8 : List (Nat × (Instr × Nat)) := [(147, (.iload 9, 2)), (149, (.iconst 1, 1)), (150, (.iadd, 1)), (151, (.goto 5, 3)), (154, (.iload 9, 2)), (156, (.istore 9, 2)), (158, (.iload 8, 2)), (160, (.bipush 9, 2)), (162, (.if_icmp .gt 10, 3)), (165, (.iload 9, 2))]
theorem td_M_asNumber_8 : ∀ q ∈ tb_M_asNumber_8, decode prog_8_method_29_code q.1 = .ok q.2 := by decide +kernel
def tb_M_asNumber_9 : List (Nat × (Instr × Nat)) := [(167, (.bipush 6, 2)), (169, (.if_icmp .le 8, 3)), (172, (.lload 6, 2)), (174, (.goto 21, 3)), (177, (.ldc2_w 120, 3)), (180, (.lload 6, 2)), (182, (.lmul, 1)), (183, (.aload_n 0, 1)), (184, (.getfield 7, 3)), (187, (.iload_n 3, 1))]
theorem td_M_asNumber_9 : ∀ q ∈ tb_M_asNumber_9, decode prog_8_method_29_code q.1 = .ok q.2 := by decide +kernel
def tb_M_asNumber_10 : List (Nat × (Instr × Nat)) := [(188, (.iaload, 1)), (189, (.i2l, 1)), (190, (.ladd, 1)), (191, (.ldc2_w 122, 3)), (194, (.lsub, 1)), (195, (.lstore 6, 2)), (197, (.goto 5, 3)), (200, (.iconst 0, 1)), (201, (.ireturn, 1)), (202, (.iinc 3 1, 3))]
theorem td_M_asNumber_10 : ∀ q ∈ tb_M_asNumber_10, decode prog_8_method_29_code q.1 = .ok q.2 := by decide +kernel
def tb_M_asNumber_11 : List (Nat × (Instr × Nat)) := [(205, (.goto (-128), 3)), (208, (.iload 8, 2)), (210, (.iload 9, 2)), (212, (.iadd, 1)), (213, (.ifCond .ne 5, 3)), (216, (.iconst 0, 1)), (217, (.ireturn, 1)), (218, (.iload 8, 2)), (220, (.bipush 9, 2)), (222, (.if_icmp .gt 10, 3))]
theorem td_M_asNumber_11 : ∀ q ∈ tb_M_asNumber_11, decode prog_8_method_29_code q.1 = .ok q.2 := by decide +kernel
def tb_M_asNumber_12 : List (Nat × (Instr × Nat)) := [(225, (.iload 9, 2)), (227, (.bipush 6, 2)), (229, (.if_icmp .le 5, 3)), (232, (.iconst 2, 1)), (233, (.ireturn, 1)), (234, (.iload 9, 2)), (236, (.istore 10, 2)), (238, (.iload 10, 2)), (240, (.bipush 6, 2)), (242, (.if_icmp .ge 24, 3))]
theorem td_M_asNumber_12 : ∀ q ∈ tb_M_asNumber_12, decode prog_8_method_29_code q.1 = .ok q.2 := by decide +kernel
def tb_M_asNumber_13 : List (Nat × (Instr × Nat)) := [(245, (.aload_n 0, 1)), (246, (.getfield 174, 3)), (249, (.ifCond .eq 17, 3)), (252, (.ldc2_w 120, 3)), (255, (.lload 6, 2)), (257, (.lmul, 1)), (258, (.lstore 6, 2)), (260, (.iinc 10 1, 3)), (263, (.goto (-25), 3)), (266, (.aload_n 0, 1))]
theorem td_M_asNumber_13 : ∀ q ∈ tb_M_asNumber_13, decode prog_8_method_29_code q.1 = .ok q.2 := by decide +kernel
def tb_M_asNumber_14 : List (Nat × (Instr × Nat)) := [(267, (.iload 5, 2)), (269, (.ifCond .eq 9, 3)), (272, (.lload 6, 2)), (274, (.lneg, 1)), (275, (.goto 5, 3)), (278, (.lload 6, 2)), (280, (.putfield 178, 3)), (283, (.aload_n 0, 1)), (284, (.iload 4, 2)), (286, (.iconst 1, 1))]
theorem td_M_asNumber_14 : ∀ q ∈ tb_M_asNumber_14, decode prog_8_method_29_code q.1 = .ok q.2 := by decide +kernel
def tb_M_asNumber_15 : List (Nat × (Instr × Nat)) := [(287, (.if_icmp .le 12, 3)), (290, (.aload_n 0, 1)), (291, (.getfield 171, 3)), (294, (.iconst 1, 1)), (295, (.ior, 1)), (296, (.goto 7, 3)), (299, (.aload_n 0, 1)), (300, (.getfield 171, 3)), (303, (.putfield 171, 3)), (306, (.iload 4, 2))]
theorem td_M_asNumber_15 : ∀ q ∈ tb_M_asNumber_15, decode prog_8_method_29_code q.1 = .ok q.2 := by decide +kernel
def tb_M_asNumber_16 : List (Nat × (Instr × Nat)) := [(308, (.ifCond .ne 14, 3)), (311, (.aload_n 0, 1)), (312, (.getfield 174, 3)), (315, (.ifCond .ne 7, 3)), (318, (.iconst 3, 1)), (319, (.goto 4, 3)), (322, (.iconst 1, 1)), (323, (.ireturn, 1))]
theorem td_M_asNumber_16 : ∀ q ∈ tb_M_asNumber_16, decode prog_8_method_29_code q.1 = .ok q.2 := by decide +kernel
def tb_M_asNumber : Nat → Option (Instr × Nat) := (am_nd 147 (am_nd 70 (am_nd 36 (am_nd 15 (am_look tb_M_asNumber_0) (am_look tb_M_asNumber_1)) (am_nd 53 (am_look tb_M_asNumber_2) (am_look tb_M_asNumber_3))) (am_nd 104 (am_nd 87 (am_look tb_M_asNumber_4) (am_look tb_M_asNumber_5)) (am_nd 126 (am_look tb_M_asNumber_6) (am_look tb_M_asNumber_7)))) (am_nd 225 (am_nd 188 (am_nd 167 (am_look tb_M_asNumber_8) (am_look tb_M_asNumber_9)) (am_nd 205 (am_look tb_M_asNumber_10) (am_look tb_M_asNumber_11))) (am_nd 267 (am_nd 245 (am_look tb_M_asNumber_12) (am_look tb_M_asNumber_13)) (am_nd 287 (am_look tb_M_asNumber_14) (am_nd 308 (am_look tb_M_asNumber_15) (am_look tb_M_asNumber_16))))))
theorem td_M_asNumber : am_dok prog_8_method_29_code tb_M_asNumber := (am_dok_nd (am_dok_nd (am_dok_nd (am_dok_nd (am_dok_lf td_M_asNumber_0) (am_dok_lf td_M_asNumber_1)) (am_dok_nd (am_dok_lf td_M_asNumber_2) (am_dok_lf td_M_asNumber_3))) (am_dok_nd (am_dok_nd (am_dok_lf td_M_asNumber_4) (am_dok_lf td_M_asNumber_5)) (am_dok_nd (am_dok_lf td_M_asNumber_6) (am_dok_lf td_M_asNumber_7)))) (am_dok_nd (am_dok_nd (am_dok_nd (am_dok_lf td_M_asNumber_8) (am_dok_lf td_M_asNumber_9)) (am_dok_nd (am_dok_lf td_M_asNumber_10) (am_dok_lf td_M_asNumber_11))) (am_dok_nd (am_dok_nd (am_dok_lf td_M_asNumber_12) (am_dok_lf td_M_asNumber_13)) (am_dok_nd (am_dok_lf td_M_asNumber_14) (am_dok_nd (am_dok_lf td_M_asNumber_15) (am_dok_lf td_M_asNumber_16))))))
def m_M_asNumber : am_M := (⟨"SyntaxRowsModel", "asNumber", "(II)I"⟩, prog_8_method_29_code, 11, (some .int), 6, 2, tb_M_asNumber)
set_option maxRecDepth 100000 in
theorem ok_M_asNumber : am_ok m_M_asNumber := ⟨td_M_asNumber, am_in 1285 rfl rfl, am_in 103 (by decide +kernel) rfl, by decide, ⟨by decide, by decide, by decide +kernel⟩, rfl, by decide⟩
theorem oi_M_asNumber : am_inst m_M_asNumber := ⟨am_in 1284 (by decide +kernel) rfl, am_in 69 (by decide +kernel) rfl⟩
