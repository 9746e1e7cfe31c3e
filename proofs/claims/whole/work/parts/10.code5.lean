/-! decoded code of methods, printed by wip/gen/gen06.py -/
def tb_M_deliver_0 : List (Nat × (Instr × Nat)) := [(0, (.aload_n 0, 1)), (1, (.getfield 204, 3)), (4, (.ifCond .ne 5, 3)), (7, (.iconst 1, 1)), (8, (.ireturn, 1)), (9, (.aload_n 0, 1)), (10, (.getfield 47, 3)), (13, (.aload_n 0, 1)), (14, (.getfield 204, 3)), (17, (.iconst 1, 1))]
theorem td_M_deliver_0 : ∀ q ∈ tb_M_deliver_0, decode prog_8_method_34_code q.1 = .ok q.2 := by decide +kernel
def tb_M_deliver_1 : List (Nat × (Instr × Nat)) := [(18, (.isub, 1)), (19, (.iaload, 1)), (20, (.istore_n 2, 1)), (21, (.aload_n 0, 1)), (22, (.getfield 16, 3)), (25, (.iload_n 2, 1)), (26, (.iaload, 1)), (27, (.bipush 6, 2)), (29, (.if_icmp .ne 12, 3)), (32, (.aload_n 0, 1))]
theorem td_M_deliver_1 : ∀ q ∈ tb_M_deliver_1, decode prog_8_method_34_code q.1 = .ok q.2 := by decide +kernel
def tb_M_deliver_2 : List (Nat × (Instr × Nat)) := [(33, (.iload_n 2, 1)), (34, (.iload_n 1, 1)), (35, (.invokevirtual 200, 3)), (38, (.goto 32, 3)), (41, (.aload_n 0, 1)), (42, (.iload_n 2, 1)), (43, (.aload_n 0, 1)), (44, (.getfield 50, 3)), (47, (.aload_n 0, 1)), (48, (.getfield 204, 3))]
theorem td_M_deliver_2 : ∀ q ∈ tb_M_deliver_2, decode prog_8_method_34_code q.1 = .ok q.2 := by decide +kernel
def tb_M_deliver_3 : List (Nat × (Instr × Nat)) := [(51, (.iconst 1, 1)), (52, (.isub, 1)), (53, (.iaload, 1)), (54, (.iload_n 1, 1)), (55, (.invokevirtual 207, 3)), (58, (.aload_n 0, 1)), (59, (.getfield 50, 3)), (62, (.aload_n 0, 1)), (63, (.getfield 204, 3)), (66, (.iconst 1, 1))]
theorem td_M_deliver_3 : ∀ q ∈ tb_M_deliver_3, decode prog_8_method_34_code q.1 = .ok q.2 := by decide +kernel
def tb_M_deliver_4 : List (Nat × (Instr × Nat)) := [(67, (.isub, 1)), (68, (.iconst (-1), 1)), (69, (.iastore, 1)), (70, (.iconst 0, 1)), (71, (.ireturn, 1))]
theorem td_M_deliver_4 : ∀ q ∈ tb_M_deliver_4, decode prog_8_method_34_code q.1 = .ok q.2 := by decide +kernel
def tb_M_deliver : Nat → Option (Instr × Nat) := (am_nd 33 (am_nd 18 (am_look tb_M_deliver_0) (am_look tb_M_deliver_1)) (am_nd 51 (am_look tb_M_deliver_2) (am_nd 67 (am_look tb_M_deliver_3) (am_look tb_M_deliver_4))))
theorem td_M_deliver : am_dok prog_8_method_34_code tb_M_deliver := (am_dok_nd (am_dok_nd (am_dok_lf td_M_deliver_0) (am_dok_lf td_M_deliver_1)) (am_dok_nd (am_dok_lf td_M_deliver_2) (am_dok_nd (am_dok_lf td_M_deliver_3) (am_dok_lf td_M_deliver_4))))
def m_M_deliver : am_M := (⟨"SyntaxRowsModel", "deliver", "(I)Z"⟩, prog_8_method_34_code, 3, (some .boolean), 6, 1, tb_M_deliver)
set_option maxRecDepth 100000 in
theorem ok_M_deliver : am_ok m_M_deliver := ⟨td_M_deliver, am_in 1290 rfl rfl, am_in 103 (by decide +kernel) rfl, by decide, ⟨by decide, by decide, by decide +kernel⟩, rfl, by decide⟩
theorem oi_M_deliver : am_inst m_M_deliver := ⟨am_in 1289 (by decide +kernel) rfl, am_in 70 (by decide +kernel) rfl⟩
def tb_M_append_0 : List (Nat × (Instr × Nat)) := [(0, (.aload_n 0, 1)), (1, (.getfield 23, 3)), (4, (.iload_n 1, 1)), (5, (.iaload, 1)), (6, (.iconst (-1), 1)), (7, (.if_icmp .ne 13, 3)), (10, (.aload_n 0, 1)), (11, (.getfield 23, 3)), (14, (.iload_n 1, 1)), (15, (.iload_n 2, 1))]
theorem td_M_append_0 : ∀ q ∈ tb_M_append_0, decode prog_8_method_32_code q.1 = .ok q.2 := by decide +kernel
def tb_M_append_1 : List (Nat × (Instr × Nat)) := [(16, (.iastore, 1)), (17, (.goto 15, 3)), (20, (.aload_n 0, 1)), (21, (.getfield 29, 3)), (24, (.aload_n 0, 1)), (25, (.getfield 26, 3)), (28, (.iload_n 1, 1)), (29, (.iaload, 1)), (30, (.iload_n 2, 1)), (31, (.iastore, 1))]
theorem td_M_append_1 : ∀ q ∈ tb_M_append_1, decode prog_8_method_32_code q.1 = .ok q.2 := by decide +kernel
def tb_M_append_2 : List (Nat × (Instr × Nat)) := [(32, (.aload_n 0, 1)), (33, (.getfield 26, 3)), (36, (.iload_n 1, 1)), (37, (.iload_n 2, 1)), (38, (.iastore, 1)), (39, (.aload_n 0, 1)), (40, (.getfield 29, 3)), (43, (.iload_n 2, 1)), (44, (.iconst (-1), 1)), (45, (.iastore, 1))]
theorem td_M_append_2 : ∀ q ∈ tb_M_append_2, decode prog_8_method_32_code q.1 = .ok q.2 := by decide +kernel
def tb_M_append_3 : List (Nat × (Instr × Nat)) := [(46, (.aload_n 0, 1)), (47, (.getfield 32, 3)), (50, (.iload_n 1, 1)), (51, (.dup2, 1)), (52, (.iaload, 1)), (53, (.iconst 1, 1)), (54, (.iadd, 1)), (55, (.iastore, 1)), (56, (.return_, 1))]
theorem td_M_append_3 : ∀ q ∈ tb_M_append_3, decode prog_8_method_32_code q.1 = .ok q.2 := by decide +kernel
def tb_M_append : Nat → Option (Instr × Nat) := (am_nd 32 (am_nd 16 (am_look tb_M_append_0) (am_look tb_M_append_1)) (am_nd 46 (am_look tb_M_append_2) (am_look tb_M_append_3)))
theorem td_M_append : am_dok prog_8_method_32_code tb_M_append := (am_dok_nd (am_dok_nd (am_dok_lf td_M_append_0) (am_dok_lf td_M_append_1)) (am_dok_nd (am_dok_lf td_M_append_2) (am_dok_lf td_M_append_3)))
def m_M_append : am_M := (⟨"SyntaxRowsModel", "append", "(II)V"⟩, prog_8_method_32_code, 3, none, 6, 2, tb_M_append)
set_option maxRecDepth 100000 in
theorem ok_M_append : am_ok m_M_append := ⟨td_M_append, am_in 1294 rfl rfl, am_in 103 (by decide +kernel) rfl, by decide, ⟨by decide, by decide, by decide +kernel⟩, rfl, by decide⟩
theorem oi_M_append : am_inst m_M_append := ⟨am_in 1293 (by decide +kernel) rfl, am_in 71 (by decide +kernel) rfl⟩
def tb_M_enter_0 : List (Nat × (Instr × Nat)) := [(0, (.iconst (-1), 1)), (1, (.istore 4, 2)), (3, (.aload_n 0, 1)), (4, (.getfield 23, 3)), (7, (.iload_n 1, 1)), (8, (.iaload, 1)), (9, (.istore 5, 2)), (11, (.iload 5, 2)), (13, (.iconst (-1), 1)), (14, (.if_icmp .eq 34, 3))]
theorem td_M_enter_0 : ∀ q ∈ tb_M_enter_0, decode prog_8_method_33_code q.1 = .ok q.2 := by decide +kernel
def tb_M_enter_1 : List (Nat × (Instr × Nat)) := [(17, (.aload_n 0, 1)), (18, (.iload 5, 2)), (20, (.iload_n 2, 1)), (21, (.invokevirtual 197, 3)), (24, (.ifCond .ne 24, 3)), (27, (.aload_n 0, 1)), (28, (.getfield 29, 3)), (31, (.iload 5, 2)), (33, (.iaload, 1)), (34, (.istore 4, 2))]
theorem td_M_enter_1 : ∀ q ∈ tb_M_enter_1, decode prog_8_method_33_code q.1 = .ok q.2 := by decide +kernel
def tb_M_enter_2 : List (Nat × (Instr × Nat)) := [(36, (.aload_n 0, 1)), (37, (.getfield 29, 3)), (40, (.iload 4, 2)), (42, (.iaload, 1)), (43, (.istore 5, 2)), (45, (.goto (-34), 3)), (48, (.iload 5, 2)), (50, (.iconst (-1), 1)), (51, (.if_icmp .ne 25, 3)), (54, (.aload_n 0, 1))]
theorem td_M_enter_2 : ∀ q ∈ tb_M_enter_2, decode prog_8_method_33_code q.1 = .ok q.2 := by decide +kernel
def tb_M_enter_3 : List (Nat × (Instr × Nat)) := [(55, (.getfield 16, 3)), (58, (.iload_n 3, 1)), (59, (.iaload, 1)), (60, (.ifCond .eq 15, 3)), (63, (.aload_n 0, 1)), (64, (.iload_n 1, 1)), (65, (.iload_n 2, 1)), (66, (.invokevirtual 200, 3)), (69, (.aload_n 0, 1)), (70, (.iload_n 1, 1))]
theorem td_M_enter_3 : ∀ q ∈ tb_M_enter_3, decode prog_8_method_33_code q.1 = .ok q.2 := by decide +kernel
def tb_M_enter_4 : List (Nat × (Instr × Nat)) := [(71, (.iload_n 3, 1)), (72, (.invokevirtual 200, 3)), (75, (.return_, 1)), (76, (.aload_n 0, 1)), (77, (.aload_n 0, 1)), (78, (.getfield 171, 3)), (81, (.iconst 2, 1)), (82, (.ior, 1)), (83, (.putfield 171, 3)), (86, (.aload_n 0, 1))]
theorem td_M_enter_4 : ∀ q ∈ tb_M_enter_4, decode prog_8_method_33_code q.1 = .ok q.2 := by decide +kernel
def tb_M_enter_5 : List (Nat × (Instr × Nat)) := [(87, (.getfield 29, 3)), (90, (.iload 5, 2)), (92, (.iaload, 1)), (93, (.istore 6, 2)), (95, (.aload_n 0, 1)), (96, (.getfield 29, 3)), (99, (.iload 6, 2)), (101, (.iaload, 1)), (102, (.istore 7, 2)), (104, (.aload_n 0, 1))]
theorem td_M_enter_5 : ∀ q ∈ tb_M_enter_5, decode prog_8_method_33_code q.1 = .ok q.2 := by decide +kernel
def tb_M_enter_6 : List (Nat × (Instr × Nat)) := [(105, (.getfield 16, 3)), (108, (.iload_n 3, 1)), (109, (.iaload, 1)), (110, (.ifCond .ne 69, 3)), (113, (.iload 4, 2)), (115, (.iconst (-1), 1)), (116, (.if_icmp .ne 14, 3)), (119, (.aload_n 0, 1)), (120, (.getfield 23, 3)), (123, (.iload_n 1, 1))]
theorem td_M_enter_6 : ∀ q ∈ tb_M_enter_6, decode prog_8_method_33_code q.1 = .ok q.2 := by decide +kernel
def tb_M_enter_7 : List (Nat × (Instr × Nat)) := [(124, (.iload 7, 2)), (126, (.iastore, 1)), (127, (.goto 12, 3)), (130, (.aload_n 0, 1)), (131, (.getfield 29, 3)), (134, (.iload 4, 2)), (136, (.iload 7, 2)), (138, (.iastore, 1)), (139, (.aload_n 0, 1)), (140, (.getfield 26, 3))]
theorem td_M_enter_7 : ∀ q ∈ tb_M_enter_7, decode prog_8_method_33_code q.1 = .ok q.2 := by decide +kernel
def tb_M_enter_8 : List (Nat × (Instr × Nat)) := [(143, (.iload_n 1, 1)), (144, (.iload 7, 2)), (146, (.iconst (-1), 1)), (147, (.if_icmp .ne 8, 3)), (150, (.iload 4, 2)), (152, (.goto 9, 3)), (155, (.aload_n 0, 1)), (156, (.getfield 26, 3)), (159, (.iload_n 1, 1)), (160, (.iaload, 1))]
theorem td_M_enter_8 : ∀ q ∈ tb_M_enter_8, decode prog_8_method_33_code q.1 = .ok q.2 := by decide +kernel
def tb_M_enter_9 : List (Nat × (Instr × Nat)) := [(161, (.iastore, 1)), (162, (.aload_n 0, 1)), (163, (.getfield 32, 3)), (166, (.iload_n 1, 1)), (167, (.aload_n 0, 1)), (168, (.getfield 32, 3)), (171, (.iload_n 1, 1)), (172, (.iaload, 1)), (173, (.iconst 2, 1)), (174, (.isub, 1))]
theorem td_M_enter_9 : ∀ q ∈ tb_M_enter_9, decode prog_8_method_33_code q.1 = .ok q.2 := by decide +kernel
def tb_M_enter_10 : List (Nat × (Instr × Nat)) := [(175, (.iastore, 1)), (176, (.goto 41, 3)), (179, (.aload_n 0, 1)), (180, (.getfield 29, 3)), (183, (.iload 5, 2)), (185, (.iload_n 3, 1)), (186, (.iastore, 1)), (187, (.aload_n 0, 1)), (188, (.getfield 29, 3)), (191, (.iload_n 3, 1))]
theorem td_M_enter_10 : ∀ q ∈ tb_M_enter_10, decode prog_8_method_33_code q.1 = .ok q.2 := by decide +kernel
def tb_M_enter_11 : List (Nat × (Instr × Nat)) := [(192, (.iload 7, 2)), (194, (.iastore, 1)), (195, (.aload_n 0, 1)), (196, (.getfield 26, 3)), (199, (.iload_n 1, 1)), (200, (.iload 7, 2)), (202, (.iconst (-1), 1)), (203, (.if_icmp .ne 7, 3)), (206, (.iload_n 3, 1)), (207, (.goto 9, 3))]
theorem td_M_enter_11 : ∀ q ∈ tb_M_enter_11, decode prog_8_method_33_code q.1 = .ok q.2 := by decide +kernel
def tb_M_enter_12 : List (Nat × (Instr × Nat)) := [(210, (.aload_n 0, 1)), (211, (.getfield 26, 3)), (214, (.iload_n 1, 1)), (215, (.iaload, 1)), (216, (.iastore, 1)), (217, (.return_, 1))]
theorem td_M_enter_12 : ∀ q ∈ tb_M_enter_12, decode prog_8_method_33_code q.1 = .ok q.2 := by decide +kernel
def tb_M_enter : Nat → Option (Instr × Nat) := (am_nd 105 (am_nd 55 (am_nd 17 (am_look tb_M_enter_0) (am_nd 36 (am_look tb_M_enter_1) (am_look tb_M_enter_2))) (am_nd 71 (am_look tb_M_enter_3) (am_nd 87 (am_look tb_M_enter_4) (am_look tb_M_enter_5)))) (am_nd 161 (am_nd 124 (am_look tb_M_enter_6) (am_nd 143 (am_look tb_M_enter_7) (am_look tb_M_enter_8))) (am_nd 192 (am_nd 175 (am_look tb_M_enter_9) (am_look tb_M_enter_10)) (am_nd 210 (am_look tb_M_enter_11) (am_look tb_M_enter_12)))))
theorem td_M_enter : am_dok prog_8_method_33_code tb_M_enter := (am_dok_nd (am_dok_nd (am_dok_nd (am_dok_lf td_M_enter_0) (am_dok_nd (am_dok_lf td_M_enter_1) (am_dok_lf td_M_enter_2))) (am_dok_nd (am_dok_lf td_M_enter_3) (am_dok_nd (am_dok_lf td_M_enter_4) (am_dok_lf td_M_enter_5)))) (am_dok_nd (am_dok_nd (am_dok_lf td_M_enter_6) (am_dok_nd (am_dok_lf td_M_enter_7) (am_dok_lf td_M_enter_8))) (am_dok_nd (am_dok_nd (am_dok_lf td_M_enter_9) (am_dok_lf td_M_enter_10)) (am_dok_nd (am_dok_lf td_M_enter_11) (am_dok_lf td_M_enter_12)))))
def m_M_enter : am_M := (⟨"SyntaxRowsModel", "enter", "(III)V"⟩, prog_8_method_33_code, 8, none, 6, 3, tb_M_enter)
set_option maxRecDepth 100000 in
theorem ok_M_enter : am_ok m_M_enter := ⟨td_M_enter, am_in 1298 rfl rfl, am_in 103 (by decide +kernel) rfl, by decide, ⟨by decide, by decide, by decide +kernel⟩, rfl, by decide⟩
theorem oi_M_enter : am_inst m_M_enter := ⟨am_in 1297 (by decide +kernel) rfl, am_in 72 (by decide +kernel) rfl⟩
def tb_M_areSame_0 : List (Nat × (Instr × Nat)) := [(0, (.aload_n 0, 1)), (1, (.getfield 38, 3)), (4, (.iload_n 1, 1)), (5, (.iaload, 1)), (6, (.aload_n 0, 1)), (7, (.getfield 38, 3)), (10, (.iload_n 2, 1)), (11, (.iaload, 1)), (12, (.if_icmp .eq 5, 3)), (15, (.iconst 0, 1))]
theorem td_M_areSame_0 : ∀ q ∈ tb_M_areSame_0, decode prog_8_method_31_code q.1 = .ok q.2 := by decide +kernel
def tb_M_areSame_1 : List (Nat × (Instr × Nat)) := [(16, (.ireturn, 1)), (17, (.iconst 0, 1)), (18, (.istore_n 3, 1)), (19, (.iload_n 3, 1)), (20, (.aload_n 0, 1)), (21, (.getfield 38, 3)), (24, (.iload_n 1, 1)), (25, (.iaload, 1)), (26, (.if_icmp .ge 40, 3)), (29, (.aload_n 0, 1))]
theorem td_M_areSame_1 : ∀ q ∈ tb_M_areSame_1, decode prog_8_method_31_code q.1 = .ok q.2 := by decide +kernel
def tb_M_areSame_2 : List (Nat × (Instr × Nat)) := [(30, (.getfield 41, 3)), (33, (.aload_n 0, 1)), (34, (.getfield 35, 3)), (37, (.iload_n 1, 1)), (38, (.iaload, 1)), (39, (.iload_n 3, 1)), (40, (.iadd, 1)), (41, (.iaload, 1)), (42, (.aload_n 0, 1)), (43, (.getfield 41, 3))]
theorem td_M_areSame_2 : ∀ q ∈ tb_M_areSame_2, decode prog_8_method_31_code q.1 = .ok q.2 := by decide +kernel
def tb_M_areSame_3 : List (Nat × (Instr × Nat)) := [(46, (.aload_n 0, 1)), (47, (.getfield 35, 3)), (50, (.iload_n 2, 1)), (51, (.iaload, 1)), (52, (.iload_n 3, 1)), (53, (.iadd, 1)), (54, (.iaload, 1)), (55, (.if_icmp .eq 5, 3)), (58, (.iconst 0, 1)), (59, (.ireturn, 1))]
theorem td_M_areSame_3 : ∀ q ∈ tb_M_areSame_3, decode prog_8_method_31_code q.1 = .ok q.2 := by decide +kernel
def tb_M_areSame_4 : List (Nat × (Instr × Nat)) := [(60, (.iinc 3 1, 3)), (63, (.goto (-44), 3)), (66, (.iconst 1, 1)), (67, (.ireturn, 1))]
theorem td_M_areSame_4 : ∀ q ∈ tb_M_areSame_4, decode prog_8_method_31_code q.1 = .ok q.2 := by decide +kernel
def tb_M_areSame : Nat → Option (Instr × Nat) := (am_nd 30 (am_nd 16 (am_look tb_M_areSame_0) (am_look tb_M_areSame_1)) (am_nd 46 (am_look tb_M_areSame_2) (am_nd 60 (am_look tb_M_areSame_3) (am_look tb_M_areSame_4))))
theorem td_M_areSame : am_dok prog_8_method_31_code tb_M_areSame := (am_dok_nd (am_dok_nd (am_dok_lf td_M_areSame_0) (am_dok_lf td_M_areSame_1)) (am_dok_nd (am_dok_lf td_M_areSame_2) (am_dok_nd (am_dok_lf td_M_areSame_3) (am_dok_lf td_M_areSame_4))))
def m_M_areSame : am_M := (⟨"SyntaxRowsModel", "areSame", "(II)Z"⟩, prog_8_method_31_code, 4, (some .boolean), 6, 2, tb_M_areSame)
set_option maxRecDepth 100000 in
theorem ok_M_areSame : am_ok m_M_areSame := ⟨td_M_areSame, am_in 1302 rfl rfl, am_in 103 (by decide +kernel) rfl, by decide, ⟨by decide, by decide, by decide +kernel⟩, rfl, by decide⟩
theorem oi_M_areSame : am_inst m_M_areSame := ⟨am_in 1301 (by decide +kernel) rfl, am_in 73 (by decide +kernel) rfl⟩
def tb_M_readStream_0 : List (Nat × (Instr × Nat)) := [(0, (.aload_n 0, 1)), (1, (.getfield 148, 3)), (4, (.istore_n 2, 1)), (5, (.aload_n 0, 1)), (6, (.bipush 9, 2)), (8, (.iload_n 2, 1)), (9, (.invokevirtual 151, 3)), (12, (.ifCond .ne 5, 3)), (15, (.iconst (-1), 1)), (16, (.ireturn, 1))]
theorem td_M_readStream_0 : ∀ q ∈ tb_M_readStream_0, decode prog_8_method_42_code q.1 = .ok q.2 := by decide +kernel
def tb_M_readStream_1 : List (Nat × (Instr × Nat)) := [(17, (.aload_n 0, 1)), (18, (.getfield 136, 3)), (21, (.iconst 1, 1)), (22, (.isub, 1)), (23, (.istore_n 3, 1)), (24, (.aload_n 0, 1)), (25, (.aload_n 0, 1)), (26, (.getfield 148, 3)), (29, (.bipush 6, 2)), (31, (.iadd, 1))]
theorem td_M_readStream_1 : ∀ q ∈ tb_M_readStream_1, decode prog_8_method_42_code q.1 = .ok q.2 := by decide +kernel
def tb_M_readStream_2 : List (Nat × (Instr × Nat)) := [(32, (.putfield 148, 3)), (35, (.aload_n 0, 1)), (36, (.getfield 148, 3)), (39, (.aload_n 0, 1)), (40, (.getfield 62, 3)), (43, (.if_icmp .ge 29, 3)), (46, (.aload_n 0, 1)), (47, (.aload_n 0, 1)), (48, (.getfield 148, 3)), (51, (.invokevirtual 78, 3))]
theorem td_M_readStream_2 : ∀ q ∈ tb_M_readStream_2, decode prog_8_method_42_code q.1 = .ok q.2 := by decide +kernel
def tb_M_readStream_3 : List (Nat × (Instr × Nat)) := [(54, (.bipush 13, 2)), (56, (.if_icmp .ne 29, 3)), (59, (.aload_n 0, 1)), (60, (.getfield 148, 3)), (63, (.iconst 1, 1)), (64, (.iadd, 1)), (65, (.aload_n 0, 1)), (66, (.getfield 62, 3)), (69, (.if_icmp .lt 16, 3)), (72, (.aload_n 0, 1))]
theorem td_M_readStream_3 : ∀ q ∈ tb_M_readStream_3, decode prog_8_method_42_code q.1 = .ok q.2 := by decide +kernel
def tb_M_readStream_4 : List (Nat × (Instr × Nat)) := [(73, (.iconst 1, 1)), (74, (.aload_n 0, 1)), (75, (.getfield 62, 3)), (78, (.invokevirtual 139, 3)), (81, (.istore 4, 2)), (83, (.iconst (-1), 1)), (84, (.ireturn, 1)), (85, (.aload_n 0, 1)), (86, (.aload_n 0, 1)), (87, (.getfield 148, 3))]
theorem td_M_readStream_4 : ∀ q ∈ tb_M_readStream_4, decode prog_8_method_42_code q.1 = .ok q.2 := by decide +kernel
def tb_M_readStream_5 : List (Nat × (Instr × Nat)) := [(90, (.invokevirtual 78, 3)), (93, (.bipush 10, 2)), (95, (.if_icmp .eq 31, 3)), (98, (.aload_n 0, 1)), (99, (.aload_n 0, 1)), (100, (.getfield 148, 3)), (103, (.invokevirtual 78, 3)), (106, (.bipush 13, 2)), (108, (.if_icmp .ne 22, 3)), (111, (.aload_n 0, 1))]
theorem td_M_readStream_5 : ∀ q ∈ tb_M_readStream_5, decode prog_8_method_42_code q.1 = .ok q.2 := by decide +kernel
def tb_M_readStream_6 : List (Nat × (Instr × Nat)) := [(112, (.aload_n 0, 1)), (113, (.getfield 148, 3)), (116, (.iconst 1, 1)), (117, (.iadd, 1)), (118, (.invokevirtual 78, 3)), (121, (.bipush 10, 2)), (123, (.if_icmp .ne 7, 3)), (126, (.iconst 1, 1)), (127, (.goto 4, 3)), (130, (.iconst 0, 1))]
theorem td_M_readStream_6 : ∀ q ∈ tb_M_readStream_6, decode prog_8_method_42_code q.1 = .ok q.2 := by decide +kernel
def tb_M_readStream_7 : List (Nat × (Instr × Nat)) := [(131, (.istore 4, 2)), (133, (.iload 4, 2)), (135, (.ifCond .ne 38, 3)), (138, (.aload_n 0, 1)), (139, (.iconst 2, 1)), (140, (.aload_n 0, 1)), (141, (.aload_n 0, 1)), (142, (.getfield 148, 3)), (145, (.invokevirtual 78, 3)), (148, (.bipush 13, 2))]
theorem td_M_readStream_7 : ∀ q ∈ tb_M_readStream_7, decode prog_8_method_42_code q.1 = .ok q.2 := by decide +kernel
def tb_M_readStream_8 : List (Nat × (Instr × Nat)) := [(150, (.if_icmp .ne 12, 3)), (153, (.aload_n 0, 1)), (154, (.getfield 148, 3)), (157, (.iconst 1, 1)), (158, (.iadd, 1)), (159, (.goto 7, 3)), (162, (.aload_n 0, 1)), (163, (.getfield 148, 3)), (166, (.invokevirtual 139, 3)), (169, (.istore 5, 2))]
theorem td_M_readStream_8 : ∀ q ∈ tb_M_readStream_8, decode prog_8_method_42_code q.1 = .ok q.2 := by decide +kernel
def tb_M_readStream_9 : List (Nat × (Instr × Nat)) := [(171, (.iconst (-1), 1)), (172, (.ireturn, 1)), (173, (.aload_n 0, 1)), (174, (.aload_n 0, 1)), (175, (.aload_n 0, 1)), (176, (.getfield 148, 3)), (179, (.invokevirtual 164, 3)), (182, (.putfield 148, 3)), (185, (.aload_n 0, 1)), (186, (.getfield 148, 3))]
theorem td_M_readStream_9 : ∀ q ∈ tb_M_readStream_9, decode prog_8_method_42_code q.1 = .ok q.2 := by decide +kernel
def tb_M_readStream_10 : List (Nat × (Instr × Nat)) := [(189, (.istore 5, 2)), (191, (.aload_n 0, 1)), (192, (.iload_n 1, 1)), (193, (.invokevirtual 248, 3)), (196, (.lstore 6, 2)), (198, (.iconst (-1), 1)), (199, (.istore 8, 2)), (201, (.iconst (-1), 1)), (202, (.istore 9, 2)), (204, (.lload 6, 2))]
theorem td_M_readStream_10 : ∀ q ∈ tb_M_readStream_10, decode prog_8_method_42_code q.1 = .ok q.2 := by decide +kernel
def tb_M_readStream_11 : List (Nat × (Instr × Nat)) := [(206, (.lconst 0, 1)), (207, (.lcmp, 1)), (208, (.ifCond .lt 74, 3)), (211, (.iload 5, 2)), (213, (.i2l, 1)), (214, (.lload 6, 2)), (216, (.ladd, 1)), (217, (.aload_n 0, 1)), (218, (.getfield 62, 3)), (221, (.i2l, 1))]
theorem td_M_readStream_11 : ∀ q ∈ tb_M_readStream_11, decode prog_8_method_42_code q.1 = .ok q.2 := by decide +kernel
def tb_M_readStream_12 : List (Nat × (Instr × Nat)) := [(222, (.lcmp, 1)), (223, (.ifCond .gt 59, 3)), (226, (.iload 5, 2)), (228, (.lload 6, 2)), (230, (.l2i, 1)), (231, (.iadd, 1)), (232, (.istore 10, 2)), (234, (.aload_n 0, 1)), (235, (.iload 10, 2)), (237, (.iconst 0, 1))]
theorem td_M_readStream_12 : ∀ q ∈ tb_M_readStream_12, decode prog_8_method_42_code q.1 = .ok q.2 := by decide +kernel
def tb_M_readStream_13 : List (Nat × (Instr × Nat)) := [(238, (.invokevirtual 182, 3)), (241, (.ifCond .eq 8, 3)), (244, (.iload 10, 2)), (246, (.goto 9, 3)), (249, (.aload_n 0, 1)), (250, (.iload 10, 2)), (252, (.invokevirtual 164, 3)), (255, (.istore 10, 2)), (257, (.aload_n 0, 1)), (258, (.iload 10, 2))]
theorem td_M_readStream_13 : ∀ q ∈ tb_M_readStream_13, decode prog_8_method_42_code q.1 = .ok q.2 := by decide +kernel
def tb_M_readStream_14 : List (Nat × (Instr × Nat)) := [(260, (.iconst 0, 1)), (261, (.invokevirtual 182, 3)), (264, (.ifCond .eq 18, 3)), (267, (.iload 5, 2)), (269, (.lload 6, 2)), (271, (.l2i, 1)), (272, (.iadd, 1)), (273, (.istore 8, 2)), (275, (.iload 10, 2)), (277, (.bipush 9, 2))]
theorem td_M_readStream_14 : ∀ q ∈ tb_M_readStream_14, decode prog_8_method_42_code q.1 = .ok q.2 := by decide +kernel
def tb_M_readStream_15 : List (Nat × (Instr × Nat)) := [(279, (.iadd, 1)), (280, (.istore 9, 2)), (282, (.iload 8, 2)), (284, (.iconst (-1), 1)), (285, (.if_icmp .ne 146, 3)), (288, (.iload 5, 2)), (290, (.istore 10, 2)), (292, (.iload 10, 2)), (294, (.aload_n 0, 1)), (295, (.getfield 62, 3))]
theorem td_M_readStream_15 : ∀ q ∈ tb_M_readStream_15, decode prog_8_method_42_code q.1 = .ok q.2 := by decide +kernel
def tb_M_readStream_16 : List (Nat × (Instr × Nat)) := [(298, (.if_icmp .ge 19, 3)), (301, (.aload_n 0, 1)), (302, (.iload 10, 2)), (304, (.iconst 0, 1)), (305, (.invokevirtual 110, 3)), (308, (.ifCond .ne 9, 3)), (311, (.iinc 10 1, 3)), (314, (.goto (-22), 3)), (317, (.iload 10, 2)), (319, (.aload_n 0, 1))]
theorem td_M_readStream_16 : ∀ q ∈ tb_M_readStream_16, decode prog_8_method_42_code q.1 = .ok q.2 := by decide +kernel
def tb_M_readStream_17 : List (Nat × (Instr × Nat)) := [(320, (.getfield 62, 3)), (323, (.if_icmp .ge 108, 3)), (326, (.aload_n 0, 1)), (327, (.aload_n 0, 1)), (328, (.getfield 171, 3)), (331, (.iconst 4, 1)), (332, (.ior, 1)), (333, (.putfield 171, 3)), (336, (.iload 10, 2)), (338, (.bipush 9, 2))]
theorem td_M_readStream_17 : ∀ q ∈ tb_M_readStream_17, decode prog_8_method_42_code q.1 = .ok q.2 := by decide +kernel
def tb_M_readStream_18 : List (Nat × (Instr × Nat)) := [(340, (.iadd, 1)), (341, (.istore 9, 2)), (343, (.iload 10, 2)), (345, (.istore 8, 2)), (347, (.iload 8, 2)), (349, (.iload 5, 2)), (351, (.if_icmp .le 56, 3)), (354, (.aload_n 0, 1)), (355, (.getfield 7, 3)), (358, (.iload 8, 2))]
theorem td_M_readStream_18 : ∀ q ∈ tb_M_readStream_18, decode prog_8_method_42_code q.1 = .ok q.2 := by decide +kernel
def tb_M_readStream_19 : List (Nat × (Instr × Nat)) := [(360, (.iconst 1, 1)), (361, (.isub, 1)), (362, (.iaload, 1)), (363, (.bipush 10, 2)), (365, (.if_icmp .ne 42, 3)), (368, (.iload 8, 2)), (370, (.iconst 1, 1)), (371, (.isub, 1)), (372, (.iload 5, 2)), (374, (.if_icmp .le 24, 3))]
theorem td_M_readStream_19 : ∀ q ∈ tb_M_readStream_19, decode prog_8_method_42_code q.1 = .ok q.2 := by decide +kernel
def tb_M_readStream_20 : List (Nat × (Instr × Nat)) := [(377, (.aload_n 0, 1)), (378, (.getfield 7, 3)), (381, (.iload 8, 2)), (383, (.iconst 2, 1)), (384, (.isub, 1)), (385, (.iaload, 1)), (386, (.bipush 13, 2)), (388, (.if_icmp .ne 10, 3)), (391, (.iload 8, 2)), (393, (.iconst 2, 1))]
theorem td_M_readStream_20 : ∀ q ∈ tb_M_readStream_20, decode prog_8_method_42_code q.1 = .ok q.2 := by decide +kernel
def tb_M_readStream_21 : List (Nat × (Instr × Nat)) := [(394, (.isub, 1)), (395, (.goto 7, 3)), (398, (.iload 8, 2)), (400, (.iconst 1, 1)), (401, (.isub, 1)), (402, (.istore 8, 2)), (404, (.goto 27, 3)), (407, (.iload 8, 2)), (409, (.iload 5, 2)), (411, (.if_icmp .le 20, 3))]
theorem td_M_readStream_21 : ∀ q ∈ tb_M_readStream_21, decode prog_8_method_42_code q.1 = .ok q.2 := by decide +kernel
def tb_M_readStream_22 : List (Nat × (Instr × Nat)) := [(414, (.aload_n 0, 1)), (415, (.getfield 7, 3)), (418, (.iload 8, 2)), (420, (.iconst 1, 1)), (421, (.isub, 1)), (422, (.iaload, 1)), (423, (.bipush 13, 2)), (425, (.if_icmp .ne 6, 3)), (428, (.iinc 8 (-1), 3)), (431, (.iload 8, 2))]
theorem td_M_readStream_22 : ∀ q ∈ tb_M_readStream_22, decode prog_8_method_42_code q.1 = .ok q.2 := by decide +kernel
def tb_M_readStream_23 : List (Nat × (Instr × Nat)) := [(433, (.iconst (-1), 1)), (434, (.if_icmp .eq 14, 3)), (437, (.iload 8, 2)), (439, (.iload 5, 2)), (441, (.isub, 1)), (442, (.sipush 400, 3)), (445, (.if_icmp .le 14, 3)), (448, (.aload_n 0, 1)), (449, (.bipush 8, 2)), (451, (.iload_n 2, 1))]
theorem td_M_readStream_23 : ∀ q ∈ tb_M_readStream_23, decode prog_8_method_42_code q.1 = .ok q.2 := by decide +kernel
def tb_M_readStream_24 : List (Nat × (Instr × Nat)) := [(452, (.invokevirtual 139, 3)), (455, (.istore 10, 2)), (457, (.iconst (-1), 1)), (458, (.ireturn, 1)), (459, (.aload_n 0, 1)), (460, (.iload 8, 2)), (462, (.iload 5, 2)), (464, (.isub, 1)), (465, (.putfield 145, 3)), (468, (.iconst 0, 1))]
theorem td_M_readStream_24 : ∀ q ∈ tb_M_readStream_24, decode prog_8_method_42_code q.1 = .ok q.2 := by decide +kernel
def tb_M_readStream_25 : List (Nat × (Instr × Nat)) := [(469, (.istore 10, 2)), (471, (.iload 10, 2)), (473, (.aload_n 0, 1)), (474, (.getfield 145, 3)), (477, (.if_icmp .ge 26, 3)), (480, (.aload_n 0, 1)), (481, (.getfield 44, 3)), (484, (.iload 10, 2)), (486, (.aload_n 0, 1)), (487, (.getfield 7, 3))]
theorem td_M_readStream_25 : ∀ q ∈ tb_M_readStream_25, decode prog_8_method_42_code q.1 = .ok q.2 := by decide +kernel
def tb_M_readStream_26 : List (Nat × (Instr × Nat)) := [(490, (.iload 5, 2)), (492, (.iload 10, 2)), (494, (.iadd, 1)), (495, (.iaload, 1)), (496, (.iastore, 1)), (497, (.iinc 10 1, 3)), (500, (.goto (-29), 3)), (503, (.aload_n 0, 1)), (504, (.iload_n 3, 1)), (505, (.iload_n 2, 1))]
theorem td_M_readStream_26 : ∀ q ∈ tb_M_readStream_26, decode prog_8_method_42_code q.1 = .ok q.2 := by decide +kernel
def tb_M_readStream_27 : List (Nat × (Instr × Nat)) := [(506, (.invokevirtual 161, 3)), (509, (.ifCond .ne 5, 3)), (512, (.iconst (-1), 1)), (513, (.ireturn, 1)), (514, (.aload_n 0, 1)), (515, (.iload_n 3, 1)), (516, (.iload_n 1, 1)), (517, (.invokevirtual 200, 3)), (520, (.aload_n 0, 1)), (521, (.iload 9, 2))]
theorem td_M_readStream_27 : ∀ q ∈ tb_M_readStream_27, decode prog_8_method_42_code q.1 = .ok q.2 := by decide +kernel
def tb_M_readStream_28 : List (Nat × (Instr × Nat)) := [(523, (.putfield 148, 3)), (526, (.iload_n 3, 1)), (527, (.ireturn, 1))]
theorem td_M_readStream_28 : ∀ q ∈ tb_M_readStream_28, decode prog_8_method_42_code q.1 = .ok q.2 := by decide +kernel
def tb_M_readStream : Nat → Option (Instr × Nat) := (am_nd 260 (am_nd 131 (am_nd 54 (am_nd 17 (am_look tb_M_readStream_0) (am_nd 32 (am_look tb_M_readStream_1) (am_look tb_M_readStream_2))) (am_nd 90 (am_nd 73 (am_look tb_M_readStream_3) (am_look tb_M_readStream_4)) (am_nd 112 (am_look tb_M_readStream_5) (am_look tb_M_readStream_6)))) (am_nd 189 (am_nd 150 (am_look tb_M_readStream_7) (am_nd 171 (am_look tb_M_readStream_8) (am_look tb_M_readStream_9))) (am_nd 222 (am_nd 206 (am_look tb_M_readStream_10) (am_look tb_M_readStream_11)) (am_nd 238 (am_look tb_M_readStream_12) (am_look tb_M_readStream_13))))) (am_nd 394 (am_nd 320 (am_nd 279 (am_look tb_M_readStream_14) (am_nd 298 (am_look tb_M_readStream_15) (am_look tb_M_readStream_16))) (am_nd 360 (am_nd 340 (am_look tb_M_readStream_17) (am_look tb_M_readStream_18)) (am_nd 377 (am_look tb_M_readStream_19) (am_look tb_M_readStream_20)))) (am_nd 469 (am_nd 433 (am_nd 414 (am_look tb_M_readStream_21) (am_look tb_M_readStream_22)) (am_nd 452 (am_look tb_M_readStream_23) (am_look tb_M_readStream_24))) (am_nd 506 (am_nd 490 (am_look tb_M_readStream_25) (am_look tb_M_readStream_26)) (am_nd 523 (am_look tb_M_readStream_27) (am_look tb_M_readStream_28))))))
theorem td_M_readStream : am_dok prog_8_method_42_code tb_M_readStream := (am_dok_nd (am_dok_nd (am_dok_nd (am_dok_nd (am_dok_lf td_M_readStream_0) (am_dok_nd (am_dok_lf td_M_readStream_1) (am_dok_lf td_M_readStream_2))) (am_dok_nd (am_dok_nd (am_dok_lf td_M_readStream_3) (am_dok_lf td_M_readStream_4)) (am_dok_nd (am_dok_lf td_M_readStream_5) (am_dok_lf td_M_readStream_6)))) (am_dok_nd (am_dok_nd (am_dok_lf td_M_readStream_7) (am_dok_nd (am_dok_lf td_M_readStream_8) (am_dok_lf td_M_readStream_9))) (am_dok_nd (am_dok_nd (am_dok_lf td_M_readStream_10) (am_dok_lf td_M_readStream_11)) (am_dok_nd (am_dok_lf td_M_readStream_12) (am_dok_lf td_M_readStream_13))))) (am_dok_nd (am_dok_nd (am_dok_nd (am_dok_lf td_M_readStream_14) (am_dok_nd (am_dok_lf td_M_readStream_15) (am_dok_lf td_M_readStream_16))) (am_dok_nd (am_dok_nd (am_dok_lf td_M_readStream_17) (am_dok_lf td_M_readStream_18)) (am_dok_nd (am_dok_lf td_M_readStream_19) (am_dok_lf td_M_readStream_20)))) (am_dok_nd (am_dok_nd (am_dok_nd (am_dok_lf td_M_readStream_21) (am_dok_lf td_M_readStream_22)) (am_dok_nd (am_dok_lf td_M_readStream_23) (am_dok_lf td_M_readStream_24))) (am_dok_nd (am_dok_nd (am_dok_lf td_M_readStream_25) (am_dok_lf td_M_readStream_26)) (am_dok_nd (am_dok_lf td_M_readStream_27) (am_dok_lf td_M_readStream_28))))))
def m_M_readStream : am_M := (⟨"SyntaxRowsModel", "readStream", "(I)I"⟩, prog_8_method_42_code, 11, (some .int), 6, 1, tb_M_readStream)
set_option maxRecDepth 100000 in
theorem ok_M_readStream : am_ok m_M_readStream := ⟨td_M_readStream, am_in 1306 rfl rfl, am_in 103 (by decide +kernel) rfl, by decide, ⟨by decide, by decide, by decide +kernel⟩, rfl, by decide⟩
theorem oi_M_readStream : am_inst m_M_readStream := ⟨am_in 1305 (by decide +kernel) rfl, am_in 74 (by decide +kernel) rfl⟩
def tb_M_toldLength_0 : List (Nat × (Instr × Nat)) := [(0, (.aload_n 0, 1)), (1, (.iload_n 1, 1)), (2, (.invokevirtual 239, 3)), (5, (.istore_n 2, 1)), (6, (.iload_n 2, 1)), (7, (.iconst (-1), 1)), (8, (.if_icmp .ne 7, 3)), (11, (.ldc2_w 242, 3)), (14, (.lreturn, 1)), (15, (.aload_n 0, 1))]
theorem td_M_toldLength_0 : ∀ q ∈ tb_M_toldLength_0, decode prog_8_method_41_code q.1 = .ok q.2 := by decide +kernel
def tb_M_toldLength_1 : List (Nat × (Instr × Nat)) := [(16, (.getfield 16, 3)), (19, (.iload_n 2, 1)), (20, (.iaload, 1)), (21, (.iconst 2, 1)), (22, (.if_icmp .ne 10, 3)), (25, (.aload_n 0, 1)), (26, (.getfield 19, 3)), (29, (.iload_n 2, 1)), (30, (.laload, 1)), (31, (.lreturn, 1))]
theorem td_M_toldLength_1 : ∀ q ∈ tb_M_toldLength_1, decode prog_8_method_41_code q.1 = .ok q.2 := by decide +kernel
def tb_M_toldLength_2 : List (Nat × (Instr × Nat)) := [(32, (.aload_n 0, 1)), (33, (.getfield 16, 3)), (36, (.iload_n 2, 1)), (37, (.iaload, 1)), (38, (.bipush 8, 2)), (40, (.if_icmp .eq 7, 3)), (43, (.ldc2_w 242, 3)), (46, (.lreturn, 1)), (47, (.aload_n 0, 1)), (48, (.aload_n 0, 1))]
theorem td_M_toldLength_2 : ∀ q ∈ tb_M_toldLength_2, decode prog_8_method_41_code q.1 = .ok q.2 := by decide +kernel
def tb_M_toldLength_3 : List (Nat × (Instr × Nat)) := [(49, (.getfield 19, 3)), (52, (.iload_n 2, 1)), (53, (.laload, 1)), (54, (.ldc2_w 191, 3)), (57, (.lrem, 1)), (58, (.aload_n 0, 1)), (59, (.getfield 19, 3)), (62, (.iload_n 2, 1)), (63, (.laload, 1)), (64, (.ldc2_w 191, 3))]
theorem td_M_toldLength_3 : ∀ q ∈ tb_M_toldLength_3, decode prog_8_method_41_code q.1 = .ok q.2 := by decide +kernel
def tb_M_toldLength_4 : List (Nat × (Instr × Nat)) := [(67, (.ldiv, 1)), (68, (.invokevirtual 244, 3)), (71, (.istore_n 3, 1)), (72, (.iload_n 3, 1)), (73, (.iconst (-1), 1)), (74, (.if_icmp .ne 7, 3)), (77, (.iconst (-1), 1)), (78, (.goto 14, 3)), (81, (.aload_n 0, 1)), (82, (.getfield 13, 3))]
theorem td_M_toldLength_4 : ∀ q ∈ tb_M_toldLength_4, decode prog_8_method_41_code q.1 = .ok q.2 := by decide +kernel
def tb_M_toldLength_5 : List (Nat × (Instr × Nat)) := [(85, (.bipush 8, 2)), (87, (.iload_n 3, 1)), (88, (.imul, 1)), (89, (.iconst 2, 1)), (90, (.iadd, 1)), (91, (.iaload, 1)), (92, (.istore 4, 2)), (94, (.iload 4, 2)), (96, (.iconst (-1), 1)), (97, (.if_icmp .eq 24, 3))]
theorem td_M_toldLength_5 : ∀ q ∈ tb_M_toldLength_5, decode prog_8_method_41_code q.1 = .ok q.2 := by decide +kernel
def tb_M_toldLength_6 : List (Nat × (Instr × Nat)) := [(100, (.aload_n 0, 1)), (101, (.getfield 16, 3)), (104, (.iload 4, 2)), (106, (.iaload, 1)), (107, (.iconst 2, 1)), (108, (.if_icmp .ne 13, 3)), (111, (.aload_n 0, 1)), (112, (.getfield 19, 3)), (115, (.iload 4, 2)), (117, (.laload, 1))]
theorem td_M_toldLength_6 : ∀ q ∈ tb_M_toldLength_6, decode prog_8_method_41_code q.1 = .ok q.2 := by decide +kernel
def tb_M_toldLength_7 : List (Nat × (Instr × Nat)) := [(118, (.goto 6, 3)), (121, (.ldc2_w 242, 3)), (124, (.lreturn, 1))]
theorem td_M_toldLength_7 : ∀ q ∈ tb_M_toldLength_7, decode prog_8_method_41_code q.1 = .ok q.2 := by decide +kernel
def tb_M_toldLength : Nat → Option (Instr × Nat) := (am_nd 67 (am_nd 32 (am_nd 16 (am_look tb_M_toldLength_0) (am_look tb_M_toldLength_1)) (am_nd 49 (am_look tb_M_toldLength_2) (am_look tb_M_toldLength_3))) (am_nd 100 (am_nd 85 (am_look tb_M_toldLength_4) (am_look tb_M_toldLength_5)) (am_nd 118 (am_look tb_M_toldLength_6) (am_look tb_M_toldLength_7))))
theorem td_M_toldLength : am_dok prog_8_method_41_code tb_M_toldLength := (am_dok_nd (am_dok_nd (am_dok_nd (am_dok_lf td_M_toldLength_0) (am_dok_lf td_M_toldLength_1)) (am_dok_nd (am_dok_lf td_M_toldLength_2) (am_dok_lf td_M_toldLength_3))) (am_dok_nd (am_dok_nd (am_dok_lf td_M_toldLength_4) (am_dok_lf td_M_toldLength_5)) (am_dok_nd (am_dok_lf td_M_toldLength_6) (am_dok_lf td_M_toldLength_7))))
def m_M_toldLength : am_M := (⟨"SyntaxRowsModel", "toldLength", "(I)J"⟩, prog_8_method_41_code, 5, (some .long), 6, 1, tb_M_toldLength)
set_option maxRecDepth 100000 in
theorem ok_M_toldLength : am_ok m_M_toldLength := ⟨td_M_toldLength, am_in 1310 rfl rfl, am_in 103 (by decide +kernel) rfl, by decide, ⟨by decide, by decide, by decide +kernel⟩, rfl, by decide⟩
theorem oi_M_toldLength : am_inst m_M_toldLength := ⟨am_in 1309 (by decide +kernel) rfl, am_in 75 (by decide +kernel) rfl⟩
def tb_M_lengthOf_0 : List (Nat × (Instr × Nat)) := [(0, (.aload_n 0, 1)), (1, (.getfield 23, 3)), (4, (.iload_n 1, 1)), (5, (.iaload, 1)), (6, (.istore_n 2, 1)), (7, (.iload_n 2, 1)), (8, (.iconst (-1), 1)), (9, (.if_icmp .eq 33, 3)), (12, (.aload_n 0, 1)), (13, (.iload_n 2, 1))]
theorem td_M_lengthOf_0 : ∀ q ∈ tb_M_lengthOf_0, decode prog_8_method_39_code q.1 = .ok q.2 := by decide +kernel
def tb_M_lengthOf_1 : List (Nat × (Instr × Nat)) := [(14, (.invokevirtual 233, 3)), (17, (.ifCond .eq 10, 3)), (20, (.aload_n 0, 1)), (21, (.getfield 29, 3)), (24, (.iload_n 2, 1)), (25, (.iaload, 1)), (26, (.ireturn, 1)), (27, (.aload_n 0, 1)), (28, (.getfield 29, 3)), (31, (.aload_n 0, 1))]
theorem td_M_lengthOf_1 : ∀ q ∈ tb_M_lengthOf_1, decode prog_8_method_39_code q.1 = .ok q.2 := by decide +kernel
def tb_M_lengthOf_2 : List (Nat × (Instr × Nat)) := [(32, (.getfield 29, 3)), (35, (.iload_n 2, 1)), (36, (.iaload, 1)), (37, (.iaload, 1)), (38, (.istore_n 2, 1)), (39, (.goto (-32), 3)), (42, (.iconst (-1), 1)), (43, (.ireturn, 1))]
theorem td_M_lengthOf_2 : ∀ q ∈ tb_M_lengthOf_2, decode prog_8_method_39_code q.1 = .ok q.2 := by decide +kernel
def tb_M_lengthOf : Nat → Option (Instr × Nat) := (am_nd 14 (am_look tb_M_lengthOf_0) (am_nd 32 (am_look tb_M_lengthOf_1) (am_look tb_M_lengthOf_2)))
theorem td_M_lengthOf : am_dok prog_8_method_39_code tb_M_lengthOf := (am_dok_nd (am_dok_lf td_M_lengthOf_0) (am_dok_nd (am_dok_lf td_M_lengthOf_1) (am_dok_lf td_M_lengthOf_2)))
def m_M_lengthOf : am_M := (⟨"SyntaxRowsModel", "lengthOf", "(I)I"⟩, prog_8_method_39_code, 3, (some .int), 6, 1, tb_M_lengthOf)
set_option maxRecDepth 100000 in
theorem ok_M_lengthOf : am_ok m_M_lengthOf := ⟨td_M_lengthOf, am_in 1314 rfl rfl, am_in 103 (by decide +kernel) rfl, by decide, ⟨by decide, by decide, by decide +kernel⟩, rfl, by decide⟩
theorem oi_M_lengthOf : am_inst m_M_lengthOf := ⟨am_in 1313 (by decide +kernel) rfl, am_in 76 (by decide +kernel) rfl⟩
def tb_M_isLength_0 : List (Nat × (Instr × Nat)) := [(0, (.aload_n 0, 1)), (1, (.getfield 38, 3)), (4, (.iload_n 1, 1)), (5, (.iaload, 1)), (6, (.bipush 6, 2)), (8, (.if_icmp .eq 5, 3)), (11, (.iconst 0, 1)), (12, (.ireturn, 1)), (13, (.iconst 0, 1)), (14, (.istore_n 2, 1))]
theorem td_M_isLength_0 : ∀ q ∈ tb_M_isLength_0, decode prog_8_method_38_code q.1 = .ok q.2 := by decide +kernel
def tb_M_isLength_1 : List (Nat × (Instr × Nat)) := [(15, (.iload_n 2, 1)), (16, (.bipush 6, 2)), (18, (.if_icmp .ge 33, 3)), (21, (.aload_n 0, 1)), (22, (.getfield 41, 3)), (25, (.aload_n 0, 1)), (26, (.getfield 35, 3)), (29, (.iload_n 1, 1)), (30, (.iaload, 1)), (31, (.iload_n 2, 1))]
theorem td_M_isLength_1 : ∀ q ∈ tb_M_isLength_1, decode prog_8_method_38_code q.1 = .ok q.2 := by decide +kernel
def tb_M_isLength_2 : List (Nat × (Instr × Nat)) := [(32, (.iadd, 1)), (33, (.iaload, 1)), (34, (.bipush 7, 2)), (36, (.iload_n 2, 1)), (37, (.invokestatic 106, 3)), (40, (.if_icmp .eq 5, 3)), (43, (.iconst 0, 1)), (44, (.ireturn, 1)), (45, (.iinc 2 1, 3)), (48, (.goto (-33), 3))]
theorem td_M_isLength_2 : ∀ q ∈ tb_M_isLength_2, decode prog_8_method_38_code q.1 = .ok q.2 := by decide +kernel
def tb_M_isLength_3 : List (Nat × (Instr × Nat)) := [(51, (.iconst 1, 1)), (52, (.ireturn, 1))]
theorem td_M_isLength_3 : ∀ q ∈ tb_M_isLength_3, decode prog_8_method_38_code q.1 = .ok q.2 := by decide +kernel
def tb_M_isLength : Nat → Option (Instr × Nat) := (am_nd 32 (am_nd 15 (am_look tb_M_isLength_0) (am_look tb_M_isLength_1)) (am_nd 51 (am_look tb_M_isLength_2) (am_look tb_M_isLength_3)))
theorem td_M_isLength : am_dok prog_8_method_38_code tb_M_isLength := (am_dok_nd (am_dok_nd (am_dok_lf td_M_isLength_0) (am_dok_lf td_M_isLength_1)) (am_dok_nd (am_dok_lf td_M_isLength_2) (am_dok_lf td_M_isLength_3)))
def m_M_isLength : am_M := (⟨"SyntaxRowsModel", "isLength", "(I)Z"⟩, prog_8_method_38_code, 3, (some .boolean), 6, 1, tb_M_isLength)
set_option maxRecDepth 100000 in
theorem ok_M_isLength : am_ok m_M_isLength := ⟨td_M_isLength, am_in 1318 rfl rfl, am_in 103 (by decide +kernel) rfl, by decide, ⟨by decide, by decide, by decide +kernel⟩, rfl, by decide⟩
theorem oi_M_isLength : am_inst m_M_isLength := ⟨am_in 1317 (by decide +kernel) rfl, am_in 77 (by decide +kernel) rfl⟩
def tb_M_findObject_0 : List (Nat × (Instr × Nat)) := [(0, (.aload_n 0, 1)), (1, (.getfield 236, 3)), (4, (.iconst 1, 1)), (5, (.isub, 1)), (6, (.istore 5, 2)), (8, (.iload 5, 2)), (10, (.ifCond .lt 61, 3)), (13, (.aload_n 0, 1)), (14, (.getfield 13, 3)), (17, (.bipush 8, 2))]
theorem td_M_findObject_0 : ∀ q ∈ tb_M_findObject_0, decode prog_8_method_40_code q.1 = .ok q.2 := by decide +kernel
def tb_M_findObject_1 : List (Nat × (Instr × Nat)) := [(19, (.iload 5, 2)), (21, (.imul, 1)), (22, (.iconst 3, 1)), (23, (.iadd, 1)), (24, (.iaload, 1)), (25, (.ifCond .ne 40, 3)), (28, (.aload_n 0, 1)), (29, (.getfield 13, 3)), (32, (.bipush 8, 2)), (34, (.iload 5, 2))]
theorem td_M_findObject_1 : ∀ q ∈ tb_M_findObject_1, decode prog_8_method_40_code q.1 = .ok q.2 := by decide +kernel
def tb_M_findObject_2 : List (Nat × (Instr × Nat)) := [(36, (.imul, 1)), (37, (.iaload, 1)), (38, (.i2l, 1)), (39, (.lload_n 1, 1)), (40, (.lcmp, 1)), (41, (.ifCond .ne 24, 3)), (44, (.aload_n 0, 1)), (45, (.getfield 13, 3)), (48, (.bipush 8, 2)), (50, (.iload 5, 2))]
theorem td_M_findObject_2 : ∀ q ∈ tb_M_findObject_2, decode prog_8_method_40_code q.1 = .ok q.2 := by decide +kernel
def tb_M_findObject_3 : List (Nat × (Instr × Nat)) := [(52, (.imul, 1)), (53, (.iconst 1, 1)), (54, (.iadd, 1)), (55, (.iaload, 1)), (56, (.i2l, 1)), (57, (.lload_n 3, 1)), (58, (.lcmp, 1)), (59, (.ifCond .ne 6, 3)), (62, (.iload 5, 2)), (64, (.ireturn, 1))]
theorem td_M_findObject_3 : ∀ q ∈ tb_M_findObject_3, decode prog_8_method_40_code q.1 = .ok q.2 := by decide +kernel
def tb_M_findObject_4 : List (Nat × (Instr × Nat)) := [(65, (.iinc 5 (-1), 3)), (68, (.goto (-60), 3)), (71, (.iconst (-1), 1)), (72, (.ireturn, 1))]
theorem td_M_findObject_4 : ∀ q ∈ tb_M_findObject_4, decode prog_8_method_40_code q.1 = .ok q.2 := by decide +kernel
def tb_M_findObject : Nat → Option (Instr × Nat) := (am_nd 36 (am_nd 19 (am_look tb_M_findObject_0) (am_look tb_M_findObject_1)) (am_nd 52 (am_look tb_M_findObject_2) (am_nd 65 (am_look tb_M_findObject_3) (am_look tb_M_findObject_4))))
theorem td_M_findObject : am_dok prog_8_method_40_code tb_M_findObject := (am_dok_nd (am_dok_nd (am_dok_lf td_M_findObject_0) (am_dok_lf td_M_findObject_1)) (am_dok_nd (am_dok_lf td_M_findObject_2) (am_dok_nd (am_dok_lf td_M_findObject_3) (am_dok_lf td_M_findObject_4))))
def m_M_findObject : am_M := (⟨"SyntaxRowsModel", "findObject", "(JJ)I"⟩, prog_8_method_40_code, 6, (some .int), 6, 2, tb_M_findObject)
set_option maxRecDepth 100000 in
theorem ok_M_findObject : am_ok m_M_findObject := ⟨td_M_findObject, am_in 1323 rfl rfl, am_in 103 (by decide +kernel) rfl, by decide, ⟨by decide, by decide, by decide +kernel⟩, rfl, by decide⟩
theorem oi_M_findObject : am_inst m_M_findObject := ⟨am_in 1322 (by decide +kernel) rfl, am_in 78 (by decide +kernel) rfl⟩
def tb_M_object_0 : List (Nat × (Instr × Nat)) := [(0, (.aload_n 0, 1)), (1, (.iload_n 1, 1)), (2, (.ifCond .lt 25, 3)), (5, (.iload_n 1, 1)), (6, (.aload_n 0, 1)), (7, (.getfield 236, 3)), (10, (.if_icmp .ge 17, 3)), (13, (.iload_n 2, 1)), (14, (.ifCond .lt 13, 3)), (17, (.iload_n 2, 1))]
theorem td_M_object_0 : ∀ q ∈ tb_M_object_0, decode prog_8_method_45_code q.1 = .ok q.2 := by decide +kernel
def tb_M_object_1 : List (Nat × (Instr × Nat)) := [(18, (.bipush 8, 2)), (20, (.if_icmp .ge 7, 3)), (23, (.iconst 0, 1)), (24, (.goto 4, 3)), (27, (.iconst 1, 1)), (28, (.putfield 66, 3)), (31, (.aload_n 0, 1)), (32, (.getfield 66, 3)), (35, (.ifCond .le 7, 3)), (38, (.iconst 0, 1))]
theorem td_M_object_1 : ∀ q ∈ tb_M_object_1, decode prog_8_method_45_code q.1 = .ok q.2 := by decide +kernel
def tb_M_object_2 : List (Nat × (Instr × Nat)) := [(39, (.goto 14, 3)), (42, (.aload_n 0, 1)), (43, (.getfield 13, 3)), (46, (.bipush 8, 2)), (48, (.iload_n 1, 1)), (49, (.imul, 1)), (50, (.iload_n 2, 1)), (51, (.iadd, 1)), (52, (.iaload, 1)), (53, (.ireturn, 1))]
theorem td_M_object_2 : ∀ q ∈ tb_M_object_2, decode prog_8_method_45_code q.1 = .ok q.2 := by decide +kernel
def tb_M_object : Nat → Option (Instr × Nat) := (am_nd 18 (am_look tb_M_object_0) (am_nd 39 (am_look tb_M_object_1) (am_look tb_M_object_2)))
theorem td_M_object : am_dok prog_8_method_45_code tb_M_object := (am_dok_nd (am_dok_lf td_M_object_0) (am_dok_nd (am_dok_lf td_M_object_1) (am_dok_lf td_M_object_2)))
def m_M_object : am_M := (⟨"SyntaxRowsModel", "object", "(II)I"⟩, prog_8_method_45_code, 3, (some .int), 6, 2, tb_M_object)
set_option maxRecDepth 100000 in
theorem ok_M_object : am_ok m_M_object := ⟨td_M_object, am_in 1327 rfl rfl, am_in 103 (by decide +kernel) rfl, by decide, ⟨by decide, by decide, by decide +kernel⟩, rfl, by decide⟩
theorem oi_M_object : am_inst m_M_object := ⟨am_in 1325 (by decide +kernel) rfl, am_in 1326 (by decide +kernel) rfl⟩
def tb_M_find_0 : List (Nat × (Instr × Nat)) := [(0, (.aload_n 0, 1)), (1, (.iconst 0, 1)), (2, (.putfield 66, 3)), (5, (.aload_n 0, 1)), (6, (.iload_n 1, 1)), (7, (.i2l, 1)), (8, (.iload_n 2, 1)), (9, (.i2l, 1)), (10, (.invokevirtual 244, 3)), (13, (.ireturn, 1))]
theorem td_M_find_0 : ∀ q ∈ tb_M_find_0, decode prog_8_method_46_code q.1 = .ok q.2 := by decide +kernel
def tb_M_find : Nat → Option (Instr × Nat) := (am_look tb_M_find_0)
theorem td_M_find : am_dok prog_8_method_46_code tb_M_find := (am_dok_lf td_M_find_0)
def m_M_find : am_M := (⟨"SyntaxRowsModel", "find", "(II)I"⟩, prog_8_method_46_code, 3, (some .int), 6, 2, tb_M_find)
set_option maxRecDepth 100000 in
theorem ok_M_find : am_ok m_M_find := ⟨td_M_find, am_in 1331 rfl rfl, am_in 103 (by decide +kernel) rfl, by decide, ⟨by decide, by decide, by decide +kernel⟩, rfl, by decide⟩
theorem oi_M_find : am_inst m_M_find := ⟨am_in 1329 (by decide +kernel) rfl, am_in 1330 (by decide +kernel) rfl⟩
def tb_M_value_0 : List (Nat × (Instr × Nat)) := [(0, (.aload_n 0, 1)), (1, (.aload_n 0, 1)), (2, (.iload_n 1, 1)), (3, (.invokevirtual 264, 3)), (6, (.ifCond .eq 16, 3)), (9, (.iload_n 2, 1)), (10, (.ifCond .lt 12, 3)), (13, (.iload_n 2, 1)), (14, (.iconst 3, 1)), (15, (.if_icmp .ge 7, 3))]
theorem td_M_value_0 : ∀ q ∈ tb_M_value_0, decode prog_8_method_48_code q.1 = .ok q.2 := by decide +kernel
def tb_M_value_1 : List (Nat × (Instr × Nat)) := [(18, (.iconst 0, 1)), (19, (.goto 4, 3)), (22, (.iconst 1, 1)), (23, (.putfield 66, 3)), (26, (.aload_n 0, 1)), (27, (.getfield 66, 3)), (30, (.ifCond .le 5, 3)), (33, (.iconst 0, 1)), (34, (.ireturn, 1)), (35, (.iload_n 2, 1))]
theorem td_M_value_1 : ∀ q ∈ tb_M_value_1, decode prog_8_method_48_code q.1 = .ok q.2 := by decide +kernel
def tb_M_value_2 : List (Nat × (Instr × Nat)) := [(36, (.ifCond .ne 12, 3)), (39, (.aload_n 0, 1)), (40, (.getfield 16, 3)), (43, (.iload_n 1, 1)), (44, (.iaload, 1)), (45, (.goto 23, 3)), (48, (.iload_n 2, 1)), (49, (.iconst 1, 1)), (50, (.if_icmp .ne 12, 3)), (53, (.aload_n 0, 1))]
theorem td_M_value_2 : ∀ q ∈ tb_M_value_2, decode prog_8_method_48_code q.1 = .ok q.2 := by decide +kernel
def tb_M_value_3 : List (Nat × (Instr × Nat)) := [(54, (.getfield 32, 3)), (57, (.iload_n 1, 1)), (58, (.iaload, 1)), (59, (.goto 9, 3)), (62, (.aload_n 0, 1)), (63, (.getfield 38, 3)), (66, (.iload_n 1, 1)), (67, (.iaload, 1)), (68, (.ireturn, 1))]
theorem td_M_value_3 : ∀ q ∈ tb_M_value_3, decode prog_8_method_48_code q.1 = .ok q.2 := by decide +kernel
def tb_M_value : Nat → Option (Instr × Nat) := (am_nd 36 (am_nd 18 (am_look tb_M_value_0) (am_look tb_M_value_1)) (am_nd 54 (am_look tb_M_value_2) (am_look tb_M_value_3)))
theorem td_M_value : am_dok prog_8_method_48_code tb_M_value := (am_dok_nd (am_dok_nd (am_dok_lf td_M_value_0) (am_dok_lf td_M_value_1)) (am_dok_nd (am_dok_lf td_M_value_2) (am_dok_lf td_M_value_3)))
def m_M_value : am_M := (⟨"SyntaxRowsModel", "value", "(II)I"⟩, prog_8_method_48_code, 3, (some .int), 6, 2, tb_M_value)
set_option maxRecDepth 100000 in
theorem ok_M_value : am_ok m_M_value := ⟨td_M_value, am_in 1335 rfl rfl, am_in 103 (by decide +kernel) rfl, by decide, ⟨by decide, by decide, by decide +kernel⟩, rfl, by decide⟩
theorem oi_M_value : am_inst m_M_value := ⟨am_in 1333 (by decide +kernel) rfl, am_in 1334 (by decide +kernel) rfl⟩
def tb_M_isValue_0 : List (Nat × (Instr × Nat)) := [(0, (.iload_n 1, 1)), (1, (.ifCond .lt 15, 3)), (4, (.iload_n 1, 1)), (5, (.aload_n 0, 1)), (6, (.getfield 136, 3)), (9, (.if_icmp .ge 7, 3)), (12, (.iconst 1, 1)), (13, (.goto 4, 3)), (16, (.iconst 0, 1)), (17, (.ireturn, 1))]
theorem td_M_isValue_0 : ∀ q ∈ tb_M_isValue_0, decode prog_8_method_47_code q.1 = .ok q.2 := by decide +kernel
def tb_M_isValue : Nat → Option (Instr × Nat) := (am_look tb_M_isValue_0)
theorem td_M_isValue : am_dok prog_8_method_47_code tb_M_isValue := (am_dok_lf td_M_isValue_0)
def m_M_isValue : am_M := (⟨"SyntaxRowsModel", "isValue", "(I)Z"⟩, prog_8_method_47_code, 2, (some .boolean), 6, 1, tb_M_isValue)
set_option maxRecDepth 100000 in
theorem ok_M_isValue : am_ok m_M_isValue := ⟨td_M_isValue, am_in 1339 rfl rfl, am_in 103 (by decide +kernel) rfl, by decide, ⟨by decide, by decide, by decide +kernel⟩, rfl, by decide⟩
theorem oi_M_isValue : am_inst m_M_isValue := ⟨am_in 1338 (by decide +kernel) rfl, am_in 79 (by decide +kernel) rfl⟩
def tb_M_number_0 : List (Nat × (Instr × Nat)) := [(0, (.aload_n 0, 1)), (1, (.aload_n 0, 1)), (2, (.iload_n 1, 1)), (3, (.invokevirtual 264, 3)), (6, (.ifCond .eq 7, 3)), (9, (.iconst 0, 1)), (10, (.goto 4, 3)), (13, (.iconst 1, 1)), (14, (.putfield 66, 3)), (17, (.aload_n 0, 1))]
theorem td_M_number_0 : ∀ q ∈ tb_M_number_0, decode prog_8_method_49_code q.1 = .ok q.2 := by decide +kernel
def tb_M_number_1 : List (Nat × (Instr × Nat)) := [(18, (.getfield 66, 3)), (21, (.ifCond .le 7, 3)), (24, (.lconst 0, 1)), (25, (.goto 9, 3)), (28, (.aload_n 0, 1)), (29, (.getfield 19, 3)), (32, (.iload_n 1, 1)), (33, (.laload, 1)), (34, (.lreturn, 1))]
theorem td_M_number_1 : ∀ q ∈ tb_M_number_1, decode prog_8_method_49_code q.1 = .ok q.2 := by decide +kernel
def tb_M_number : Nat → Option (Instr × Nat) := (am_nd 18 (am_look tb_M_number_0) (am_look tb_M_number_1))
theorem td_M_number : am_dok prog_8_method_49_code tb_M_number := (am_dok_nd (am_dok_lf td_M_number_0) (am_dok_lf td_M_number_1))
def m_M_number : am_M := (⟨"SyntaxRowsModel", "number", "(I)J"⟩, prog_8_method_49_code, 2, (some .long), 6, 1, tb_M_number)
set_option maxRecDepth 100000 in
theorem ok_M_number : am_ok m_M_number := ⟨td_M_number, am_in 1343 rfl rfl, am_in 103 (by decide +kernel) rfl, by decide, ⟨by decide, by decide, by decide +kernel⟩, rfl, by decide⟩
theorem oi_M_number : am_inst m_M_number := ⟨am_in 1341 (by decide +kernel) rfl, am_in 1342 (by decide +kernel) rfl⟩
def tb_M_byteOf_0 : List (Nat × (Instr × Nat)) := [(0, (.aload_n 0, 1)), (1, (.aload_n 0, 1)), (2, (.iload_n 1, 1)), (3, (.invokevirtual 264, 3)), (6, (.ifCond .eq 7, 3)), (9, (.iconst 0, 1)), (10, (.goto 4, 3)), (13, (.iconst 1, 1)), (14, (.putfield 66, 3)), (17, (.aload_n 0, 1))]
theorem td_M_byteOf_0 : ∀ q ∈ tb_M_byteOf_0, decode prog_8_method_50_code q.1 = .ok q.2 := by decide +kernel
def tb_M_byteOf_1 : List (Nat × (Instr × Nat)) := [(18, (.getfield 66, 3)), (21, (.ifCond .le 5, 3)), (24, (.iconst 0, 1)), (25, (.ireturn, 1)), (26, (.iload_n 2, 1)), (27, (.ifCond .lt 29, 3)), (30, (.iload_n 2, 1)), (31, (.aload_n 0, 1)), (32, (.getfield 38, 3)), (35, (.iload_n 1, 1))]
theorem td_M_byteOf_1 : ∀ q ∈ tb_M_byteOf_1, decode prog_8_method_50_code q.1 = .ok q.2 := by decide +kernel
def tb_M_byteOf_2 : List (Nat × (Instr × Nat)) := [(36, (.iaload, 1)), (37, (.if_icmp .ge 19, 3)), (40, (.aload_n 0, 1)), (41, (.getfield 41, 3)), (44, (.aload_n 0, 1)), (45, (.getfield 35, 3)), (48, (.iload_n 1, 1)), (49, (.iaload, 1)), (50, (.iload_n 2, 1)), (51, (.iadd, 1))]
theorem td_M_byteOf_2 : ∀ q ∈ tb_M_byteOf_2, decode prog_8_method_50_code q.1 = .ok q.2 := by decide +kernel
def tb_M_byteOf_3 : List (Nat × (Instr × Nat)) := [(52, (.iaload, 1)), (53, (.goto 4, 3)), (56, (.iconst (-1), 1)), (57, (.ireturn, 1))]
theorem td_M_byteOf_3 : ∀ q ∈ tb_M_byteOf_3, decode prog_8_method_50_code q.1 = .ok q.2 := by decide +kernel
def tb_M_byteOf : Nat → Option (Instr × Nat) := (am_nd 36 (am_nd 18 (am_look tb_M_byteOf_0) (am_look tb_M_byteOf_1)) (am_nd 52 (am_look tb_M_byteOf_2) (am_look tb_M_byteOf_3)))
theorem td_M_byteOf : am_dok prog_8_method_50_code tb_M_byteOf := (am_dok_nd (am_dok_nd (am_dok_lf td_M_byteOf_0) (am_dok_lf td_M_byteOf_1)) (am_dok_nd (am_dok_lf td_M_byteOf_2) (am_dok_lf td_M_byteOf_3)))
def m_M_byteOf : am_M := (⟨"SyntaxRowsModel", "byteOf", "(II)I"⟩, prog_8_method_50_code, 3, (some .int), 6, 2, tb_M_byteOf)
set_option maxRecDepth 100000 in
theorem ok_M_byteOf : am_ok m_M_byteOf := ⟨td_M_byteOf, am_in 1347 rfl rfl, am_in 103 (by decide +kernel) rfl, by decide, ⟨by decide, by decide, by decide +kernel⟩, rfl, by decide⟩
theorem oi_M_byteOf : am_inst m_M_byteOf := ⟨am_in 1345 (by decide +kernel) rfl, am_in 1346 (by decide +kernel) rfl⟩
def tb_M_child_0 : List (Nat × (Instr × Nat)) := [(0, (.aload_n 0, 1)), (1, (.aload_n 0, 1)), (2, (.iload_n 1, 1)), (3, (.invokevirtual 264, 3)), (6, (.ifCond .eq 7, 3)), (9, (.iconst 0, 1)), (10, (.goto 4, 3)), (13, (.iconst 1, 1)), (14, (.putfield 66, 3)), (17, (.aload_n 0, 1))]
theorem td_M_child_0 : ∀ q ∈ tb_M_child_0, decode prog_8_method_51_code q.1 = .ok q.2 := by decide +kernel
def tb_M_child_1 : List (Nat × (Instr × Nat)) := [(18, (.getfield 66, 3)), (21, (.ifCond .le 5, 3)), (24, (.iconst 0, 1)), (25, (.ireturn, 1)), (26, (.iload_n 2, 1)), (27, (.ifCond .lt 13, 3)), (30, (.iload_n 2, 1)), (31, (.aload_n 0, 1)), (32, (.getfield 32, 3)), (35, (.iload_n 1, 1))]
theorem td_M_child_1 : ∀ q ∈ tb_M_child_1, decode prog_8_method_51_code q.1 = .ok q.2 := by decide +kernel
def tb_M_child_2 : List (Nat × (Instr × Nat)) := [(36, (.iaload, 1)), (37, (.if_icmp .lt 5, 3)), (40, (.iconst (-1), 1)), (41, (.ireturn, 1)), (42, (.aload_n 0, 1)), (43, (.getfield 23, 3)), (46, (.iload_n 1, 1)), (47, (.iaload, 1)), (48, (.istore_n 3, 1)), (49, (.iconst 0, 1))]
theorem td_M_child_2 : ∀ q ∈ tb_M_child_2, decode prog_8_method_51_code q.1 = .ok q.2 := by decide +kernel
def tb_M_child_3 : List (Nat × (Instr × Nat)) := [(50, (.istore 4, 2)), (52, (.iload 4, 2)), (54, (.iload_n 2, 1)), (55, (.if_icmp .ge 16, 3)), (58, (.aload_n 0, 1)), (59, (.getfield 29, 3)), (62, (.iload_n 3, 1)), (63, (.iaload, 1)), (64, (.istore_n 3, 1)), (65, (.iinc 4 1, 3))]
theorem td_M_child_3 : ∀ q ∈ tb_M_child_3, decode prog_8_method_51_code q.1 = .ok q.2 := by decide +kernel
def tb_M_child_4 : List (Nat × (Instr × Nat)) := [(68, (.goto (-16), 3)), (71, (.iload_n 3, 1)), (72, (.ireturn, 1))]
theorem td_M_child_4 : ∀ q ∈ tb_M_child_4, decode prog_8_method_51_code q.1 = .ok q.2 := by decide +kernel
def tb_M_child : Nat → Option (Instr × Nat) := (am_nd 36 (am_nd 18 (am_look tb_M_child_0) (am_look tb_M_child_1)) (am_nd 50 (am_look tb_M_child_2) (am_nd 68 (am_look tb_M_child_3) (am_look tb_M_child_4))))
theorem td_M_child : am_dok prog_8_method_51_code tb_M_child := (am_dok_nd (am_dok_nd (am_dok_lf td_M_child_0) (am_dok_lf td_M_child_1)) (am_dok_nd (am_dok_lf td_M_child_2) (am_dok_nd (am_dok_lf td_M_child_3) (am_dok_lf td_M_child_4))))
def m_M_child : am_M := (⟨"SyntaxRowsModel", "child", "(II)I"⟩, prog_8_method_51_code, 5, (some .int), 6, 2, tb_M_child)
set_option maxRecDepth 100000 in
theorem ok_M_child : am_ok m_M_child := ⟨td_M_child, am_in 1351 rfl rfl, am_in 103 (by decide +kernel) rfl, by decide, ⟨by decide, by decide, by decide +kernel⟩, rfl, by decide⟩
theorem oi_M_child : am_inst m_M_child := ⟨am_in 1349 (by decide +kernel) rfl, am_in 1350 (by decide +kernel) rfl⟩
def tb_M_lookup_0 : List (Nat × (Instr × Nat)) := [(0, (.aload_n 0, 1)), (1, (.aload_n 0, 1)), (2, (.iload_n 1, 1)), (3, (.invokevirtual 264, 3)), (6, (.ifCond .eq 15, 3)), (9, (.aload_n 0, 1)), (10, (.iload_n 2, 1)), (11, (.invokevirtual 264, 3)), (14, (.ifCond .eq 7, 3)), (17, (.iconst 0, 1))]
theorem td_M_lookup_0 : ∀ q ∈ tb_M_lookup_0, decode prog_8_method_52_code q.1 = .ok q.2 := by decide +kernel
def tb_M_lookup_1 : List (Nat × (Instr × Nat)) := [(18, (.goto 4, 3)), (21, (.iconst 1, 1)), (22, (.putfield 66, 3)), (25, (.aload_n 0, 1)), (26, (.getfield 66, 3)), (29, (.ifCond .le 5, 3)), (32, (.iconst 0, 1)), (33, (.ireturn, 1)), (34, (.aload_n 0, 1)), (35, (.getfield 16, 3))]
theorem td_M_lookup_1 : ∀ q ∈ tb_M_lookup_1, decode prog_8_method_52_code q.1 = .ok q.2 := by decide +kernel
def tb_M_lookup_2 : List (Nat × (Instr × Nat)) := [(38, (.iload_n 1, 1)), (39, (.iaload, 1)), (40, (.bipush 9, 2)), (42, (.if_icmp .ne 12, 3)), (45, (.aload_n 0, 1)), (46, (.getfield 23, 3)), (49, (.iload_n 1, 1)), (50, (.iaload, 1)), (51, (.goto 4, 3)), (54, (.iload_n 1, 1))]
theorem td_M_lookup_2 : ∀ q ∈ tb_M_lookup_2, decode prog_8_method_52_code q.1 = .ok q.2 := by decide +kernel
def tb_M_lookup_3 : List (Nat × (Instr × Nat)) := [(55, (.istore_n 3, 1)), (56, (.aload_n 0, 1)), (57, (.getfield 16, 3)), (60, (.iload_n 3, 1)), (61, (.iaload, 1)), (62, (.bipush 7, 2)), (64, (.if_icmp .ne 13, 3)), (67, (.aload_n 0, 1)), (68, (.getfield 16, 3)), (71, (.iload_n 2, 1))]
theorem td_M_lookup_3 : ∀ q ∈ tb_M_lookup_3, decode prog_8_method_52_code q.1 = .ok q.2 := by decide +kernel
def tb_M_lookup_4 : List (Nat × (Instr × Nat)) := [(72, (.iaload, 1)), (73, (.iconst 4, 1)), (74, (.if_icmp .eq 5, 3)), (77, (.iconst (-1), 1)), (78, (.ireturn, 1)), (79, (.aload_n 0, 1)), (80, (.getfield 23, 3)), (83, (.iload_n 3, 1)), (84, (.iaload, 1)), (85, (.istore 4, 2))]
theorem td_M_lookup_4 : ∀ q ∈ tb_M_lookup_4, decode prog_8_method_52_code q.1 = .ok q.2 := by decide +kernel
def tb_M_lookup_5 : List (Nat × (Instr × Nat)) := [(87, (.iload 4, 2)), (89, (.iconst (-1), 1)), (90, (.if_icmp .eq 38, 3)), (93, (.aload_n 0, 1)), (94, (.iload 4, 2)), (96, (.iload_n 2, 1)), (97, (.invokevirtual 197, 3)), (100, (.ifCond .eq 11, 3)), (103, (.aload_n 0, 1)), (104, (.getfield 29, 3))]
theorem td_M_lookup_5 : ∀ q ∈ tb_M_lookup_5, decode prog_8_method_52_code q.1 = .ok q.2 := by decide +kernel
def tb_M_lookup_6 : List (Nat × (Instr × Nat)) := [(107, (.iload 4, 2)), (109, (.iaload, 1)), (110, (.ireturn, 1)), (111, (.aload_n 0, 1)), (112, (.getfield 29, 3)), (115, (.aload_n 0, 1)), (116, (.getfield 29, 3)), (119, (.iload 4, 2)), (121, (.iaload, 1)), (122, (.iaload, 1))]
theorem td_M_lookup_6 : ∀ q ∈ tb_M_lookup_6, decode prog_8_method_52_code q.1 = .ok q.2 := by decide +kernel
def tb_M_lookup_7 : List (Nat × (Instr × Nat)) := [(123, (.istore 4, 2)), (125, (.goto (-38), 3)), (128, (.iconst (-1), 1)), (129, (.ireturn, 1))]
theorem td_M_lookup_7 : ∀ q ∈ tb_M_lookup_7, decode prog_8_method_52_code q.1 = .ok q.2 := by decide +kernel
def tb_M_lookup : Nat → Option (Instr × Nat) := (am_nd 72 (am_nd 38 (am_nd 18 (am_look tb_M_lookup_0) (am_look tb_M_lookup_1)) (am_nd 55 (am_look tb_M_lookup_2) (am_look tb_M_lookup_3))) (am_nd 107 (am_nd 87 (am_look tb_M_lookup_4) (am_look tb_M_lookup_5)) (am_nd 123 (am_look tb_M_lookup_6) (am_look tb_M_lookup_7))))
theorem td_M_lookup : am_dok prog_8_method_52_code tb_M_lookup := (am_dok_nd (am_dok_nd (am_dok_nd (am_dok_lf td_M_lookup_0) (am_dok_lf td_M_lookup_1)) (am_dok_nd (am_dok_lf td_M_lookup_2) (am_dok_lf td_M_lookup_3))) (am_dok_nd (am_dok_nd (am_dok_lf td_M_lookup_4) (am_dok_lf td_M_lookup_5)) (am_dok_nd (am_dok_lf td_M_lookup_6) (am_dok_lf td_M_lookup_7))))
def m_M_lookup : am_M := (⟨"SyntaxRowsModel", "lookup", "(II)I"⟩, prog_8_method_52_code, 5, (some .int), 6, 2, tb_M_lookup)
set_option maxRecDepth 100000 in
theorem ok_M_lookup : am_ok m_M_lookup := ⟨td_M_lookup, am_in 1355 rfl rfl, am_in 103 (by decide +kernel) rfl, by decide, ⟨by decide, by decide, by decide +kernel⟩, rfl, by decide⟩
theorem oi_M_lookup : am_inst m_M_lookup := ⟨am_in 1353 (by decide +kernel) rfl, am_in 1354 (by decide +kernel) rfl⟩
def tb_M_write_0 : List (Nat × (Instr × Nat)) := [(0, (.aload_n 0, 1)), (1, (.iload_n 3, 1)), (2, (.ifCond .ne 11, 3)), (5, (.aload_n 0, 1)), (6, (.iload_n 1, 1)), (7, (.invokevirtual 264, 3)), (10, (.ifCond .eq 7, 3)), (13, (.iconst 0, 1)), (14, (.goto 4, 3)), (17, (.iconst 1, 1))]
theorem td_M_write_0 : ∀ q ∈ tb_M_write_0, decode prog_8_method_69_code q.1 = .ok q.2 := by decide +kernel
def tb_M_write_1 : List (Nat × (Instr × Nat)) := [(18, (.putfield 66, 3)), (21, (.aload_n 0, 1)), (22, (.getfield 66, 3)), (25, (.ifCond .le 5, 3)), (28, (.iconst 0, 1)), (29, (.ireturn, 1)), (30, (.aload_n 0, 1)), (31, (.iconst 0, 1)), (32, (.putfield 267, 3)), (35, (.aload_n 0, 1))]
theorem td_M_write_1 : ∀ q ∈ tb_M_write_1, decode prog_8_method_69_code q.1 = .ok q.2 := by decide +kernel
def tb_M_write_2 : List (Nat × (Instr × Nat)) := [(36, (.iload_n 2, 1)), (37, (.putfield 273, 3)), (40, (.iload_n 3, 1)), (41, (.ifCond .ne 8, 3)), (44, (.aload_n 0, 1)), (45, (.iload_n 1, 1)), (46, (.invokevirtual 325, 3)), (49, (.iconst 0, 1)), (50, (.istore 4, 2)), (52, (.iload 4, 2))]
theorem td_M_write_2 : ∀ q ∈ tb_M_write_2, decode prog_8_method_69_code q.1 = .ok q.2 := by decide +kernel
def tb_M_write_3 : List (Nat × (Instr × Nat)) := [(54, (.aload_n 0, 1)), (55, (.getfield 236, 3)), (58, (.if_icmp .ge 35, 3)), (61, (.iload_n 3, 1)), (62, (.ifCond .eq 31, 3)), (65, (.aload_n 0, 1)), (66, (.getfield 13, 3)), (69, (.bipush 8, 2)), (71, (.iload 4, 2)), (73, (.imul, 1))]
theorem td_M_write_3 : ∀ q ∈ tb_M_write_3, decode prog_8_method_69_code q.1 = .ok q.2 := by decide +kernel
def tb_M_write_4 : List (Nat × (Instr × Nat)) := [(74, (.iconst 2, 1)), (75, (.iadd, 1)), (76, (.iaload, 1)), (77, (.iconst (-1), 1)), (78, (.if_icmp .eq 9, 3)), (81, (.aload_n 0, 1)), (82, (.iload 4, 2)), (84, (.invokevirtual 328, 3)), (87, (.iinc 4 1, 3)), (90, (.goto (-38), 3))]
theorem td_M_write_4 : ∀ q ∈ tb_M_write_4, decode prog_8_method_69_code q.1 = .ok q.2 := by decide +kernel
def tb_M_write_5 : List (Nat × (Instr × Nat)) := [(93, (.aload_n 0, 1)), (94, (.getfield 267, 3)), (97, (.sipush 4000, 3)), (100, (.if_icmp .le 5, 3)), (103, (.iconst (-1), 1)), (104, (.ireturn, 1)), (105, (.aload_n 0, 1)), (106, (.aload_n 0, 1)), (107, (.getfield 267, 3)), (110, (.putfield 331, 3))]
theorem td_M_write_5 : ∀ q ∈ tb_M_write_5, decode prog_8_method_69_code q.1 = .ok q.2 := by decide +kernel
def tb_M_write_6 : List (Nat × (Instr × Nat)) := [(113, (.iconst 0, 1)), (114, (.istore 4, 2)), (116, (.iload 4, 2)), (118, (.aload_n 0, 1)), (119, (.getfield 267, 3)), (122, (.if_icmp .ge 23, 3)), (125, (.aload_n 0, 1)), (126, (.getfield 53, 3)), (129, (.iload 4, 2)), (131, (.aload_n 0, 1))]
theorem td_M_write_6 : ∀ q ∈ tb_M_write_6, decode prog_8_method_69_code q.1 = .ok q.2 := by decide +kernel
def tb_M_write_7 : List (Nat × (Instr × Nat)) := [(132, (.getfield 56, 3)), (135, (.iload 4, 2)), (137, (.iaload, 1)), (138, (.iastore, 1)), (139, (.iinc 4 1, 3)), (142, (.goto (-26), 3)), (145, (.aload_n 0, 1)), (146, (.getfield 267, 3)), (149, (.ireturn, 1))]
theorem td_M_write_7 : ∀ q ∈ tb_M_write_7, decode prog_8_method_69_code q.1 = .ok q.2 := by decide +kernel
def tb_M_write : Nat → Option (Instr × Nat) := (am_nd 74 (am_nd 36 (am_nd 18 (am_look tb_M_write_0) (am_look tb_M_write_1)) (am_nd 54 (am_look tb_M_write_2) (am_look tb_M_write_3))) (am_nd 113 (am_nd 93 (am_look tb_M_write_4) (am_look tb_M_write_5)) (am_nd 132 (am_look tb_M_write_6) (am_look tb_M_write_7))))
theorem td_M_write : am_dok prog_8_method_69_code tb_M_write := (am_dok_nd (am_dok_nd (am_dok_nd (am_dok_lf td_M_write_0) (am_dok_lf td_M_write_1)) (am_dok_nd (am_dok_lf td_M_write_2) (am_dok_lf td_M_write_3))) (am_dok_nd (am_dok_nd (am_dok_lf td_M_write_4) (am_dok_lf td_M_write_5)) (am_dok_nd (am_dok_lf td_M_write_6) (am_dok_lf td_M_write_7))))
def m_M_write : am_M := (⟨"SyntaxRowsModel", "write", "(IZZ)I"⟩, prog_8_method_69_code, 5, (some .int), 6, 3, tb_M_write)
set_option maxRecDepth 100000 in
theorem ok_M_write : am_ok m_M_write := ⟨td_M_write, am_in 1359 rfl rfl, am_in 103 (by decide +kernel) rfl, by decide, ⟨by decide, by decide, by decide +kernel⟩, rfl, by decide⟩
theorem oi_M_write : am_inst m_M_write := ⟨am_in 1357 (by decide +kernel) rfl, am_in 1358 (by decide +kernel) rfl⟩
def tb_M_putWhole_0 : List (Nat × (Instr × Nat)) := [(0, (.aload_n 0, 1)), (1, (.iconst 0, 1)), (2, (.putfield 276, 3)), (5, (.aload_n 0, 1)), (6, (.getfield 16, 3)), (9, (.iload_n 1, 1)), (10, (.iaload, 1)), (11, (.bipush 9, 2)), (13, (.if_icmp .eq 10, 3)), (16, (.aload_n 0, 1))]
theorem td_M_putWhole_0 : ∀ q ∈ tb_M_putWhole_0, decode prog_8_method_67_code q.1 = .ok q.2 := by decide +kernel
def tb_M_putWhole_1 : List (Nat × (Instr × Nat)) := [(17, (.iload_n 1, 1)), (18, (.iconst (-1), 1)), (19, (.invokevirtual 322, 3)), (22, (.return_, 1)), (23, (.aload_n 0, 1)), (24, (.aload_n 0, 1)), (25, (.getfield 23, 3)), (28, (.iload_n 1, 1)), (29, (.iaload, 1)), (30, (.aload_n 0, 1))]
theorem td_M_putWhole_1 : ∀ q ∈ tb_M_putWhole_1, decode prog_8_method_67_code q.1 = .ok q.2 := by decide +kernel
def tb_M_putWhole_2 : List (Nat × (Instr × Nat)) := [(31, (.getfield 38, 3)), (34, (.iload_n 1, 1)), (35, (.iaload, 1)), (36, (.invokevirtual 322, 3)), (39, (.aload_n 0, 1)), (40, (.bipush 10, 2)), (42, (.invokevirtual 270, 3)), (45, (.aload_n 0, 1)), (46, (.iconst 2, 1)), (47, (.invokevirtual 295, 3))]
theorem td_M_putWhole_2 : ∀ q ∈ tb_M_putWhole_2, decode prog_8_method_67_code q.1 = .ok q.2 := by decide +kernel
def tb_M_putWhole_3 : List (Nat × (Instr × Nat)) := [(50, (.aload_n 0, 1)), (51, (.bipush 10, 2)), (53, (.invokevirtual 270, 3)), (56, (.iconst 0, 1)), (57, (.istore_n 2, 1)), (58, (.iload_n 2, 1)), (59, (.aload_n 0, 1)), (60, (.getfield 38, 3)), (63, (.iload_n 1, 1)), (64, (.iaload, 1))]
theorem td_M_putWhole_3 : ∀ q ∈ tb_M_putWhole_3, decode prog_8_method_67_code q.1 = .ok q.2 := by decide +kernel
def tb_M_putWhole_4 : List (Nat × (Instr × Nat)) := [(65, (.if_icmp .ge 26, 3)), (68, (.aload_n 0, 1)), (69, (.aload_n 0, 1)), (70, (.getfield 41, 3)), (73, (.aload_n 0, 1)), (74, (.getfield 35, 3)), (77, (.iload_n 1, 1)), (78, (.iaload, 1)), (79, (.iload_n 2, 1)), (80, (.iadd, 1))]
theorem td_M_putWhole_4 : ∀ q ∈ tb_M_putWhole_4, decode prog_8_method_67_code q.1 = .ok q.2 := by decide +kernel
def tb_M_putWhole_5 : List (Nat × (Instr × Nat)) := [(81, (.iaload, 1)), (82, (.invokevirtual 270, 3)), (85, (.iinc 2 1, 3)), (88, (.goto (-30), 3)), (91, (.aload_n 0, 1)), (92, (.bipush 10, 2)), (94, (.invokevirtual 270, 3)), (97, (.aload_n 0, 1)), (98, (.iconst 0, 1)), (99, (.invokevirtual 295, 3))]
theorem td_M_putWhole_5 : ∀ q ∈ tb_M_putWhole_5, decode prog_8_method_67_code q.1 = .ok q.2 := by decide +kernel
def tb_M_putWhole_6 : List (Nat × (Instr × Nat)) := [(102, (.return_, 1))]
theorem td_M_putWhole_6 : ∀ q ∈ tb_M_putWhole_6, decode prog_8_method_67_code q.1 = .ok q.2 := by decide +kernel
def tb_M_putWhole : Nat → Option (Instr × Nat) := (am_nd 50 (am_nd 17 (am_look tb_M_putWhole_0) (am_nd 31 (am_look tb_M_putWhole_1) (am_look tb_M_putWhole_2))) (am_nd 81 (am_nd 65 (am_look tb_M_putWhole_3) (am_look tb_M_putWhole_4)) (am_nd 102 (am_look tb_M_putWhole_5) (am_look tb_M_putWhole_6))))
theorem td_M_putWhole : am_dok prog_8_method_67_code tb_M_putWhole := (am_dok_nd (am_dok_nd (am_dok_lf td_M_putWhole_0) (am_dok_nd (am_dok_lf td_M_putWhole_1) (am_dok_lf td_M_putWhole_2))) (am_dok_nd (am_dok_nd (am_dok_lf td_M_putWhole_3) (am_dok_lf td_M_putWhole_4)) (am_dok_nd (am_dok_lf td_M_putWhole_5) (am_dok_lf td_M_putWhole_6))))
def m_M_putWhole : am_M := (⟨"SyntaxRowsModel", "putWhole", "(I)V"⟩, prog_8_method_67_code, 3, none, 6, 1, tb_M_putWhole)
set_option maxRecDepth 100000 in
theorem ok_M_putWhole : am_ok m_M_putWhole := ⟨td_M_putWhole, am_in 1363 rfl rfl, am_in 103 (by decide +kernel) rfl, by decide, ⟨by decide, by decide, by decide +kernel⟩, rfl, by decide⟩
theorem oi_M_putWhole : am_inst m_M_putWhole := ⟨am_in 1362 (by decide +kernel) rfl, am_in 80 (by decide +kernel) rfl⟩
def tb_M_putValue_0 : List (Nat × (Instr × Nat)) := [(0, (.aload_n 0, 1)), (1, (.iconst 0, 1)), (2, (.putfield 204, 3)), (5, (.aload_n 0, 1)), (6, (.getfield 16, 3)), (9, (.iload_n 1, 1)), (10, (.iaload, 1)), (11, (.bipush 6, 2)), (13, (.if_icmp .eq 20, 3)), (16, (.aload_n 0, 1))]
theorem td_M_putValue_0 : ∀ q ∈ tb_M_putValue_0, decode prog_8_method_65_code q.1 = .ok q.2 := by decide +kernel
def tb_M_putValue_1 : List (Nat × (Instr × Nat)) := [(17, (.getfield 16, 3)), (20, (.iload_n 1, 1)), (21, (.iaload, 1)), (22, (.bipush 7, 2)), (24, (.if_icmp .eq 9, 3)), (27, (.aload_n 0, 1)), (28, (.iload_n 1, 1)), (29, (.invokevirtual 310, 3)), (32, (.return_, 1)), (33, (.aload_n 0, 1))]
theorem td_M_putValue_1 : ∀ q ∈ tb_M_putValue_1, decode prog_8_method_65_code q.1 = .ok q.2 := by decide +kernel
def tb_M_putValue_2 : List (Nat × (Instr × Nat)) := [(34, (.iload_n 1, 1)), (35, (.invokevirtual 313, 3)), (38, (.aload_n 0, 1)), (39, (.getfield 204, 3)), (42, (.ifCond .le 139, 3)), (45, (.aload_n 0, 1)), (46, (.getfield 59, 3)), (49, (.aload_n 0, 1)), (50, (.getfield 204, 3)), (53, (.iconst 1, 1))]
theorem td_M_putValue_2 : ∀ q ∈ tb_M_putValue_2, decode prog_8_method_65_code q.1 = .ok q.2 := by decide +kernel
def tb_M_putValue_3 : List (Nat × (Instr × Nat)) := [(54, (.isub, 1)), (55, (.iaload, 1)), (56, (.istore_n 3, 1)), (57, (.iload_n 3, 1)), (58, (.iconst (-1), 1)), (59, (.if_icmp .ne 11, 3)), (62, (.aload_n 0, 1)), (63, (.iload_n 2, 1)), (64, (.invokevirtual 316, 3)), (67, (.goto 111, 3))]
theorem td_M_putValue_3 : ∀ q ∈ tb_M_putValue_3, decode prog_8_method_65_code q.1 = .ok q.2 := by decide +kernel
def tb_M_putValue_4 : List (Nat × (Instr × Nat)) := [(70, (.aload_n 0, 1)), (71, (.getfield 59, 3)), (74, (.aload_n 0, 1)), (75, (.getfield 204, 3)), (78, (.iconst 1, 1)), (79, (.isub, 1)), (80, (.aload_n 0, 1)), (81, (.getfield 29, 3)), (84, (.iload_n 3, 1)), (85, (.iaload, 1))]
theorem td_M_putValue_4 : ∀ q ∈ tb_M_putValue_4, decode prog_8_method_65_code q.1 = .ok q.2 := by decide +kernel
def tb_M_putValue_5 : List (Nat × (Instr × Nat)) := [(86, (.iastore, 1)), (87, (.aload_n 0, 1)), (88, (.getfield 204, 3)), (91, (.iconst 1, 1)), (92, (.if_icmp .ne 51, 3)), (95, (.iload_n 2, 1)), (96, (.ifCond .lt 47, 3)), (99, (.aload_n 0, 1)), (100, (.getfield 16, 3)), (103, (.iload_n 3, 1))]
theorem td_M_putValue_5 : ∀ q ∈ tb_M_putValue_5, decode prog_8_method_65_code q.1 = .ok q.2 := by decide +kernel
def tb_M_putValue_6 : List (Nat × (Instr × Nat)) := [(104, (.iaload, 1)), (105, (.iconst 4, 1)), (106, (.if_icmp .ne 37, 3)), (109, (.iload_n 3, 1)), (110, (.aload_n 0, 1)), (111, (.iload_n 1, 1)), (112, (.invokevirtual 319, 3)), (115, (.if_icmp .ne 28, 3)), (118, (.aload_n 0, 1)), (119, (.iload_n 2, 1))]
theorem td_M_putValue_6 : ∀ q ∈ tb_M_putValue_6, decode prog_8_method_65_code q.1 = .ok q.2 := by decide +kernel
def tb_M_putValue_7 : List (Nat × (Instr × Nat)) := [(120, (.invokevirtual 307, 3)), (123, (.aload_n 0, 1)), (124, (.getfield 59, 3)), (127, (.iconst 0, 1)), (128, (.aload_n 0, 1)), (129, (.getfield 29, 3)), (132, (.aload_n 0, 1)), (133, (.getfield 29, 3)), (136, (.iload_n 3, 1)), (137, (.iaload, 1))]
theorem td_M_putValue_7 : ∀ q ∈ tb_M_putValue_7, decode prog_8_method_65_code q.1 = .ok q.2 := by decide +kernel
def tb_M_putValue_8 : List (Nat × (Instr × Nat)) := [(138, (.iaload, 1)), (139, (.iastore, 1)), (140, (.goto 38, 3)), (143, (.aload_n 0, 1)), (144, (.getfield 16, 3)), (147, (.iload_n 3, 1)), (148, (.iaload, 1)), (149, (.bipush 6, 2)), (151, (.if_icmp .eq 14, 3)), (154, (.aload_n 0, 1))]
theorem td_M_putValue_8 : ∀ q ∈ tb_M_putValue_8, decode prog_8_method_65_code q.1 = .ok q.2 := by decide +kernel
def tb_M_putValue_9 : List (Nat × (Instr × Nat)) := [(155, (.getfield 16, 3)), (158, (.iload_n 3, 1)), (159, (.iaload, 1)), (160, (.bipush 7, 2)), (162, (.if_icmp .ne 11, 3)), (165, (.aload_n 0, 1)), (166, (.iload_n 3, 1)), (167, (.invokevirtual 313, 3)), (170, (.goto 8, 3)), (173, (.aload_n 0, 1))]
theorem td_M_putValue_9 : ∀ q ∈ tb_M_putValue_9, decode prog_8_method_65_code q.1 = .ok q.2 := by decide +kernel
def tb_M_putValue_10 : List (Nat × (Instr × Nat)) := [(174, (.iload_n 3, 1)), (175, (.invokevirtual 310, 3)), (178, (.goto (-140), 3)), (181, (.return_, 1))]
theorem td_M_putValue_10 : ∀ q ∈ tb_M_putValue_10, decode prog_8_method_65_code q.1 = .ok q.2 := by decide +kernel
def tb_M_putValue : Nat → Option (Instr × Nat) := (am_nd 86 (am_nd 34 (am_nd 17 (am_look tb_M_putValue_0) (am_look tb_M_putValue_1)) (am_nd 54 (am_look tb_M_putValue_2) (am_nd 70 (am_look tb_M_putValue_3) (am_look tb_M_putValue_4)))) (am_nd 138 (am_nd 104 (am_look tb_M_putValue_5) (am_nd 120 (am_look tb_M_putValue_6) (am_look tb_M_putValue_7))) (am_nd 155 (am_look tb_M_putValue_8) (am_nd 174 (am_look tb_M_putValue_9) (am_look tb_M_putValue_10)))))
theorem td_M_putValue : am_dok prog_8_method_65_code tb_M_putValue := (am_dok_nd (am_dok_nd (am_dok_nd (am_dok_lf td_M_putValue_0) (am_dok_lf td_M_putValue_1)) (am_dok_nd (am_dok_lf td_M_putValue_2) (am_dok_nd (am_dok_lf td_M_putValue_3) (am_dok_lf td_M_putValue_4)))) (am_dok_nd (am_dok_nd (am_dok_lf td_M_putValue_5) (am_dok_nd (am_dok_lf td_M_putValue_6) (am_dok_lf td_M_putValue_7))) (am_dok_nd (am_dok_lf td_M_putValue_8) (am_dok_nd (am_dok_lf td_M_putValue_9) (am_dok_lf td_M_putValue_10)))))
def m_M_putValue : am_M := (⟨"SyntaxRowsModel", "putValue", "(II)V"⟩, prog_8_method_65_code, 4, none, 6, 2, tb_M_putValue)
set_option maxRecDepth 100000 in
theorem ok_M_putValue : am_ok m_M_putValue := ⟨td_M_putValue, am_in 1367 rfl rfl, am_in 103 (by decide +kernel) rfl, by decide, ⟨by decide, by decide, by decide +kernel⟩, rfl, by decide⟩
theorem oi_M_putValue : am_inst m_M_putValue := ⟨am_in 1366 (by decide +kernel) rfl, am_in 81 (by decide +kernel) rfl⟩
def tb_M_putScalar_0 : List (Nat × (Instr × Nat)) := [(0, (.aload_n 0, 1)), (1, (.getfield 16, 3)), (4, (.iload_n 1, 1)), (5, (.iaload, 1)), (6, (.istore_n 2, 1)), (7, (.aload_n 0, 1)), (8, (.iload_n 2, 1)), (9, (.iconst 4, 1)), (10, (.if_icmp .ne 7, 3)), (13, (.iconst 2, 1))]
theorem td_M_putScalar_0 : ∀ q ∈ tb_M_putScalar_0, decode prog_8_method_61_code q.1 = .ok q.2 := by decide +kernel
def tb_M_putScalar_1 : List (Nat × (Instr × Nat)) := [(14, (.goto 13, 3)), (17, (.iload_n 2, 1)), (18, (.iconst 5, 1)), (19, (.if_icmp .ne 7, 3)), (22, (.iconst 3, 1)), (23, (.goto 4, 3)), (26, (.iconst 1, 1)), (27, (.invokevirtual 292, 3)), (30, (.iload_n 2, 1)), (31, (.ifCond .ne 12, 3))]
theorem td_M_putScalar_1 : ∀ q ∈ tb_M_putScalar_1, decode prog_8_method_61_code q.1 = .ok q.2 := by decide +kernel
def tb_M_putScalar_2 : List (Nat × (Instr × Nat)) := [(34, (.aload_n 0, 1)), (35, (.bipush 6, 2)), (37, (.invokevirtual 295, 3)), (40, (.goto 139, 3)), (43, (.iload_n 2, 1)), (44, (.iconst 1, 1)), (45, (.if_icmp .ne 26, 3)), (48, (.aload_n 0, 1)), (49, (.aload_n 0, 1)), (50, (.getfield 19, 3))]
theorem td_M_putScalar_2 : ∀ q ∈ tb_M_putScalar_2, decode prog_8_method_61_code q.1 = .ok q.2 := by decide +kernel
def tb_M_putScalar_3 : List (Nat × (Instr × Nat)) := [(53, (.iload_n 1, 1)), (54, (.laload, 1)), (55, (.lconst 1, 1)), (56, (.lcmp, 1)), (57, (.ifCond .ne 7, 3)), (60, (.iconst 4, 1)), (61, (.goto 4, 3)), (64, (.iconst 5, 1)), (65, (.invokevirtual 295, 3)), (68, (.goto 111, 3))]
theorem td_M_putScalar_3 : ∀ q ∈ tb_M_putScalar_3, decode prog_8_method_61_code q.1 = .ok q.2 := by decide +kernel
def tb_M_putScalar_4 : List (Nat × (Instr × Nat)) := [(71, (.iload_n 2, 1)), (72, (.iconst 2, 1)), (73, (.if_icmp .ne 16, 3)), (76, (.aload_n 0, 1)), (77, (.aload_n 0, 1)), (78, (.getfield 19, 3)), (81, (.iload_n 1, 1)), (82, (.laload, 1)), (83, (.invokevirtual 283, 3)), (86, (.goto 93, 3))]
theorem td_M_putScalar_4 : ∀ q ∈ tb_M_putScalar_4, decode prog_8_method_61_code q.1 = .ok q.2 := by decide +kernel
def tb_M_putScalar_5 : List (Nat × (Instr × Nat)) := [(89, (.iload_n 2, 1)), (90, (.iconst 3, 1)), (91, (.if_icmp .ne 16, 3)), (94, (.aload_n 0, 1)), (95, (.aload_n 0, 1)), (96, (.getfield 19, 3)), (99, (.iload_n 1, 1)), (100, (.laload, 1)), (101, (.invokevirtual 298, 3)), (104, (.goto 75, 3))]
theorem td_M_putScalar_5 : ∀ q ∈ tb_M_putScalar_5, decode prog_8_method_61_code q.1 = .ok q.2 := by decide +kernel
def tb_M_putScalar_6 : List (Nat × (Instr × Nat)) := [(107, (.iload_n 2, 1)), (108, (.iconst 4, 1)), (109, (.if_icmp .ne 11, 3)), (112, (.aload_n 0, 1)), (113, (.iload_n 1, 1)), (114, (.invokevirtual 301, 3)), (117, (.goto 62, 3)), (120, (.iload_n 2, 1)), (121, (.iconst 5, 1)), (122, (.if_icmp .ne 11, 3))]
theorem td_M_putScalar_6 : ∀ q ∈ tb_M_putScalar_6, decode prog_8_method_61_code q.1 = .ok q.2 := by decide +kernel
def tb_M_putScalar_7 : List (Nat × (Instr × Nat)) := [(125, (.aload_n 0, 1)), (126, (.iload_n 1, 1)), (127, (.invokevirtual 304, 3)), (130, (.goto 49, 3)), (133, (.aload_n 0, 1)), (134, (.aload_n 0, 1)), (135, (.getfield 19, 3)), (138, (.iload_n 1, 1)), (139, (.laload, 1)), (140, (.ldc2_w 191, 3))]
theorem td_M_putScalar_7 : ∀ q ∈ tb_M_putScalar_7, decode prog_8_method_61_code q.1 = .ok q.2 := by decide +kernel
def tb_M_putScalar_8 : List (Nat × (Instr × Nat)) := [(143, (.lrem, 1)), (144, (.invokevirtual 283, 3)), (147, (.aload_n 0, 1)), (148, (.bipush 32, 2)), (150, (.invokevirtual 270, 3)), (153, (.aload_n 0, 1)), (154, (.aload_n 0, 1)), (155, (.getfield 19, 3)), (158, (.iload_n 1, 1)), (159, (.laload, 1))]
theorem td_M_putScalar_8 : ∀ q ∈ tb_M_putScalar_8, decode prog_8_method_61_code q.1 = .ok q.2 := by decide +kernel
def tb_M_putScalar_9 : List (Nat × (Instr × Nat)) := [(160, (.ldc2_w 191, 3)), (163, (.ldiv, 1)), (164, (.invokevirtual 283, 3)), (167, (.aload_n 0, 1)), (168, (.bipush 32, 2)), (170, (.invokevirtual 270, 3)), (173, (.aload_n 0, 1)), (174, (.bipush 82, 2)), (176, (.invokevirtual 270, 3)), (179, (.return_, 1))]
theorem td_M_putScalar_9 : ∀ q ∈ tb_M_putScalar_9, decode prog_8_method_61_code q.1 = .ok q.2 := by decide +kernel
def tb_M_putScalar : Nat → Option (Instr × Nat) := (am_nd 89 (am_nd 34 (am_nd 14 (am_look tb_M_putScalar_0) (am_look tb_M_putScalar_1)) (am_nd 53 (am_look tb_M_putScalar_2) (am_nd 71 (am_look tb_M_putScalar_3) (am_look tb_M_putScalar_4)))) (am_nd 125 (am_nd 107 (am_look tb_M_putScalar_5) (am_look tb_M_putScalar_6)) (am_nd 143 (am_look tb_M_putScalar_7) (am_nd 160 (am_look tb_M_putScalar_8) (am_look tb_M_putScalar_9)))))
theorem td_M_putScalar : am_dok prog_8_method_61_code tb_M_putScalar := (am_dok_nd (am_dok_nd (am_dok_nd (am_dok_lf td_M_putScalar_0) (am_dok_lf td_M_putScalar_1)) (am_dok_nd (am_dok_lf td_M_putScalar_2) (am_dok_nd (am_dok_lf td_M_putScalar_3) (am_dok_lf td_M_putScalar_4)))) (am_dok_nd (am_dok_nd (am_dok_lf td_M_putScalar_5) (am_dok_lf td_M_putScalar_6)) (am_dok_nd (am_dok_lf td_M_putScalar_7) (am_dok_nd (am_dok_lf td_M_putScalar_8) (am_dok_lf td_M_putScalar_9)))))
def m_M_putScalar : am_M := (⟨"SyntaxRowsModel", "putScalar", "(I)V"⟩, prog_8_method_61_code, 3, none, 6, 1, tb_M_putScalar)
set_option maxRecDepth 100000 in
theorem ok_M_putScalar : am_ok m_M_putScalar := ⟨td_M_putScalar, am_in 1371 rfl rfl, am_in 103 (by decide +kernel) rfl, by decide, ⟨by decide, by decide, by decide +kernel⟩, rfl, by decide⟩
theorem oi_M_putScalar : am_inst m_M_putScalar := ⟨am_in 1370 (by decide +kernel) rfl, am_in 82 (by decide +kernel) rfl⟩
def tb_M_part_0 : List (Nat × (Instr × Nat)) := [(0, (.aload_n 0, 1)), (1, (.getfield 273, 3)), (4, (.ifCond .eq 31, 3)), (7, (.aload_n 0, 1)), (8, (.getfield 276, 3)), (11, (.ifCond .eq 20, 3)), (14, (.aload_n 0, 1)), (15, (.getfield 276, 3)), (18, (.iconst 4, 1)), (19, (.if_icmp .eq 12, 3))]
theorem td_M_part_0 : ∀ q ∈ tb_M_part_0, decode prog_8_method_55_code q.1 = .ok q.2 := by decide +kernel
def tb_M_part_1 : List (Nat × (Instr × Nat)) := [(22, (.iload_n 1, 1)), (23, (.iconst 5, 1)), (24, (.if_icmp .eq 7, 3)), (27, (.iconst 1, 1)), (28, (.goto 33, 3)), (31, (.iconst 0, 1)), (32, (.goto 29, 3)), (35, (.iload_n 1, 1)), (36, (.iconst 1, 1)), (37, (.if_icmp .ne 23, 3))]
theorem td_M_part_1 : ∀ q ∈ tb_M_part_1, decode prog_8_method_55_code q.1 = .ok q.2 := by decide +kernel
def tb_M_part_2 : List (Nat × (Instr × Nat)) := [(40, (.aload_n 0, 1)), (41, (.getfield 276, 3)), (44, (.iconst 1, 1)), (45, (.if_icmp .eq 11, 3)), (48, (.aload_n 0, 1)), (49, (.getfield 276, 3)), (52, (.iconst 2, 1)), (53, (.if_icmp .ne 7, 3)), (56, (.iconst 1, 1)), (57, (.goto 4, 3))]
theorem td_M_part_2 : ∀ q ∈ tb_M_part_2, decode prog_8_method_55_code q.1 = .ok q.2 := by decide +kernel
def tb_M_part_3 : List (Nat × (Instr × Nat)) := [(60, (.iconst 0, 1)), (61, (.istore_n 2, 1)), (62, (.iload_n 2, 1)), (63, (.ifCond .eq 9, 3)), (66, (.aload_n 0, 1)), (67, (.bipush 32, 2)), (69, (.invokevirtual 270, 3)), (72, (.aload_n 0, 1)), (73, (.iload_n 1, 1)), (74, (.putfield 276, 3))]
theorem td_M_part_3 : ∀ q ∈ tb_M_part_3, decode prog_8_method_55_code q.1 = .ok q.2 := by decide +kernel
def tb_M_part_4 : List (Nat × (Instr × Nat)) := [(77, (.return_, 1))]
theorem td_M_part_4 : ∀ q ∈ tb_M_part_4, decode prog_8_method_55_code q.1 = .ok q.2 := by decide +kernel
def tb_M_part : Nat → Option (Instr × Nat) := (am_nd 40 (am_nd 22 (am_look tb_M_part_0) (am_look tb_M_part_1)) (am_nd 60 (am_look tb_M_part_2) (am_nd 77 (am_look tb_M_part_3) (am_look tb_M_part_4))))
theorem td_M_part : am_dok prog_8_method_55_code tb_M_part := (am_dok_nd (am_dok_nd (am_dok_lf td_M_part_0) (am_dok_lf td_M_part_1)) (am_dok_nd (am_dok_lf td_M_part_2) (am_dok_nd (am_dok_lf td_M_part_3) (am_dok_lf td_M_part_4))))
def m_M_part : am_M := (⟨"SyntaxRowsModel", "part", "(I)V"⟩, prog_8_method_55_code, 3, none, 6, 1, tb_M_part)
set_option maxRecDepth 100000 in
theorem ok_M_part : am_ok m_M_part := ⟨td_M_part, am_in 1375 rfl rfl, am_in 103 (by decide +kernel) rfl, by decide, ⟨by decide, by decide, by decide +kernel⟩, rfl, by decide⟩
theorem oi_M_part : am_inst m_M_part := ⟨am_in 1374 (by decide +kernel) rfl, am_in 83 (by decide +kernel) rfl⟩
def tb_M_put_0 : List (Nat × (Instr × Nat)) := [(0, (.aload_n 0, 1)), (1, (.getfield 267, 3)), (4, (.sipush 4000, 3)), (7, (.if_icmp .ge 13, 3)), (10, (.aload_n 0, 1)), (11, (.getfield 56, 3)), (14, (.aload_n 0, 1)), (15, (.getfield 267, 3)), (18, (.iload_n 1, 1)), (19, (.iastore, 1))]
theorem td_M_put_0 : ∀ q ∈ tb_M_put_0, decode prog_8_method_53_code q.1 = .ok q.2 := by decide +kernel
def tb_M_put_1 : List (Nat × (Instr × Nat)) := [(20, (.aload_n 0, 1)), (21, (.dup, 1)), (22, (.getfield 267, 3)), (25, (.iconst 1, 1)), (26, (.iadd, 1)), (27, (.putfield 267, 3)), (30, (.return_, 1))]
theorem td_M_put_1 : ∀ q ∈ tb_M_put_1, decode prog_8_method_53_code q.1 = .ok q.2 := by decide +kernel
def tb_M_put : Nat → Option (Instr × Nat) := (am_nd 20 (am_look tb_M_put_0) (am_look tb_M_put_1))
theorem td_M_put : am_dok prog_8_method_53_code tb_M_put := (am_dok_nd (am_dok_lf td_M_put_0) (am_dok_lf td_M_put_1))
def m_M_put : am_M := (⟨"SyntaxRowsModel", "put", "(I)V"⟩, prog_8_method_53_code, 2, none, 6, 1, tb_M_put)
set_option maxRecDepth 100000 in
theorem ok_M_put : am_ok m_M_put := ⟨td_M_put, am_in 1379 rfl rfl, am_in 103 (by decide +kernel) rfl, by decide, ⟨by decide, by decide, by decide +kernel⟩, rfl, by decide⟩
theorem oi_M_put : am_inst m_M_put := ⟨am_in 1378 (by decide +kernel) rfl, am_in 84 (by decide +kernel) rfl⟩
def tb_M_putWord_0 : List (Nat × (Instr × Nat)) := [(0, (.iconst 0, 1)), (1, (.istore_n 2, 1)), (2, (.iload_n 1, 1)), (3, (.iload_n 2, 1)), (4, (.invokestatic 106, 3)), (7, (.ifCond .le 18, 3)), (10, (.aload_n 0, 1)), (11, (.iload_n 1, 1)), (12, (.iload_n 2, 1)), (13, (.invokestatic 106, 3))]
theorem td_M_putWord_0 : ∀ q ∈ tb_M_putWord_0, decode prog_8_method_54_code q.1 = .ok q.2 := by decide +kernel
def tb_M_putWord_1 : List (Nat × (Instr × Nat)) := [(16, (.invokevirtual 270, 3)), (19, (.iinc 2 1, 3)), (22, (.goto (-20), 3)), (25, (.return_, 1))]
theorem td_M_putWord_1 : ∀ q ∈ tb_M_putWord_1, decode prog_8_method_54_code q.1 = .ok q.2 := by decide +kernel
def tb_M_putWord : Nat → Option (Instr × Nat) := (am_nd 16 (am_look tb_M_putWord_0) (am_look tb_M_putWord_1))
theorem td_M_putWord : am_dok prog_8_method_54_code tb_M_putWord := (am_dok_nd (am_dok_lf td_M_putWord_0) (am_dok_lf td_M_putWord_1))
def m_M_putWord : am_M := (⟨"SyntaxRowsModel", "putWord", "(I)V"⟩, prog_8_method_54_code, 3, none, 6, 1, tb_M_putWord)
set_option maxRecDepth 100000 in
theorem ok_M_putWord : am_ok m_M_putWord := ⟨td_M_putWord, am_in 1383 rfl rfl, am_in 103 (by decide +kernel) rfl, by decide, ⟨by decide, by decide, by decide +kernel⟩, rfl, by decide⟩
theorem oi_M_putWord : am_inst m_M_putWord := ⟨am_in 1382 (by decide +kernel) rfl, am_in 85 (by decide +kernel) rfl⟩
def tb_M_putNumber_0 : List (Nat × (Instr × Nat)) := [(0, (.lload_n 1, 1)), (1, (.lconst 0, 1)), (2, (.lcmp, 1)), (3, (.ifCond .ge 9, 3)), (6, (.aload_n 0, 1)), (7, (.bipush 45, 2)), (9, (.invokevirtual 270, 3)), (12, (.lload_n 1, 1)), (13, (.lconst 0, 1)), (14, (.lcmp, 1))]
theorem td_M_putNumber_0 : ∀ q ∈ tb_M_putNumber_0, decode prog_8_method_56_code q.1 = .ok q.2 := by decide +kernel
def tb_M_putNumber_1 : List (Nat × (Instr × Nat)) := [(15, (.ifCond .ge 8, 3)), (18, (.lload_n 1, 1)), (19, (.lneg, 1)), (20, (.goto 4, 3)), (23, (.lload_n 1, 1)), (24, (.lstore_n 3, 1)), (25, (.lconst 1, 1)), (26, (.lstore 5, 2)), (28, (.lload_n 3, 1)), (29, (.lload 5, 2))]
theorem td_M_putNumber_1 : ∀ q ∈ tb_M_putNumber_1, decode prog_8_method_56_code q.1 = .ok q.2 := by decide +kernel
def tb_M_putNumber_2 : List (Nat × (Instr × Nat)) := [(31, (.ldiv, 1)), (32, (.ldc2_w 279, 3)), (35, (.lcmp, 1)), (36, (.ifCond .le 14, 3)), (39, (.ldc2_w 120, 3)), (42, (.lload 5, 2)), (44, (.lmul, 1)), (45, (.lstore 5, 2)), (47, (.goto (-19), 3)), (50, (.lload 5, 2))]
theorem td_M_putNumber_2 : ∀ q ∈ tb_M_putNumber_2, decode prog_8_method_56_code q.1 = .ok q.2 := by decide +kernel
def tb_M_putNumber_3 : List (Nat × (Instr × Nat)) := [(52, (.lconst 0, 1)), (53, (.lcmp, 1)), (54, (.ifCond .le 31, 3)), (57, (.aload_n 0, 1)), (58, (.ldc2_w 122, 3)), (61, (.lload_n 3, 1)), (62, (.lload 5, 2)), (64, (.ldiv, 1)), (65, (.ldc2_w 120, 3)), (68, (.lrem, 1))]
theorem td_M_putNumber_3 : ∀ q ∈ tb_M_putNumber_3, decode prog_8_method_56_code q.1 = .ok q.2 := by decide +kernel
def tb_M_putNumber_4 : List (Nat × (Instr × Nat)) := [(69, (.ladd, 1)), (70, (.l2i, 1)), (71, (.invokevirtual 270, 3)), (74, (.lload 5, 2)), (76, (.ldc2_w 120, 3)), (79, (.ldiv, 1)), (80, (.lstore 5, 2)), (82, (.goto (-32), 3)), (85, (.return_, 1))]
theorem td_M_putNumber_4 : ∀ q ∈ tb_M_putNumber_4, decode prog_8_method_56_code q.1 = .ok q.2 := by decide +kernel
def tb_M_putNumber : Nat → Option (Instr × Nat) := (am_nd 31 (am_nd 15 (am_look tb_M_putNumber_0) (am_look tb_M_putNumber_1)) (am_nd 52 (am_look tb_M_putNumber_2) (am_nd 69 (am_look tb_M_putNumber_3) (am_look tb_M_putNumber_4))))
theorem td_M_putNumber : am_dok prog_8_method_56_code tb_M_putNumber := (am_dok_nd (am_dok_nd (am_dok_lf td_M_putNumber_0) (am_dok_lf td_M_putNumber_1)) (am_dok_nd (am_dok_lf td_M_putNumber_2) (am_dok_nd (am_dok_lf td_M_putNumber_3) (am_dok_lf td_M_putNumber_4))))
def m_M_putNumber : am_M := (⟨"SyntaxRowsModel", "putNumber", "(J)V"⟩, prog_8_method_56_code, 7, none, 6, 1, tb_M_putNumber)
set_option maxRecDepth 100000 in
theorem ok_M_putNumber : am_ok m_M_putNumber := ⟨td_M_putNumber, am_in 1387 rfl rfl, am_in 103 (by decide +kernel) rfl, by decide, ⟨by decide, by decide, by decide +kernel⟩, rfl, by decide⟩
theorem oi_M_putNumber : am_inst m_M_putNumber := ⟨am_in 1386 (by decide +kernel) rfl, am_in 86 (by decide +kernel) rfl⟩
def tb_M_putReal_0 : List (Nat × (Instr × Nat)) := [(0, (.lload_n 1, 1)), (1, (.lconst 0, 1)), (2, (.lcmp, 1)), (3, (.ifCond .ge 8, 3)), (6, (.lload_n 1, 1)), (7, (.lneg, 1)), (8, (.goto 4, 3)), (11, (.lload_n 1, 1)), (12, (.lstore_n 3, 1)), (13, (.lload_n 1, 1))]
theorem td_M_putReal_0 : ∀ q ∈ tb_M_putReal_0, decode prog_8_method_57_code q.1 = .ok q.2 := by decide +kernel
def tb_M_putReal_1 : List (Nat × (Instr × Nat)) := [(14, (.lconst 0, 1)), (15, (.lcmp, 1)), (16, (.ifCond .ge 9, 3)), (19, (.aload_n 0, 1)), (20, (.bipush 45, 2)), (22, (.invokevirtual 270, 3)), (25, (.lload_n 3, 1)), (26, (.ldc2_w 281, 3)), (29, (.lcmp, 1)), (30, (.ifCond .lt 12, 3))]
theorem td_M_putReal_1 : ∀ q ∈ tb_M_putReal_1, decode prog_8_method_57_code q.1 = .ok q.2 := by decide +kernel
def tb_M_putReal_2 : List (Nat × (Instr × Nat)) := [(33, (.aload_n 0, 1)), (34, (.lload_n 3, 1)), (35, (.ldc2_w 281, 3)), (38, (.ldiv, 1)), (39, (.invokevirtual 283, 3)), (42, (.aload_n 0, 1)), (43, (.bipush 46, 2)), (45, (.invokevirtual 270, 3)), (48, (.lload_n 3, 1)), (49, (.ldc2_w 281, 3))]
theorem td_M_putReal_2 : ∀ q ∈ tb_M_putReal_2, decode prog_8_method_57_code q.1 = .ok q.2 := by decide +kernel
def tb_M_putReal_3 : List (Nat × (Instr × Nat)) := [(52, (.lrem, 1)), (53, (.lstore 5, 2)), (55, (.ldc2_w 287, 3)), (58, (.lstore 7, 2)), (60, (.lload 5, 2)), (62, (.lconst 0, 1)), (63, (.lcmp, 1)), (64, (.ifCond .le 35, 3)), (67, (.aload_n 0, 1)), (68, (.ldc2_w 122, 3))]
theorem td_M_putReal_3 : ∀ q ∈ tb_M_putReal_3, decode prog_8_method_57_code q.1 = .ok q.2 := by decide +kernel
def tb_M_putReal_4 : List (Nat × (Instr × Nat)) := [(71, (.lload 5, 2)), (73, (.lload 7, 2)), (75, (.ldiv, 1)), (76, (.ladd, 1)), (77, (.l2i, 1)), (78, (.invokevirtual 270, 3)), (81, (.lload 5, 2)), (83, (.lload 7, 2)), (85, (.lrem, 1)), (86, (.lstore 5, 2))]
theorem td_M_putReal_4 : ∀ q ∈ tb_M_putReal_4, decode prog_8_method_57_code q.1 = .ok q.2 := by decide +kernel
def tb_M_putReal_5 : List (Nat × (Instr × Nat)) := [(88, (.lload 7, 2)), (90, (.ldc2_w 120, 3)), (93, (.ldiv, 1)), (94, (.lstore 7, 2)), (96, (.goto (-36), 3)), (99, (.lload_n 1, 1)), (100, (.lconst 0, 1)), (101, (.lcmp, 1)), (102, (.ifCond .ne 9, 3)), (105, (.aload_n 0, 1))]
theorem td_M_putReal_5 : ∀ q ∈ tb_M_putReal_5, decode prog_8_method_57_code q.1 = .ok q.2 := by decide +kernel
def tb_M_putReal_6 : List (Nat × (Instr × Nat)) := [(106, (.bipush 48, 2)), (108, (.invokevirtual 270, 3)), (111, (.return_, 1))]
theorem td_M_putReal_6 : ∀ q ∈ tb_M_putReal_6, decode prog_8_method_57_code q.1 = .ok q.2 := by decide +kernel
def tb_M_putReal : Nat → Option (Instr × Nat) := (am_nd 52 (am_nd 14 (am_look tb_M_putReal_0) (am_nd 33 (am_look tb_M_putReal_1) (am_look tb_M_putReal_2))) (am_nd 88 (am_nd 71 (am_look tb_M_putReal_3) (am_look tb_M_putReal_4)) (am_nd 106 (am_look tb_M_putReal_5) (am_look tb_M_putReal_6))))
theorem td_M_putReal : am_dok prog_8_method_57_code tb_M_putReal := (am_dok_nd (am_dok_nd (am_dok_lf td_M_putReal_0) (am_dok_nd (am_dok_lf td_M_putReal_1) (am_dok_lf td_M_putReal_2))) (am_dok_nd (am_dok_nd (am_dok_lf td_M_putReal_3) (am_dok_lf td_M_putReal_4)) (am_dok_nd (am_dok_lf td_M_putReal_5) (am_dok_lf td_M_putReal_6))))
def m_M_putReal : am_M := (⟨"SyntaxRowsModel", "putReal", "(J)V"⟩, prog_8_method_57_code, 9, none, 6, 1, tb_M_putReal)
set_option maxRecDepth 100000 in
theorem ok_M_putReal : am_ok m_M_putReal := ⟨td_M_putReal, am_in 1392 rfl rfl, am_in 103 (by decide +kernel) rfl, by decide, ⟨by decide, by decide, by decide +kernel⟩, rfl, by decide⟩
theorem oi_M_putReal : am_inst m_M_putReal := ⟨am_in 1391 (by decide +kernel) rfl, am_in 87 (by decide +kernel) rfl⟩
def tb_M_putName_0 : List (Nat × (Instr × Nat)) := [(0, (.aload_n 0, 1)), (1, (.bipush 47, 2)), (3, (.invokevirtual 270, 3)), (6, (.iconst 0, 1)), (7, (.istore_n 2, 1)), (8, (.iload_n 2, 1)), (9, (.aload_n 0, 1)), (10, (.getfield 38, 3)), (13, (.iload_n 1, 1)), (14, (.iaload, 1))]
theorem td_M_putName_0 : ∀ q ∈ tb_M_putName_0, decode prog_8_method_59_code q.1 = .ok q.2 := by decide +kernel
def tb_M_putName_1 : List (Nat × (Instr × Nat)) := [(15, (.if_icmp .ge 55, 3)), (18, (.aload_n 0, 1)), (19, (.getfield 41, 3)), (22, (.aload_n 0, 1)), (23, (.getfield 35, 3)), (26, (.iload_n 1, 1)), (27, (.iaload, 1)), (28, (.iload_n 2, 1)), (29, (.iadd, 1)), (30, (.iaload, 1))]
theorem td_M_putName_1 : ∀ q ∈ tb_M_putName_1, decode prog_8_method_59_code q.1 = .ok q.2 := by decide +kernel
def tb_M_putName_2 : List (Nat × (Instr × Nat)) := [(31, (.istore_n 3, 1)), (32, (.iload_n 3, 1)), (33, (.invokestatic 85, 3)), (36, (.ifCond .eq 17, 3)), (39, (.iload_n 3, 1)), (40, (.bipush 35, 2)), (42, (.if_icmp .eq 11, 3)), (45, (.aload_n 0, 1)), (46, (.iload_n 3, 1)), (47, (.invokevirtual 270, 3))]
theorem td_M_putName_2 : ∀ q ∈ tb_M_putName_2, decode prog_8_method_59_code q.1 = .ok q.2 := by decide +kernel
def tb_M_putName_3 : List (Nat × (Instr × Nat)) := [(50, (.goto 14, 3)), (53, (.aload_n 0, 1)), (54, (.bipush 35, 2)), (56, (.invokevirtual 270, 3)), (59, (.aload_n 0, 1)), (60, (.iload_n 3, 1)), (61, (.invokevirtual 289, 3)), (64, (.iinc 2 1, 3)), (67, (.goto (-59), 3)), (70, (.return_, 1))]
theorem td_M_putName_3 : ∀ q ∈ tb_M_putName_3, decode prog_8_method_59_code q.1 = .ok q.2 := by decide +kernel
def tb_M_putName : Nat → Option (Instr × Nat) := (am_nd 31 (am_nd 15 (am_look tb_M_putName_0) (am_look tb_M_putName_1)) (am_nd 50 (am_look tb_M_putName_2) (am_look tb_M_putName_3)))
theorem td_M_putName : am_dok prog_8_method_59_code tb_M_putName := (am_dok_nd (am_dok_nd (am_dok_lf td_M_putName_0) (am_dok_lf td_M_putName_1)) (am_dok_nd (am_dok_lf td_M_putName_2) (am_dok_lf td_M_putName_3)))
def m_M_putName : am_M := (⟨"SyntaxRowsModel", "putName", "(I)V"⟩, prog_8_method_59_code, 4, none, 6, 1, tb_M_putName)
set_option maxRecDepth 100000 in
theorem ok_M_putName : am_ok m_M_putName := ⟨td_M_putName, am_in 1398 rfl rfl, am_in 103 (by decide +kernel) rfl, by decide, ⟨by decide, by decide, by decide +kernel⟩, rfl, by decide⟩
theorem oi_M_putName : am_inst m_M_putName := ⟨am_in 1397 (by decide +kernel) rfl, am_in 88 (by decide +kernel) rfl⟩
def tb_M_putHex_0 : List (Nat × (Instr × Nat)) := [(0, (.iload_n 1, 1)), (1, (.iconst 4, 1)), (2, (.ishr, 1)), (3, (.istore_n 2, 1)), (4, (.iload_n 1, 1)), (5, (.bipush 15, 2)), (7, (.iand, 1)), (8, (.istore_n 3, 1)), (9, (.aload_n 0, 1)), (10, (.iload_n 2, 1))]
theorem td_M_putHex_0 : ∀ q ∈ tb_M_putHex_0, decode prog_8_method_58_code q.1 = .ok q.2 := by decide +kernel
def tb_M_putHex_1 : List (Nat × (Instr × Nat)) := [(11, (.bipush 10, 2)), (13, (.if_icmp .ge 10, 3)), (16, (.bipush 48, 2)), (18, (.iload_n 2, 1)), (19, (.iadd, 1)), (20, (.goto 10, 3)), (23, (.bipush 65, 2)), (25, (.iload_n 2, 1)), (26, (.iadd, 1)), (27, (.bipush 10, 2))]
theorem td_M_putHex_1 : ∀ q ∈ tb_M_putHex_1, decode prog_8_method_58_code q.1 = .ok q.2 := by decide +kernel
def tb_M_putHex_2 : List (Nat × (Instr × Nat)) := [(29, (.isub, 1)), (30, (.invokevirtual 270, 3)), (33, (.aload_n 0, 1)), (34, (.iload_n 3, 1)), (35, (.bipush 10, 2)), (37, (.if_icmp .ge 10, 3)), (40, (.bipush 48, 2)), (42, (.iload_n 3, 1)), (43, (.iadd, 1)), (44, (.goto 10, 3))]
theorem td_M_putHex_2 : ∀ q ∈ tb_M_putHex_2, decode prog_8_method_58_code q.1 = .ok q.2 := by decide +kernel
def tb_M_putHex_3 : List (Nat × (Instr × Nat)) := [(47, (.bipush 65, 2)), (49, (.iload_n 3, 1)), (50, (.iadd, 1)), (51, (.bipush 10, 2)), (53, (.isub, 1)), (54, (.invokevirtual 270, 3)), (57, (.return_, 1))]
theorem td_M_putHex_3 : ∀ q ∈ tb_M_putHex_3, decode prog_8_method_58_code q.1 = .ok q.2 := by decide +kernel
def tb_M_putHex : Nat → Option (Instr × Nat) := (am_nd 29 (am_nd 11 (am_look tb_M_putHex_0) (am_look tb_M_putHex_1)) (am_nd 47 (am_look tb_M_putHex_2) (am_look tb_M_putHex_3)))
theorem td_M_putHex : am_dok prog_8_method_58_code tb_M_putHex := (am_dok_nd (am_dok_nd (am_dok_lf td_M_putHex_0) (am_dok_lf td_M_putHex_1)) (am_dok_nd (am_dok_lf td_M_putHex_2) (am_dok_lf td_M_putHex_3)))
def m_M_putHex : am_M := (⟨"SyntaxRowsModel", "putHex", "(I)V"⟩, prog_8_method_58_code, 4, none, 6, 1, tb_M_putHex)
set_option maxRecDepth 100000 in
theorem ok_M_putHex : am_ok m_M_putHex := ⟨td_M_putHex, am_in 1402 rfl rfl, am_in 103 (by decide +kernel) rfl, by decide, ⟨by decide, by decide, by decide +kernel⟩, rfl, by decide⟩
theorem oi_M_putHex : am_inst m_M_putHex := ⟨am_in 1401 (by decide +kernel) rfl, am_in 89 (by decide +kernel) rfl⟩
def tb_M_putString_0 : List (Nat × (Instr × Nat)) := [(0, (.iconst 0, 1)), (1, (.istore_n 2, 1)), (2, (.iconst 0, 1)), (3, (.istore_n 3, 1)), (4, (.iload_n 3, 1)), (5, (.aload_n 0, 1)), (6, (.getfield 38, 3)), (9, (.iload_n 1, 1)), (10, (.iaload, 1)), (11, (.if_icmp .ge 62, 3))]
theorem td_M_putString_0 : ∀ q ∈ tb_M_putString_0, decode prog_8_method_60_code q.1 = .ok q.2 := by decide +kernel
def tb_M_putString_1 : List (Nat × (Instr × Nat)) := [(14, (.aload_n 0, 1)), (15, (.getfield 41, 3)), (18, (.aload_n 0, 1)), (19, (.getfield 35, 3)), (22, (.iload_n 1, 1)), (23, (.iaload, 1)), (24, (.iload_n 3, 1)), (25, (.iadd, 1)), (26, (.iaload, 1)), (27, (.istore 4, 2))]
theorem td_M_putString_1 : ∀ q ∈ tb_M_putString_1, decode prog_8_method_60_code q.1 = .ok q.2 := by decide +kernel
def tb_M_putString_2 : List (Nat × (Instr × Nat)) := [(29, (.iload 4, 2)), (31, (.bipush 92, 2)), (33, (.if_icmp .eq 24, 3)), (36, (.iload 4, 2)), (38, (.bipush 40, 2)), (40, (.if_icmp .eq 17, 3)), (43, (.iload 4, 2)), (45, (.bipush 41, 2)), (47, (.if_icmp .eq 10, 3)), (50, (.iload 4, 2))]
theorem td_M_putString_2 : ∀ q ∈ tb_M_putString_2, decode prog_8_method_60_code q.1 = .ok q.2 := by decide +kernel
def tb_M_putString_3 : List (Nat × (Instr × Nat)) := [(52, (.bipush 13, 2)), (54, (.if_icmp .ne 9, 3)), (57, (.iload_n 2, 1)), (58, (.iconst 2, 1)), (59, (.iadd, 1)), (60, (.goto 6, 3)), (63, (.iload_n 2, 1)), (64, (.iconst 1, 1)), (65, (.iadd, 1)), (66, (.istore_n 2, 1))]
theorem td_M_putString_3 : ∀ q ∈ tb_M_putString_3, decode prog_8_method_60_code q.1 = .ok q.2 := by decide +kernel
def tb_M_putString_4 : List (Nat × (Instr × Nat)) := [(67, (.iinc 3 1, 3)), (70, (.goto (-66), 3)), (73, (.iconst 2, 1)), (74, (.aload_n 0, 1)), (75, (.getfield 38, 3)), (78, (.iload_n 1, 1)), (79, (.iaload, 1)), (80, (.imul, 1)), (81, (.iload_n 2, 1)), (82, (.if_icmp .ge 7, 3))]
theorem td_M_putString_4 : ∀ q ∈ tb_M_putString_4, decode prog_8_method_60_code q.1 = .ok q.2 := by decide +kernel
def tb_M_putString_5 : List (Nat × (Instr × Nat)) := [(85, (.iconst 1, 1)), (86, (.goto 4, 3)), (89, (.iconst 0, 1)), (90, (.istore_n 3, 1)), (91, (.aload_n 0, 1)), (92, (.iload_n 3, 1)), (93, (.ifCond .eq 8, 3)), (96, (.bipush 60, 2)), (98, (.goto 5, 3)), (101, (.bipush 40, 2))]
theorem td_M_putString_5 : ∀ q ∈ tb_M_putString_5, decode prog_8_method_60_code q.1 = .ok q.2 := by decide +kernel
def tb_M_putString_6 : List (Nat × (Instr × Nat)) := [(103, (.invokevirtual 270, 3)), (106, (.iconst 0, 1)), (107, (.istore 4, 2)), (109, (.iload 4, 2)), (111, (.aload_n 0, 1)), (112, (.getfield 38, 3)), (115, (.iload_n 1, 1)), (116, (.iaload, 1)), (117, (.if_icmp .ge 90, 3)), (120, (.aload_n 0, 1))]
theorem td_M_putString_6 : ∀ q ∈ tb_M_putString_6, decode prog_8_method_60_code q.1 = .ok q.2 := by decide +kernel
def tb_M_putString_7 : List (Nat × (Instr × Nat)) := [(121, (.getfield 41, 3)), (124, (.aload_n 0, 1)), (125, (.getfield 35, 3)), (128, (.iload_n 1, 1)), (129, (.iaload, 1)), (130, (.iload 4, 2)), (132, (.iadd, 1)), (133, (.iaload, 1)), (134, (.istore 5, 2)), (136, (.iload_n 3, 1))]
theorem td_M_putString_7 : ∀ q ∈ tb_M_putString_7, decode prog_8_method_60_code q.1 = .ok q.2 := by decide +kernel
def tb_M_putString_8 : List (Nat × (Instr × Nat)) := [(137, (.ifCond .eq 12, 3)), (140, (.aload_n 0, 1)), (141, (.iload 5, 2)), (143, (.invokevirtual 289, 3)), (146, (.goto 55, 3)), (149, (.iload 5, 2)), (151, (.bipush 92, 2)), (153, (.if_icmp .eq 24, 3)), (156, (.iload 5, 2)), (158, (.bipush 40, 2))]
theorem td_M_putString_8 : ∀ q ∈ tb_M_putString_8, decode prog_8_method_60_code q.1 = .ok q.2 := by decide +kernel
def tb_M_putString_9 : List (Nat × (Instr × Nat)) := [(160, (.if_icmp .eq 17, 3)), (163, (.iload 5, 2)), (165, (.bipush 41, 2)), (167, (.if_icmp .eq 10, 3)), (170, (.iload 5, 2)), (172, (.bipush 13, 2)), (174, (.if_icmp .ne 9, 3)), (177, (.aload_n 0, 1)), (178, (.bipush 92, 2)), (180, (.invokevirtual 270, 3))]
theorem td_M_putString_9 : ∀ q ∈ tb_M_putString_9, decode prog_8_method_60_code q.1 = .ok q.2 := by decide +kernel
def tb_M_putString_10 : List (Nat × (Instr × Nat)) := [(183, (.aload_n 0, 1)), (184, (.iload 5, 2)), (186, (.bipush 13, 2)), (188, (.if_icmp .ne 8, 3)), (191, (.bipush 114, 2)), (193, (.goto 5, 3)), (196, (.iload 5, 2)), (198, (.invokevirtual 270, 3)), (201, (.iinc 4 1, 3)), (204, (.goto (-95), 3))]
theorem td_M_putString_10 : ∀ q ∈ tb_M_putString_10, decode prog_8_method_60_code q.1 = .ok q.2 := by decide +kernel
def tb_M_putString_11 : List (Nat × (Instr × Nat)) := [(207, (.aload_n 0, 1)), (208, (.iload_n 3, 1)), (209, (.ifCond .eq 8, 3)), (212, (.bipush 62, 2)), (214, (.goto 5, 3)), (217, (.bipush 41, 2)), (219, (.invokevirtual 270, 3)), (222, (.return_, 1))]
theorem td_M_putString_11 : ∀ q ∈ tb_M_putString_11, decode prog_8_method_60_code q.1 = .ok q.2 := by decide +kernel
def tb_M_putString : Nat → Option (Instr × Nat) := (am_nd 103 (am_nd 52 (am_nd 14 (am_look tb_M_putString_0) (am_nd 29 (am_look tb_M_putString_1) (am_look tb_M_putString_2))) (am_nd 67 (am_look tb_M_putString_3) (am_nd 85 (am_look tb_M_putString_4) (am_look tb_M_putString_5)))) (am_nd 160 (am_nd 121 (am_look tb_M_putString_6) (am_nd 137 (am_look tb_M_putString_7) (am_look tb_M_putString_8))) (am_nd 183 (am_look tb_M_putString_9) (am_nd 207 (am_look tb_M_putString_10) (am_look tb_M_putString_11)))))
theorem td_M_putString : am_dok prog_8_method_60_code tb_M_putString := (am_dok_nd (am_dok_nd (am_dok_nd (am_dok_lf td_M_putString_0) (am_dok_nd (am_dok_lf td_M_putString_1) (am_dok_lf td_M_putString_2))) (am_dok_nd (am_dok_lf td_M_putString_3) (am_dok_nd (am_dok_lf td_M_putString_4) (am_dok_lf td_M_putString_5)))) (am_dok_nd (am_dok_nd (am_dok_lf td_M_putString_6) (am_dok_nd (am_dok_lf td_M_putString_7) (am_dok_lf td_M_putString_8))) (am_dok_nd (am_dok_lf td_M_putString_9) (am_dok_nd (am_dok_lf td_M_putString_10) (am_dok_lf td_M_putString_11)))))
def m_M_putString : am_M := (⟨"SyntaxRowsModel", "putString", "(I)V"⟩, prog_8_method_60_code, 6, none, 6, 1, tb_M_putString)
set_option maxRecDepth 100000 in
theorem ok_M_putString : am_ok m_M_putString := ⟨td_M_putString, am_in 1406 rfl rfl, am_in 103 (by decide +kernel) rfl, by decide, ⟨by decide, by decide, by decide +kernel⟩, rfl, by decide⟩
theorem oi_M_putString : am_inst m_M_putString := ⟨am_in 1405 (by decide +kernel) rfl, am_in 90 (by decide +kernel) rfl⟩
def tb_M_opensOut_0 : List (Nat × (Instr × Nat)) := [(0, (.aload_n 0, 1)), (1, (.iconst 4, 1)), (2, (.invokevirtual 292, 3)), (5, (.aload_n 0, 1)), (6, (.aload_n 0, 1)), (7, (.getfield 16, 3)), (10, (.iload_n 1, 1)), (11, (.iaload, 1)), (12, (.bipush 6, 2)), (14, (.if_icmp .ne 8, 3))]
theorem td_M_opensOut_0 : ∀ q ∈ tb_M_opensOut_0, decode prog_8_method_63_code q.1 = .ok q.2 := by decide +kernel
def tb_M_opensOut_1 : List (Nat × (Instr × Nat)) := [(17, (.bipush 91, 2)), (19, (.goto 5, 3)), (22, (.bipush 60, 2)), (24, (.invokevirtual 270, 3)), (27, (.aload_n 0, 1)), (28, (.getfield 16, 3)), (31, (.iload_n 1, 1)), (32, (.iaload, 1)), (33, (.bipush 7, 2)), (35, (.if_icmp .ne 9, 3))]
theorem td_M_opensOut_1 : ∀ q ∈ tb_M_opensOut_1, decode prog_8_method_63_code q.1 = .ok q.2 := by decide +kernel
def tb_M_opensOut_2 : List (Nat × (Instr × Nat)) := [(38, (.aload_n 0, 1)), (39, (.bipush 60, 2)), (41, (.invokevirtual 270, 3)), (44, (.aload_n 0, 1)), (45, (.getfield 47, 3)), (48, (.aload_n 0, 1)), (49, (.getfield 204, 3)), (52, (.iload_n 1, 1)), (53, (.iastore, 1)), (54, (.aload_n 0, 1))]
theorem td_M_opensOut_2 : ∀ q ∈ tb_M_opensOut_2, decode prog_8_method_63_code q.1 = .ok q.2 := by decide +kernel
def tb_M_opensOut_3 : List (Nat × (Instr × Nat)) := [(55, (.getfield 59, 3)), (58, (.aload_n 0, 1)), (59, (.getfield 204, 3)), (62, (.aload_n 0, 1)), (63, (.getfield 23, 3)), (66, (.iload_n 1, 1)), (67, (.iaload, 1)), (68, (.iastore, 1)), (69, (.aload_n 0, 1)), (70, (.dup, 1))]
theorem td_M_opensOut_3 : ∀ q ∈ tb_M_opensOut_3, decode prog_8_method_63_code q.1 = .ok q.2 := by decide +kernel
def tb_M_opensOut_4 : List (Nat × (Instr × Nat)) := [(71, (.getfield 204, 3)), (74, (.iconst 1, 1)), (75, (.iadd, 1)), (76, (.putfield 204, 3)), (79, (.return_, 1))]
theorem td_M_opensOut_4 : ∀ q ∈ tb_M_opensOut_4, decode prog_8_method_63_code q.1 = .ok q.2 := by decide +kernel
def tb_M_opensOut : Nat → Option (Instr × Nat) := (am_nd 38 (am_nd 17 (am_look tb_M_opensOut_0) (am_look tb_M_opensOut_1)) (am_nd 55 (am_look tb_M_opensOut_2) (am_nd 71 (am_look tb_M_opensOut_3) (am_look tb_M_opensOut_4))))
theorem td_M_opensOut : am_dok prog_8_method_63_code tb_M_opensOut := (am_dok_nd (am_dok_nd (am_dok_lf td_M_opensOut_0) (am_dok_lf td_M_opensOut_1)) (am_dok_nd (am_dok_lf td_M_opensOut_2) (am_dok_nd (am_dok_lf td_M_opensOut_3) (am_dok_lf td_M_opensOut_4))))
def m_M_opensOut : am_M := (⟨"SyntaxRowsModel", "opensOut", "(I)V"⟩, prog_8_method_63_code, 2, none, 6, 1, tb_M_opensOut)
set_option maxRecDepth 100000 in
theorem ok_M_opensOut : am_ok m_M_opensOut := ⟨td_M_opensOut, am_in 1410 rfl rfl, am_in 103 (by decide +kernel) rfl, by decide, ⟨by decide, by decide, by decide +kernel⟩, rfl, by decide⟩
theorem oi_M_opensOut : am_inst m_M_opensOut := ⟨am_in 1409 (by decide +kernel) rfl, am_in 91 (by decide +kernel) rfl⟩
def tb_M_closesOut_0 : List (Nat × (Instr × Nat)) := [(0, (.aload_n 0, 1)), (1, (.getfield 47, 3)), (4, (.aload_n 0, 1)), (5, (.getfield 204, 3)), (8, (.iconst 1, 1)), (9, (.isub, 1)), (10, (.iaload, 1)), (11, (.istore_n 2, 1)), (12, (.aload_n 0, 1)), (13, (.getfield 204, 3))]
theorem td_M_closesOut_0 : ∀ q ∈ tb_M_closesOut_0, decode prog_8_method_64_code q.1 = .ok q.2 := by decide +kernel
def tb_M_closesOut_1 : List (Nat × (Instr × Nat)) := [(16, (.iconst 1, 1)), (17, (.if_icmp .ne 21, 3)), (20, (.iload_n 1, 1)), (21, (.ifCond .lt 17, 3)), (24, (.aload_n 0, 1)), (25, (.iload_n 2, 1)), (26, (.invokevirtual 239, 3)), (29, (.iconst (-1), 1)), (30, (.if_icmp .ne 8, 3)), (33, (.aload_n 0, 1))]
theorem td_M_closesOut_1 : ∀ q ∈ tb_M_closesOut_1, decode prog_8_method_64_code q.1 = .ok q.2 := by decide +kernel
def tb_M_closesOut_2 : List (Nat × (Instr × Nat)) := [(34, (.iload_n 1, 1)), (35, (.invokevirtual 307, 3)), (38, (.aload_n 0, 1)), (39, (.iconst 5, 1)), (40, (.invokevirtual 292, 3)), (43, (.aload_n 0, 1)), (44, (.aload_n 0, 1)), (45, (.getfield 16, 3)), (48, (.iload_n 2, 1)), (49, (.iaload, 1))]
theorem td_M_closesOut_2 : ∀ q ∈ tb_M_closesOut_2, decode prog_8_method_64_code q.1 = .ok q.2 := by decide +kernel
def tb_M_closesOut_3 : List (Nat × (Instr × Nat)) := [(50, (.bipush 6, 2)), (52, (.if_icmp .ne 8, 3)), (55, (.bipush 93, 2)), (57, (.goto 5, 3)), (60, (.bipush 62, 2)), (62, (.invokevirtual 270, 3)), (65, (.aload_n 0, 1)), (66, (.getfield 16, 3)), (69, (.iload_n 2, 1)), (70, (.iaload, 1))]
theorem td_M_closesOut_3 : ∀ q ∈ tb_M_closesOut_3, decode prog_8_method_64_code q.1 = .ok q.2 := by decide +kernel
def tb_M_closesOut_4 : List (Nat × (Instr × Nat)) := [(71, (.bipush 7, 2)), (73, (.if_icmp .ne 9, 3)), (76, (.aload_n 0, 1)), (77, (.bipush 62, 2)), (79, (.invokevirtual 270, 3)), (82, (.aload_n 0, 1)), (83, (.dup, 1)), (84, (.getfield 204, 3)), (87, (.iconst 1, 1)), (88, (.isub, 1))]
theorem td_M_closesOut_4 : ∀ q ∈ tb_M_closesOut_4, decode prog_8_method_64_code q.1 = .ok q.2 := by decide +kernel
def tb_M_closesOut_5 : List (Nat × (Instr × Nat)) := [(89, (.putfield 204, 3)), (92, (.return_, 1))]
theorem td_M_closesOut_5 : ∀ q ∈ tb_M_closesOut_5, decode prog_8_method_64_code q.1 = .ok q.2 := by decide +kernel
def tb_M_closesOut : Nat → Option (Instr × Nat) := (am_nd 50 (am_nd 16 (am_look tb_M_closesOut_0) (am_nd 34 (am_look tb_M_closesOut_1) (am_look tb_M_closesOut_2))) (am_nd 71 (am_look tb_M_closesOut_3) (am_nd 89 (am_look tb_M_closesOut_4) (am_look tb_M_closesOut_5))))
theorem td_M_closesOut : am_dok prog_8_method_64_code tb_M_closesOut := (am_dok_nd (am_dok_nd (am_dok_lf td_M_closesOut_0) (am_dok_nd (am_dok_lf td_M_closesOut_1) (am_dok_lf td_M_closesOut_2))) (am_dok_nd (am_dok_lf td_M_closesOut_3) (am_dok_nd (am_dok_lf td_M_closesOut_4) (am_dok_lf td_M_closesOut_5))))
def m_M_closesOut : am_M := (⟨"SyntaxRowsModel", "closesOut", "(I)V"⟩, prog_8_method_64_code, 3, none, 6, 1, tb_M_closesOut)
set_option maxRecDepth 100000 in
theorem ok_M_closesOut : am_ok m_M_closesOut := ⟨td_M_closesOut, am_in 1414 rfl rfl, am_in 103 (by decide +kernel) rfl, by decide, ⟨by decide, by decide, by decide +kernel⟩, rfl, by decide⟩
theorem oi_M_closesOut : am_inst m_M_closesOut := ⟨am_in 1413 (by decide +kernel) rfl, am_in 92 (by decide +kernel) rfl⟩
def tb_M_putLength_0 : List (Nat × (Instr × Nat)) := [(0, (.aload_n 0, 1)), (1, (.iconst 2, 1)), (2, (.invokevirtual 292, 3)), (5, (.aload_n 0, 1)), (6, (.bipush 47, 2)), (8, (.invokevirtual 270, 3)), (11, (.aload_n 0, 1)), (12, (.bipush 7, 2)), (14, (.invokevirtual 295, 3)), (17, (.aload_n 0, 1))]
theorem td_M_putLength_0 : ∀ q ∈ tb_M_putLength_0, decode prog_8_method_62_code q.1 = .ok q.2 := by decide +kernel
def tb_M_putLength_1 : List (Nat × (Instr × Nat)) := [(18, (.iconst 1, 1)), (19, (.invokevirtual 292, 3)), (22, (.aload_n 0, 1)), (23, (.iload_n 1, 1)), (24, (.i2l, 1)), (25, (.invokevirtual 283, 3)), (28, (.return_, 1))]
theorem td_M_putLength_1 : ∀ q ∈ tb_M_putLength_1, decode prog_8_method_62_code q.1 = .ok q.2 := by decide +kernel
def tb_M_putLength : Nat → Option (Instr × Nat) := (am_nd 18 (am_look tb_M_putLength_0) (am_look tb_M_putLength_1))
theorem td_M_putLength : am_dok prog_8_method_62_code tb_M_putLength := (am_dok_nd (am_dok_lf td_M_putLength_0) (am_dok_lf td_M_putLength_1))
def m_M_putLength : am_M := (⟨"SyntaxRowsModel", "putLength", "(I)V"⟩, prog_8_method_62_code, 2, none, 6, 1, tb_M_putLength)
set_option maxRecDepth 100000 in
theorem ok_M_putLength : am_ok m_M_putLength := ⟨td_M_putLength, am_in 1418 rfl rfl, am_in 103 (by decide +kernel) rfl, by decide, ⟨by decide, by decide, by decide +kernel⟩, rfl, by decide⟩
theorem oi_M_putLength : am_inst m_M_putLength := ⟨am_in 1417 (by decide +kernel) rfl, am_in 93 (by decide +kernel) rfl⟩
def tb_M_keyOfLength_0 : List (Nat × (Instr × Nat)) := [(0, (.aload_n 0, 1)), (1, (.getfield 23, 3)), (4, (.iload_n 1, 1)), (5, (.iaload, 1)), (6, (.istore_n 2, 1)), (7, (.iload_n 2, 1)), (8, (.iconst (-1), 1)), (9, (.if_icmp .eq 28, 3)), (12, (.aload_n 0, 1)), (13, (.iload_n 2, 1))]
theorem td_M_keyOfLength_0 : ∀ q ∈ tb_M_keyOfLength_0, decode prog_8_method_66_code q.1 = .ok q.2 := by decide +kernel
def tb_M_keyOfLength_1 : List (Nat × (Instr × Nat)) := [(14, (.invokevirtual 233, 3)), (17, (.ifCond .eq 5, 3)), (20, (.iload_n 2, 1)), (21, (.ireturn, 1)), (22, (.aload_n 0, 1)), (23, (.getfield 29, 3)), (26, (.aload_n 0, 1)), (27, (.getfield 29, 3)), (30, (.iload_n 2, 1)), (31, (.iaload, 1))]
theorem td_M_keyOfLength_1 : ∀ q ∈ tb_M_keyOfLength_1, decode prog_8_method_66_code q.1 = .ok q.2 := by decide +kernel
def tb_M_keyOfLength_2 : List (Nat × (Instr × Nat)) := [(32, (.iaload, 1)), (33, (.istore_n 2, 1)), (34, (.goto (-27), 3)), (37, (.iconst (-1), 1)), (38, (.ireturn, 1))]
theorem td_M_keyOfLength_2 : ∀ q ∈ tb_M_keyOfLength_2, decode prog_8_method_66_code q.1 = .ok q.2 := by decide +kernel
def tb_M_keyOfLength : Nat → Option (Instr × Nat) := (am_nd 14 (am_look tb_M_keyOfLength_0) (am_nd 32 (am_look tb_M_keyOfLength_1) (am_look tb_M_keyOfLength_2)))
theorem td_M_keyOfLength : am_dok prog_8_method_66_code tb_M_keyOfLength := (am_dok_nd (am_dok_lf td_M_keyOfLength_0) (am_dok_nd (am_dok_lf td_M_keyOfLength_1) (am_dok_lf td_M_keyOfLength_2)))
def m_M_keyOfLength : am_M := (⟨"SyntaxRowsModel", "keyOfLength", "(I)I"⟩, prog_8_method_66_code, 3, (some .int), 6, 1, tb_M_keyOfLength)
set_option maxRecDepth 100000 in
theorem ok_M_keyOfLength : am_ok m_M_keyOfLength := ⟨td_M_keyOfLength, am_in 1422 rfl rfl, am_in 103 (by decide +kernel) rfl, by decide, ⟨by decide, by decide, by decide +kernel⟩, rfl, by decide⟩
theorem oi_M_keyOfLength : am_inst m_M_keyOfLength := ⟨am_in 1421 (by decide +kernel) rfl, am_in 94 (by decide +kernel) rfl⟩
def tb_M_putObject_0 : List (Nat × (Instr × Nat)) := [(0, (.aload_n 0, 1)), (1, (.aload_n 0, 1)), (2, (.getfield 13, 3)), (5, (.bipush 8, 2)), (7, (.iload_n 1, 1)), (8, (.imul, 1)), (9, (.iaload, 1)), (10, (.i2l, 1)), (11, (.invokevirtual 283, 3)), (14, (.aload_n 0, 1))]
theorem td_M_putObject_0 : ∀ q ∈ tb_M_putObject_0, decode prog_8_method_68_code q.1 = .ok q.2 := by decide +kernel
def tb_M_putObject_1 : List (Nat × (Instr × Nat)) := [(15, (.bipush 32, 2)), (17, (.invokevirtual 270, 3)), (20, (.aload_n 0, 1)), (21, (.aload_n 0, 1)), (22, (.getfield 13, 3)), (25, (.bipush 8, 2)), (27, (.iload_n 1, 1)), (28, (.imul, 1)), (29, (.iconst 1, 1)), (30, (.iadd, 1))]
theorem td_M_putObject_1 : ∀ q ∈ tb_M_putObject_1, decode prog_8_method_68_code q.1 = .ok q.2 := by decide +kernel
def tb_M_putObject_2 : List (Nat × (Instr × Nat)) := [(31, (.iaload, 1)), (32, (.i2l, 1)), (33, (.invokevirtual 283, 3)), (36, (.aload_n 0, 1)), (37, (.bipush 32, 2)), (39, (.invokevirtual 270, 3)), (42, (.aload_n 0, 1)), (43, (.iconst 3, 1)), (44, (.invokevirtual 295, 3)), (47, (.aload_n 0, 1))]
theorem td_M_putObject_2 : ∀ q ∈ tb_M_putObject_2, decode prog_8_method_68_code q.1 = .ok q.2 := by decide +kernel
def tb_M_putObject_3 : List (Nat × (Instr × Nat)) := [(48, (.bipush 10, 2)), (50, (.invokevirtual 270, 3)), (53, (.aload_n 0, 1)), (54, (.aload_n 0, 1)), (55, (.getfield 13, 3)), (58, (.bipush 8, 2)), (60, (.iload_n 1, 1)), (61, (.imul, 1)), (62, (.iconst 2, 1)), (63, (.iadd, 1))]
theorem td_M_putObject_3 : ∀ q ∈ tb_M_putObject_3, decode prog_8_method_68_code q.1 = .ok q.2 := by decide +kernel
def tb_M_putObject_4 : List (Nat × (Instr × Nat)) := [(64, (.iaload, 1)), (65, (.invokevirtual 325, 3)), (68, (.aload_n 0, 1)), (69, (.bipush 10, 2)), (71, (.invokevirtual 270, 3)), (74, (.aload_n 0, 1)), (75, (.iconst 1, 1)), (76, (.invokevirtual 295, 3)), (79, (.aload_n 0, 1)), (80, (.bipush 10, 2))]
theorem td_M_putObject_4 : ∀ q ∈ tb_M_putObject_4, decode prog_8_method_68_code q.1 = .ok q.2 := by decide +kernel
def tb_M_putObject_5 : List (Nat × (Instr × Nat)) := [(82, (.invokevirtual 270, 3)), (85, (.return_, 1))]
theorem td_M_putObject_5 : ∀ q ∈ tb_M_putObject_5, decode prog_8_method_68_code q.1 = .ok q.2 := by decide +kernel
def tb_M_putObject : Nat → Option (Instr × Nat) := (am_nd 48 (am_nd 15 (am_look tb_M_putObject_0) (am_nd 31 (am_look tb_M_putObject_1) (am_look tb_M_putObject_2))) (am_nd 64 (am_look tb_M_putObject_3) (am_nd 82 (am_look tb_M_putObject_4) (am_look tb_M_putObject_5))))
theorem td_M_putObject : am_dok prog_8_method_68_code tb_M_putObject := (am_dok_nd (am_dok_nd (am_dok_lf td_M_putObject_0) (am_dok_nd (am_dok_lf td_M_putObject_1) (am_dok_lf td_M_putObject_2))) (am_dok_nd (am_dok_lf td_M_putObject_3) (am_dok_nd (am_dok_lf td_M_putObject_4) (am_dok_lf td_M_putObject_5))))
def m_M_putObject : am_M := (⟨"SyntaxRowsModel", "putObject", "(I)V"⟩, prog_8_method_68_code, 2, none, 6, 1, tb_M_putObject)
set_option maxRecDepth 100000 in
theorem ok_M_putObject : am_ok m_M_putObject := ⟨td_M_putObject, am_in 1426 rfl rfl, am_in 103 (by decide +kernel) rfl, by decide, ⟨by decide, by decide, by decide +kernel⟩, rfl, by decide⟩
theorem oi_M_putObject : am_inst m_M_putObject := ⟨am_in 1425 (by decide +kernel) rfl, am_in 95 (by decide +kernel) rfl⟩
def tb_M_out_0 : List (Nat × (Instr × Nat)) := [(0, (.aload_n 0, 1)), (1, (.iconst 0, 1)), (2, (.putfield 66, 3)), (5, (.iload_n 1, 1)), (6, (.ifCond .lt 20, 3)), (9, (.iload_n 1, 1)), (10, (.aload_n 0, 1)), (11, (.getfield 331, 3)), (14, (.if_icmp .ge 12, 3)), (17, (.aload_n 0, 1))]
theorem td_M_out_0 : ∀ q ∈ tb_M_out_0, decode prog_8_method_70_code q.1 = .ok q.2 := by decide +kernel
def tb_M_out_1 : List (Nat × (Instr × Nat)) := [(18, (.getfield 53, 3)), (21, (.iload_n 1, 1)), (22, (.iaload, 1)), (23, (.goto 4, 3)), (26, (.iconst (-1), 1)), (27, (.ireturn, 1))]
theorem td_M_out_1 : ∀ q ∈ tb_M_out_1, decode prog_8_method_70_code q.1 = .ok q.2 := by decide +kernel
def tb_M_out : Nat → Option (Instr × Nat) := (am_nd 18 (am_look tb_M_out_0) (am_look tb_M_out_1))
theorem td_M_out : am_dok prog_8_method_70_code tb_M_out := (am_dok_nd (am_dok_lf td_M_out_0) (am_dok_lf td_M_out_1))
def m_M_out : am_M := (⟨"SyntaxRowsModel", "out", "(I)I"⟩, prog_8_method_70_code, 2, (some .int), 6, 1, tb_M_out)
set_option maxRecDepth 100000 in
theorem ok_M_out : am_ok m_M_out := ⟨td_M_out, am_in 1430 rfl rfl, am_in 103 (by decide +kernel) rfl, by decide, ⟨by decide, by decide, by decide +kernel⟩, rfl, by decide⟩
theorem oi_M_out : am_inst m_M_out := ⟨am_in 1428 (by decide +kernel) rfl, am_in 1429 (by decide +kernel) rfl⟩
def tb_M_take_0 : List (Nat × (Instr × Nat)) := [(0, (.aload_n 0, 1)), (1, (.iconst 0, 1)), (2, (.putfield 66, 3)), (5, (.aload_n 0, 1)), (6, (.getfield 331, 3)), (9, (.sipush 1600, 3)), (12, (.if_icmp .le 5, 3)), (15, (.iconst (-1), 1)), (16, (.ireturn, 1)), (17, (.aload_n 0, 1))]
theorem td_M_take_0 : ∀ q ∈ tb_M_take_0, decode prog_8_method_71_code q.1 = .ok q.2 := by decide +kernel
def tb_M_take_1 : List (Nat × (Instr × Nat)) := [(18, (.aload_n 0, 1)), (19, (.getfield 331, 3)), (22, (.putfield 62, 3)), (25, (.iconst 0, 1)), (26, (.istore_n 1, 1)), (27, (.iload_n 1, 1)), (28, (.aload_n 0, 1)), (29, (.getfield 62, 3)), (32, (.if_icmp .ge 21, 3)), (35, (.aload_n 0, 1))]
theorem td_M_take_1 : ∀ q ∈ tb_M_take_1, decode prog_8_method_71_code q.1 = .ok q.2 := by decide +kernel
def tb_M_take_2 : List (Nat × (Instr × Nat)) := [(36, (.getfield 7, 3)), (39, (.iload_n 1, 1)), (40, (.aload_n 0, 1)), (41, (.getfield 53, 3)), (44, (.iload_n 1, 1)), (45, (.iaload, 1)), (46, (.iastore, 1)), (47, (.iinc 1 1, 3)), (50, (.goto (-23), 3)), (53, (.aload_n 0, 1))]
theorem td_M_take_2 : ∀ q ∈ tb_M_take_2, decode prog_8_method_71_code q.1 = .ok q.2 := by decide +kernel
def tb_M_take_3 : List (Nat × (Instr × Nat)) := [(54, (.getfield 62, 3)), (57, (.ireturn, 1))]
theorem td_M_take_3 : ∀ q ∈ tb_M_take_3, decode prog_8_method_71_code q.1 = .ok q.2 := by decide +kernel
def tb_M_take : Nat → Option (Instr × Nat) := (am_nd 36 (am_nd 18 (am_look tb_M_take_0) (am_look tb_M_take_1)) (am_nd 54 (am_look tb_M_take_2) (am_look tb_M_take_3)))
theorem td_M_take : am_dok prog_8_method_71_code tb_M_take := (am_dok_nd (am_dok_nd (am_dok_lf td_M_take_0) (am_dok_lf td_M_take_1)) (am_dok_nd (am_dok_lf td_M_take_2) (am_dok_lf td_M_take_3)))
def m_M_take : am_M := (⟨"SyntaxRowsModel", "take", "()I"⟩, prog_8_method_71_code, 2, (some .int), 6, 0, tb_M_take)
set_option maxRecDepth 100000 in
theorem ok_M_take : am_ok m_M_take := ⟨td_M_take, am_in 1434 rfl rfl, am_in 103 (by decide +kernel) rfl, by decide, ⟨by decide, by decide, by decide +kernel⟩, rfl, by decide⟩
theorem oi_M_take : am_inst m_M_take := ⟨am_in 1432 (by decide +kernel) rfl, am_in 1433 (by decide +kernel) rfl⟩
def tb_M_told_0 : List (Nat × (Instr × Nat)) := [(0, (.aload_n 0, 1)), (1, (.iload_n 1, 1)), (2, (.ifCond .lt 12, 3)), (5, (.iload_n 1, 1)), (6, (.iconst 5, 1)), (7, (.if_icmp .ge 7, 3)), (10, (.iconst 0, 1)), (11, (.goto 4, 3)), (14, (.iconst 1, 1)), (15, (.putfield 66, 3))]
theorem td_M_told_0 : ∀ q ∈ tb_M_told_0, decode prog_8_method_72_code q.1 = .ok q.2 := by decide +kernel
def tb_M_told_1 : List (Nat × (Instr × Nat)) := [(18, (.aload_n 0, 1)), (19, (.getfield 66, 3)), (22, (.ifCond .le 5, 3)), (25, (.iconst 0, 1)), (26, (.ireturn, 1)), (27, (.iload_n 1, 1)), (28, (.ifCond .ne 10, 3)), (31, (.aload_n 0, 1)), (32, (.getfield 62, 3)), (35, (.goto 43, 3))]
theorem td_M_told_1 : ∀ q ∈ tb_M_told_1, decode prog_8_method_72_code q.1 = .ok q.2 := by decide +kernel
def tb_M_told_2 : List (Nat × (Instr × Nat)) := [(38, (.iload_n 1, 1)), (39, (.iconst 1, 1)), (40, (.if_icmp .ne 10, 3)), (43, (.aload_n 0, 1)), (44, (.getfield 331, 3)), (47, (.goto 31, 3)), (50, (.iload_n 1, 1)), (51, (.iconst 2, 1)), (52, (.if_icmp .ne 10, 3)), (55, (.aload_n 0, 1))]
theorem td_M_told_2 : ∀ q ∈ tb_M_told_2, decode prog_8_method_72_code q.1 = .ok q.2 := by decide +kernel
def tb_M_told_3 : List (Nat × (Instr × Nat)) := [(56, (.getfield 236, 3)), (59, (.goto 19, 3)), (62, (.iload_n 1, 1)), (63, (.iconst 3, 1)), (64, (.if_icmp .ne 10, 3)), (67, (.aload_n 0, 1)), (68, (.getfield 136, 3)), (71, (.goto 7, 3)), (74, (.aload_n 0, 1)), (75, (.getfield 257, 3))]
theorem td_M_told_3 : ∀ q ∈ tb_M_told_3, decode prog_8_method_72_code q.1 = .ok q.2 := by decide +kernel
def tb_M_told_4 : List (Nat × (Instr × Nat)) := [(78, (.ireturn, 1))]
theorem td_M_told_4 : ∀ q ∈ tb_M_told_4, decode prog_8_method_72_code q.1 = .ok q.2 := by decide +kernel
def tb_M_told : Nat → Option (Instr × Nat) := (am_nd 38 (am_nd 18 (am_look tb_M_told_0) (am_look tb_M_told_1)) (am_nd 56 (am_look tb_M_told_2) (am_nd 78 (am_look tb_M_told_3) (am_look tb_M_told_4))))
theorem td_M_told : am_dok prog_8_method_72_code tb_M_told := (am_dok_nd (am_dok_nd (am_dok_lf td_M_told_0) (am_dok_lf td_M_told_1)) (am_dok_nd (am_dok_lf td_M_told_2) (am_dok_nd (am_dok_lf td_M_told_3) (am_dok_lf td_M_told_4))))
def m_M_told : am_M := (⟨"SyntaxRowsModel", "told", "(I)I"⟩, prog_8_method_72_code, 2, (some .int), 6, 1, tb_M_told)
set_option maxRecDepth 100000 in
theorem ok_M_told : am_ok m_M_told := ⟨td_M_told, am_in 1438 rfl rfl, am_in 103 (by decide +kernel) rfl, by decide, ⟨by decide, by decide, by decide +kernel⟩, rfl, by decide⟩
theorem oi_M_told : am_inst m_M_told := ⟨am_in 1436 (by decide +kernel) rfl, am_in 1437 (by decide +kernel) rfl⟩
