/-! decoded code of methods, printed by wip/gen/gen06.py -/
def tb_S_init_0 : List (Nat × (Instr × Nat)) := [(0, (.aload_n 0, 1)), (1, (.invokespecial 1, 3)), (4, (.new 7, 3)), (7, (.dup, 1)), (8, (.invokespecial 9, 3)), (11, (.astore_n 1, 1)), (12, (.new 10, 3)), (15, (.dup, 1)), (16, (.invokespecial 12, 3)), (19, (.astore_n 2, 1))]
theorem td_S_init_0 : ∀ q ∈ tb_S_init_0, decode prog_1_method_1_code q.1 = .ok q.2 := by decide +kernel
def tb_S_init_1 : List (Nat × (Instr × Nat)) := [(20, (.new 13, 3)), (23, (.dup, 1)), (24, (.invokespecial 15, 3)), (27, (.astore_n 3, 1)), (28, (.aload_n 0, 1)), (29, (.aload_n 1, 1)), (30, (.putfield 16, 3)), (33, (.aload_n 0, 1)), (34, (.aload_n 2, 1)), (35, (.putfield 22, 3))]
theorem td_S_init_1 : ∀ q ∈ tb_S_init_1, decode prog_1_method_1_code q.1 = .ok q.2 := by decide +kernel
def tb_S_init_2 : List (Nat × (Instr × Nat)) := [(38, (.aload_n 0, 1)), (39, (.aload_n 3, 1)), (40, (.putfield 26, 3)), (43, (.aload_n 0, 1)), (44, (.new 30, 3)), (47, (.dup, 1)), (48, (.aload_n 1, 1)), (49, (.aload_n 2, 1)), (50, (.aload_n 3, 1)), (51, (.invokespecial 32, 3))]
theorem td_S_init_2 : ∀ q ∈ tb_S_init_2, decode prog_1_method_1_code q.1 = .ok q.2 := by decide +kernel
def tb_S_init_3 : List (Nat × (Instr × Nat)) := [(54, (.putfield 35, 3)), (57, (.aload_n 0, 1)), (58, (.new 39, 3)), (61, (.dup, 1)), (62, (.aload_n 2, 1)), (63, (.aload_n 3, 1)), (64, (.invokespecial 41, 3)), (67, (.putfield 44, 3)), (70, (.return_, 1))]
theorem td_S_init_3 : ∀ q ∈ tb_S_init_3, decode prog_1_method_1_code q.1 = .ok q.2 := by decide +kernel
def tb_S_init : Nat → Option (Instr × Nat) := (am_nd 38 (am_nd 20 (am_look tb_S_init_0) (am_look tb_S_init_1)) (am_nd 54 (am_look tb_S_init_2) (am_look tb_S_init_3)))
theorem td_S_init : am_dok prog_1_method_1_code tb_S_init := (am_dok_nd (am_dok_nd (am_dok_lf td_S_init_0) (am_dok_lf td_S_init_1)) (am_dok_nd (am_dok_lf td_S_init_2) (am_dok_lf td_S_init_3)))
def m_S_init : am_M := (⟨"SyntaxRows", "<init>", "()V"⟩, prog_1_method_1_code, 4, none, 5, 0, tb_S_init)
set_option maxRecDepth 100000 in
theorem ok_S_init : am_ok m_S_init := ⟨td_S_init, am_in 119 rfl rfl, am_in 97 (by decide +kernel) rfl, by decide, ⟨by decide, by decide, by decide +kernel⟩, rfl, by decide⟩
def tb_W_init_0 : List (Nat × (Instr × Nat)) := [(0, (.aload_n 0, 1)), (1, (.invokespecial 3, 3)), (4, (.aload_n 0, 1)), (5, (.sipush 4000, 3)), (8, (.newarray .byte, 2)), (10, (.putfield 9, 3)), (13, (.aload_n 0, 1)), (14, (.iconst 0, 1)), (15, (.putfield 15, 3)), (18, (.aload_n 0, 1))]
theorem td_W_init_0 : ∀ q ∈ tb_W_init_0, decode prog_6_method_1_code q.1 = .ok q.2 := by decide +kernel
def tb_W_init_1 : List (Nat × (Instr × Nat)) := [(19, (.iconst 0, 1)), (20, (.putfield 19, 3)), (23, (.aload_n 0, 1)), (24, (.iconst 0, 1)), (25, (.putfield 22, 3)), (28, (.aload_n 0, 1)), (29, (.iconst 0, 1)), (30, (.putfield 26, 3)), (33, (.aload_n 0, 1)), (34, (.iconst 0, 1))]
theorem td_W_init_1 : ∀ q ∈ tb_W_init_1, decode prog_6_method_1_code q.1 = .ok q.2 := by decide +kernel
def tb_W_init_2 : List (Nat × (Instr × Nat)) := [(35, (.putfield 29, 3)), (38, (.aload_n 0, 1)), (39, (.aload_n 1, 1)), (40, (.putfield 32, 3)), (43, (.aload_n 0, 1)), (44, (.aload_n 2, 1)), (45, (.putfield 36, 3)), (48, (.return_, 1))]
theorem td_W_init_2 : ∀ q ∈ tb_W_init_2, decode prog_6_method_1_code q.1 = .ok q.2 := by decide +kernel
def tb_W_init : Nat → Option (Instr × Nat) := (am_nd 19 (am_look tb_W_init_0) (am_nd 35 (am_look tb_W_init_1) (am_look tb_W_init_2)))
theorem td_W_init : am_dok prog_6_method_1_code tb_W_init := (am_dok_nd (am_dok_lf td_W_init_0) (am_dok_nd (am_dok_lf td_W_init_1) (am_dok_lf td_W_init_2)))
def m_W_init : am_M := (⟨"SyntaxRows$Writer", "<init>", "(LSyntaxRows$Values;LSyntaxRows$ObjectRows;)V"⟩, prog_6_method_1_code, 3, none, 4, 2, tb_W_init)
set_option maxRecDepth 100000 in
theorem ok_W_init : am_ok m_W_init := ⟨td_W_init, am_in 236 rfl rfl, am_in 102 (by decide +kernel) rfl, by decide, ⟨by decide, by decide, by decide +kernel⟩, rfl, by decide⟩
def tb_S_wipe_0 : List (Nat × (Instr × Nat)) := [(0, (.aload_n 0, 1)), (1, (.getfield 16, 3)), (4, (.invokevirtual 55, 3)), (7, (.istore_n 1, 1)), (8, (.aload_n 0, 1)), (9, (.getfield 16, 3)), (12, (.invokevirtual 63, 3)), (15, (.iload_n 1, 1)), (16, (.ireturn, 1))]
theorem td_S_wipe_0 : ∀ q ∈ tb_S_wipe_0, decode prog_1_method_3_code q.1 = .ok q.2 := by decide +kernel
def tb_S_wipe : Nat → Option (Instr × Nat) := (am_look tb_S_wipe_0)
theorem td_S_wipe : am_dok prog_1_method_3_code tb_S_wipe := (am_dok_lf td_S_wipe_0)
def m_S_wipe : am_M := (⟨"SyntaxRows", "wipe", "()I"⟩, prog_1_method_3_code, 2, (some .int), 5, 0, tb_S_wipe)
set_option maxRecDepth 100000 in
theorem ok_S_wipe : am_ok m_S_wipe := ⟨td_S_wipe, am_in 282 rfl rfl, am_in 97 (by decide +kernel) rfl, by decide, ⟨by decide, by decide, by decide +kernel⟩, rfl, by decide⟩
theorem oi_S_wipe : am_inst m_S_wipe := ⟨am_in 280 (by decide +kernel) rfl, am_in 281 (by decide +kernel) rfl⟩
def tb_S_read_0 : List (Nat × (Instr × Nat)) := [(0, (.aload_n 0, 1)), (1, (.getfield 35, 3)), (4, (.invokevirtual 66, 3)), (7, (.ireturn, 1))]
theorem td_S_read_0 : ∀ q ∈ tb_S_read_0, decode prog_1_method_4_code q.1 = .ok q.2 := by decide +kernel
def tb_S_read : Nat → Option (Instr × Nat) := (am_look tb_S_read_0)
theorem td_S_read : am_dok prog_1_method_4_code tb_S_read := (am_dok_lf td_S_read_0)
def m_S_read : am_M := (⟨"SyntaxRows", "read", "()I"⟩, prog_1_method_4_code, 1, (some .int), 5, 0, tb_S_read)
set_option maxRecDepth 100000 in
theorem ok_S_read : am_ok m_S_read := ⟨td_S_read, am_in 294 rfl rfl, am_in 97 (by decide +kernel) rfl, by decide, ⟨by decide, by decide, by decide +kernel⟩, rfl, by decide⟩
theorem oi_S_read : am_inst m_S_read := ⟨am_in 292 (by decide +kernel) rfl, am_in 293 (by decide +kernel) rfl⟩
def tb_S_isLineEnd_0 : List (Nat × (Instr × Nat)) := [(0, (.iload_n 0, 1)), (1, (.bipush 10, 2)), (3, (.if_icmp .eq 9, 3)), (6, (.iload_n 0, 1)), (7, (.bipush 13, 2)), (9, (.if_icmp .ne 7, 3)), (12, (.iconst 1, 1)), (13, (.goto 4, 3)), (16, (.iconst 0, 1)), (17, (.ireturn, 1))]
theorem td_S_isLineEnd_0 : ∀ q ∈ tb_S_isLineEnd_0, decode prog_1_method_18_code q.1 = .ok q.2 := by decide +kernel
def tb_S_isLineEnd : Nat → Option (Instr × Nat) := (am_look tb_S_isLineEnd_0)
theorem td_S_isLineEnd : am_dok prog_1_method_18_code tb_S_isLineEnd := (am_dok_lf td_S_isLineEnd_0)
def m_S_isLineEnd : am_M := (⟨"SyntaxRows", "isLineEnd", "(I)Z"⟩, prog_1_method_18_code, 1, (some .boolean), 5, 1, tb_S_isLineEnd)
set_option maxRecDepth 100000 in
theorem ok_S_isLineEnd : am_ok m_S_isLineEnd := ⟨td_S_isLineEnd, am_in 323 rfl rfl, am_in 97 (by decide +kernel) rfl, by decide, ⟨by decide, by decide, by decide +kernel⟩, rfl, by decide⟩
theorem os_S_isLineEnd : am_stat m_S_isLineEnd := am_in 322 (by decide +kernel) rfl
def tb_S_isPlainWhite_0 : List (Nat × (Instr × Nat)) := [(0, (.iload_n 0, 1)), (1, (.ifCond .eq 33, 3)), (4, (.iload_n 0, 1)), (5, (.bipush 9, 2)), (7, (.if_icmp .eq 27, 3)), (10, (.iload_n 0, 1)), (11, (.bipush 10, 2)), (13, (.if_icmp .eq 21, 3)), (16, (.iload_n 0, 1)), (17, (.bipush 12, 2))]
theorem td_S_isPlainWhite_0 : ∀ q ∈ tb_S_isPlainWhite_0, decode prog_1_method_16_code q.1 = .ok q.2 := by decide +kernel
def tb_S_isPlainWhite_1 : List (Nat × (Instr × Nat)) := [(19, (.if_icmp .eq 15, 3)), (22, (.iload_n 0, 1)), (23, (.bipush 13, 2)), (25, (.if_icmp .eq 9, 3)), (28, (.iload_n 0, 1)), (29, (.bipush 32, 2)), (31, (.if_icmp .ne 7, 3)), (34, (.iconst 1, 1)), (35, (.goto 4, 3)), (38, (.iconst 0, 1))]
theorem td_S_isPlainWhite_1 : ∀ q ∈ tb_S_isPlainWhite_1, decode prog_1_method_16_code q.1 = .ok q.2 := by decide +kernel
def tb_S_isPlainWhite_2 : List (Nat × (Instr × Nat)) := [(39, (.ireturn, 1))]
theorem td_S_isPlainWhite_2 : ∀ q ∈ tb_S_isPlainWhite_2, decode prog_1_method_16_code q.1 = .ok q.2 := by decide +kernel
def tb_S_isPlainWhite : Nat → Option (Instr × Nat) := (am_nd 19 (am_look tb_S_isPlainWhite_0) (am_nd 39 (am_look tb_S_isPlainWhite_1) (am_look tb_S_isPlainWhite_2)))
theorem td_S_isPlainWhite : am_dok prog_1_method_16_code tb_S_isPlainWhite := (am_dok_nd (am_dok_lf td_S_isPlainWhite_0) (am_dok_nd (am_dok_lf td_S_isPlainWhite_1) (am_dok_lf td_S_isPlainWhite_2)))
def m_S_isPlainWhite : am_M := (⟨"SyntaxRows", "isPlainWhite", "(I)Z"⟩, prog_1_method_16_code, 1, (some .boolean), 5, 1, tb_S_isPlainWhite)
set_option maxRecDepth 100000 in
theorem ok_S_isPlainWhite : am_ok m_S_isPlainWhite := ⟨td_S_isPlainWhite, am_in 326 rfl rfl, am_in 97 (by decide +kernel) rfl, by decide, ⟨by decide, by decide, by decide +kernel⟩, rfl, by decide⟩
theorem os_S_isPlainWhite : am_stat m_S_isPlainWhite := am_in 325 (by decide +kernel) rfl
def tb_S_isFigure_0 : List (Nat × (Instr × Nat)) := [(0, (.iload_n 0, 1)), (1, (.bipush 48, 2)), (3, (.if_icmp .lt 13, 3)), (6, (.iload_n 0, 1)), (7, (.bipush 57, 2)), (9, (.if_icmp .gt 7, 3)), (12, (.iconst 1, 1)), (13, (.goto 4, 3)), (16, (.iconst 0, 1)), (17, (.ireturn, 1))]
theorem td_S_isFigure_0 : ∀ q ∈ tb_S_isFigure_0, decode prog_1_method_19_code q.1 = .ok q.2 := by decide +kernel
def tb_S_isFigure : Nat → Option (Instr × Nat) := (am_look tb_S_isFigure_0)
theorem td_S_isFigure : am_dok prog_1_method_19_code tb_S_isFigure := (am_dok_lf td_S_isFigure_0)
def m_S_isFigure : am_M := (⟨"SyntaxRows", "isFigure", "(I)Z"⟩, prog_1_method_19_code, 1, (some .boolean), 5, 1, tb_S_isFigure)
set_option maxRecDepth 100000 in
theorem ok_S_isFigure : am_ok m_S_isFigure := ⟨td_S_isFigure, am_in 343 rfl rfl, am_in 97 (by decide +kernel) rfl, by decide, ⟨by decide, by decide, by decide +kernel⟩, rfl, by decide⟩
theorem os_S_isFigure : am_stat m_S_isFigure := am_in 342 (by decide +kernel) rfl
def tb_S_isRegular_0 : List (Nat × (Instr × Nat)) := [(0, (.iload_n 0, 1)), (1, (.bipush 32, 2)), (3, (.if_icmp .le 23, 3)), (6, (.iload_n 0, 1)), (7, (.bipush 127, 2)), (9, (.if_icmp .ge 17, 3)), (12, (.ldc 136, 2)), (14, (.iload_n 0, 1)), (15, (.i2c, 1)), (16, (.invokevirtual 138, 3))]
theorem td_S_isRegular_0 : ∀ q ∈ tb_S_isRegular_0, decode prog_1_method_17_code q.1 = .ok q.2 := by decide +kernel
def tb_S_isRegular_1 : List (Nat × (Instr × Nat)) := [(19, (.ifCond .ge 7, 3)), (22, (.iconst 1, 1)), (23, (.goto 4, 3)), (26, (.iconst 0, 1)), (27, (.ireturn, 1))]
theorem td_S_isRegular_1 : ∀ q ∈ tb_S_isRegular_1, decode prog_1_method_17_code q.1 = .ok q.2 := by decide +kernel
def tb_S_isRegular : Nat → Option (Instr × Nat) := (am_nd 19 (am_look tb_S_isRegular_0) (am_look tb_S_isRegular_1))
theorem td_S_isRegular : am_dok prog_1_method_17_code tb_S_isRegular := (am_dok_nd (am_dok_lf td_S_isRegular_0) (am_dok_lf td_S_isRegular_1))
def m_S_isRegular : am_M := (⟨"SyntaxRows", "isRegular", "(I)Z"⟩, prog_1_method_17_code, 1, (some .boolean), 5, 1, tb_S_isRegular)
set_option maxRecDepth 100000 in
theorem ok_S_isRegular : am_ok m_S_isRegular := ⟨td_S_isRegular, am_in 346 rfl rfl, am_in 97 (by decide +kernel) rfl, by decide, ⟨by decide, by decide, by decide +kernel⟩, rfl, by decide⟩
theorem os_S_isRegular : am_stat m_S_isRegular := am_in 345 (by decide +kernel) rfl
def tb_S_figure16_0 : List (Nat × (Instr × Nat)) := [(0, (.iload_n 0, 1)), (1, (.invokestatic 143, 3)), (4, (.ifCond .eq 8, 3)), (7, (.iload_n 0, 1)), (8, (.bipush 48, 2)), (10, (.isub, 1)), (11, (.ireturn, 1)), (12, (.iload_n 0, 1)), (13, (.bipush 97, 2)), (15, (.if_icmp .lt 17, 3))]
theorem td_S_figure16_0 : ∀ q ∈ tb_S_figure16_0, decode prog_1_method_20_code q.1 = .ok q.2 := by decide +kernel
def tb_S_figure16_1 : List (Nat × (Instr × Nat)) := [(18, (.iload_n 0, 1)), (19, (.bipush 102, 2)), (21, (.if_icmp .gt 11, 3)), (24, (.iload_n 0, 1)), (25, (.bipush 97, 2)), (27, (.isub, 1)), (28, (.bipush 10, 2)), (30, (.iadd, 1)), (31, (.ireturn, 1)), (32, (.iload_n 0, 1))]
theorem td_S_figure16_1 : ∀ q ∈ tb_S_figure16_1, decode prog_1_method_20_code q.1 = .ok q.2 := by decide +kernel
def tb_S_figure16_2 : List (Nat × (Instr × Nat)) := [(33, (.bipush 65, 2)), (35, (.if_icmp .lt 19, 3)), (38, (.iload_n 0, 1)), (39, (.bipush 70, 2)), (41, (.if_icmp .gt 13, 3)), (44, (.iload_n 0, 1)), (45, (.bipush 65, 2)), (47, (.isub, 1)), (48, (.bipush 10, 2)), (50, (.iadd, 1))]
theorem td_S_figure16_2 : ∀ q ∈ tb_S_figure16_2, decode prog_1_method_20_code q.1 = .ok q.2 := by decide +kernel
def tb_S_figure16_3 : List (Nat × (Instr × Nat)) := [(51, (.goto 4, 3)), (54, (.iconst (-1), 1)), (55, (.ireturn, 1))]
theorem td_S_figure16_3 : ∀ q ∈ tb_S_figure16_3, decode prog_1_method_20_code q.1 = .ok q.2 := by decide +kernel
def tb_S_figure16 : Nat → Option (Instr × Nat) := (am_nd 33 (am_nd 18 (am_look tb_S_figure16_0) (am_look tb_S_figure16_1)) (am_nd 51 (am_look tb_S_figure16_2) (am_look tb_S_figure16_3)))
theorem td_S_figure16 : am_dok prog_1_method_20_code tb_S_figure16 := (am_dok_nd (am_dok_nd (am_dok_lf td_S_figure16_0) (am_dok_lf td_S_figure16_1)) (am_dok_nd (am_dok_lf td_S_figure16_2) (am_dok_lf td_S_figure16_3)))
def m_S_figure16 : am_M := (⟨"SyntaxRows", "figure16", "(I)I"⟩, prog_1_method_20_code, 1, (some .int), 5, 1, tb_S_figure16)
set_option maxRecDepth 100000 in
theorem ok_S_figure16 : am_ok m_S_figure16 := ⟨td_S_figure16, am_in 534 rfl rfl, am_in 97 (by decide +kernel) rfl, by decide, ⟨by decide, by decide, by decide +kernel⟩, rfl, by decide⟩
theorem os_S_figure16 : am_stat m_S_figure16 := am_in 533 (by decide +kernel) rfl
def tb_S_find_0 : List (Nat × (Instr × Nat)) := [(0, (.aload_n 0, 1)), (1, (.getfield 26, 3)), (4, (.iload_n 1, 1)), (5, (.iload_n 2, 1)), (6, (.invokevirtual 82, 3)), (9, (.ireturn, 1))]
theorem td_S_find_0 : ∀ q ∈ tb_S_find_0, decode prog_1_method_6_code q.1 = .ok q.2 := by decide +kernel
def tb_S_find : Nat → Option (Instr × Nat) := (am_look tb_S_find_0)
theorem td_S_find : am_dok prog_1_method_6_code tb_S_find := (am_dok_lf td_S_find_0)
def m_S_find : am_M := (⟨"SyntaxRows", "find", "(II)I"⟩, prog_1_method_6_code, 3, (some .int), 5, 2, tb_S_find)
set_option maxRecDepth 100000 in
theorem ok_S_find : am_ok m_S_find := ⟨td_S_find, am_in 724 rfl rfl, am_in 97 (by decide +kernel) rfl, by decide, ⟨by decide, by decide, by decide +kernel⟩, rfl, by decide⟩
theorem oi_S_find : am_inst m_S_find := ⟨am_in 722 (by decide +kernel) rfl, am_in 723 (by decide +kernel) rfl⟩
def tb_S_out_0 : List (Nat × (Instr × Nat)) := [(0, (.aload_n 0, 1)), (1, (.getfield 44, 3)), (4, (.iload_n 1, 1)), (5, (.invokevirtual 125, 3)), (8, (.ireturn, 1))]
theorem td_S_out_0 : ∀ q ∈ tb_S_out_0, decode prog_1_method_13_code q.1 = .ok q.2 := by decide +kernel
def tb_S_out : Nat → Option (Instr × Nat) := (am_look tb_S_out_0)
theorem td_S_out : am_dok prog_1_method_13_code tb_S_out := (am_dok_lf td_S_out_0)
def m_S_out : am_M := (⟨"SyntaxRows", "out", "(I)I"⟩, prog_1_method_13_code, 2, (some .int), 5, 1, tb_S_out)
set_option maxRecDepth 100000 in
theorem ok_S_out : am_ok m_S_out := ⟨td_S_out, am_in 729 rfl rfl, am_in 97 (by decide +kernel) rfl, by decide, ⟨by decide, by decide, by decide +kernel⟩, rfl, by decide⟩
theorem oi_S_out : am_inst m_S_out := ⟨am_in 727 (by decide +kernel) rfl, am_in 728 (by decide +kernel) rfl⟩
def tb_W_at_0 : List (Nat × (Instr × Nat)) := [(0, (.iload_n 1, 1)), (1, (.ifCond .lt 11, 3)), (4, (.iload_n 1, 1)), (5, (.aload_n 0, 1)), (6, (.getfield 15, 3)), (9, (.if_icmp .lt 7, 3)), (12, (.iconst (-1), 1)), (13, (.goto 13, 3)), (16, (.aload_n 0, 1)), (17, (.getfield 9, 3))]
theorem td_W_at_0 : ∀ q ∈ tb_W_at_0, decode prog_6_method_3_code q.1 = .ok q.2 := by decide +kernel
def tb_W_at_1 : List (Nat × (Instr × Nat)) := [(20, (.iload_n 1, 1)), (21, (.baload, 1)), (22, (.sipush 255, 3)), (25, (.iand, 1)), (26, (.ireturn, 1))]
theorem td_W_at_1 : ∀ q ∈ tb_W_at_1, decode prog_6_method_3_code q.1 = .ok q.2 := by decide +kernel
def tb_W_at : Nat → Option (Instr × Nat) := (am_nd 20 (am_look tb_W_at_0) (am_look tb_W_at_1))
theorem td_W_at : am_dok prog_6_method_3_code tb_W_at := (am_dok_nd (am_dok_lf td_W_at_0) (am_dok_lf td_W_at_1))
def m_W_at : am_M := (⟨"SyntaxRows$Writer", "at", "(I)I"⟩, prog_6_method_3_code, 2, (some .int), 4, 1, tb_W_at)
set_option maxRecDepth 100000 in
theorem ok_W_at : am_ok m_W_at := ⟨td_W_at, am_in 733 rfl rfl, am_in 102 (by decide +kernel) rfl, by decide, ⟨by decide, by decide, by decide +kernel⟩, rfl, by decide⟩
theorem oi_W_at : am_inst m_W_at := ⟨am_in 731 (by decide +kernel) rfl, am_in 732 (by decide +kernel) rfl⟩
def tb_S_take_0 : List (Nat × (Instr × Nat)) := [(0, (.aload_n 0, 1)), (1, (.getfield 44, 3)), (4, (.invokevirtual 128, 3)), (7, (.istore_n 1, 1)), (8, (.iload_n 1, 1)), (9, (.sipush 1600, 3)), (12, (.if_icmp .le 5, 3)), (15, (.iconst (-1), 1)), (16, (.ireturn, 1)), (17, (.aload_n 0, 1))]
theorem td_S_take_0 : ∀ q ∈ tb_S_take_0, decode prog_1_method_14_code q.1 = .ok q.2 := by decide +kernel
def tb_S_take_1 : List (Nat × (Instr × Nat)) := [(18, (.getfield 16, 3)), (21, (.invokevirtual 63, 3)), (24, (.iconst 0, 1)), (25, (.istore_n 2, 1)), (26, (.iload_n 2, 1)), (27, (.iload_n 1, 1)), (28, (.if_icmp .ge 24, 3)), (31, (.aload_n 0, 1)), (32, (.getfield 16, 3)), (35, (.aload_n 0, 1))]
theorem td_S_take_1 : ∀ q ∈ tb_S_take_1, decode prog_1_method_14_code q.1 = .ok q.2 := by decide +kernel
def tb_S_take_2 : List (Nat × (Instr × Nat)) := [(36, (.getfield 44, 3)), (39, (.iload_n 2, 1)), (40, (.invokevirtual 125, 3)), (43, (.invokevirtual 59, 3)), (46, (.iinc 2 1, 3)), (49, (.goto (-23), 3)), (52, (.iload_n 1, 1)), (53, (.ireturn, 1))]
theorem td_S_take_2 : ∀ q ∈ tb_S_take_2, decode prog_1_method_14_code q.1 = .ok q.2 := by decide +kernel
def tb_S_take : Nat → Option (Instr × Nat) := (am_nd 18 (am_look tb_S_take_0) (am_nd 36 (am_look tb_S_take_1) (am_look tb_S_take_2)))
theorem td_S_take : am_dok prog_1_method_14_code tb_S_take := (am_dok_nd (am_dok_lf td_S_take_0) (am_dok_nd (am_dok_lf td_S_take_1) (am_dok_lf td_S_take_2)))
def m_S_take : am_M := (⟨"SyntaxRows", "take", "()I"⟩, prog_1_method_14_code, 3, (some .int), 5, 0, tb_S_take)
set_option maxRecDepth 100000 in
theorem ok_S_take : am_ok m_S_take := ⟨td_S_take, am_in 737 rfl rfl, am_in 97 (by decide +kernel) rfl, by decide, ⟨by decide, by decide, by decide +kernel⟩, rfl, by decide⟩
theorem oi_S_take : am_inst m_S_take := ⟨am_in 735 (by decide +kernel) rfl, am_in 736 (by decide +kernel) rfl⟩
def tb_W_size_0 : List (Nat × (Instr × Nat)) := [(0, (.aload_n 0, 1)), (1, (.getfield 15, 3)), (4, (.ireturn, 1))]
theorem td_W_size_0 : ∀ q ∈ tb_W_size_0, decode prog_6_method_2_code q.1 = .ok q.2 := by decide +kernel
def tb_W_size : Nat → Option (Instr × Nat) := (am_look tb_W_size_0)
theorem td_W_size : am_dok prog_6_method_2_code tb_W_size := (am_dok_lf td_W_size_0)
def m_W_size : am_M := (⟨"SyntaxRows$Writer", "size", "()I"⟩, prog_6_method_2_code, 1, (some .int), 4, 0, tb_W_size)
set_option maxRecDepth 100000 in
theorem ok_W_size : am_ok m_W_size := ⟨td_W_size, am_in 741 rfl rfl, am_in 102 (by decide +kernel) rfl, by decide, ⟨by decide, by decide, by decide +kernel⟩, rfl, by decide⟩
theorem oi_W_size : am_inst m_W_size := ⟨am_in 739 (by decide +kernel) rfl, am_in 740 (by decide +kernel) rfl⟩
def tb_S_feed_0 : List (Nat × (Instr × Nat)) := [(0, (.iload_n 1, 1)), (1, (.iconst 1, 1)), (2, (.if_icmp .lt 9, 3)), (5, (.iload_n 1, 1)), (6, (.bipush 8, 2)), (8, (.if_icmp .le 13, 3)), (11, (.new 48, 3)), (14, (.dup, 1)), (15, (.ldc 50, 2)), (17, (.invokespecial 52, 3))]
theorem td_S_feed_0 : ∀ q ∈ tb_S_feed_0, decode prog_1_method_2_code q.1 = .ok q.2 := by decide +kernel
def tb_S_feed_1 : List (Nat × (Instr × Nat)) := [(20, (.athrow, 1)), (21, (.aload_n 0, 1)), (22, (.getfield 16, 3)), (25, (.invokevirtual 55, 3)), (28, (.iload_n 1, 1)), (29, (.iadd, 1)), (30, (.sipush 1600, 3)), (33, (.if_icmp .le 5, 3)), (36, (.iconst (-1), 1)), (37, (.ireturn, 1))]
theorem td_S_feed_1 : ∀ q ∈ tb_S_feed_1, decode prog_1_method_2_code q.1 = .ok q.2 := by decide +kernel
def tb_S_feed_2 : List (Nat × (Instr × Nat)) := [(38, (.iconst 0, 1)), (39, (.istore 4, 2)), (41, (.iload 4, 2)), (43, (.iload_n 1, 1)), (44, (.if_icmp .ge 28, 3)), (47, (.aload_n 0, 1)), (48, (.getfield 16, 3)), (51, (.lload_n 2, 1)), (52, (.bipush 8, 2)), (54, (.iload 4, 2))]
theorem td_S_feed_2 : ∀ q ∈ tb_S_feed_2, decode prog_1_method_2_code q.1 = .ok q.2 := by decide +kernel
def tb_S_feed_3 : List (Nat × (Instr × Nat)) := [(56, (.imul, 1)), (57, (.lushr, 1)), (58, (.l2i, 1)), (59, (.sipush 255, 3)), (62, (.iand, 1)), (63, (.invokevirtual 59, 3)), (66, (.iinc 4 1, 3)), (69, (.goto (-28), 3)), (72, (.aload_n 0, 1)), (73, (.getfield 16, 3))]
theorem td_S_feed_3 : ∀ q ∈ tb_S_feed_3, decode prog_1_method_2_code q.1 = .ok q.2 := by decide +kernel
def tb_S_feed_4 : List (Nat × (Instr × Nat)) := [(76, (.invokevirtual 55, 3)), (79, (.ireturn, 1))]
theorem td_S_feed_4 : ∀ q ∈ tb_S_feed_4, decode prog_1_method_2_code q.1 = .ok q.2 := by decide +kernel
def tb_S_feed : Nat → Option (Instr × Nat) := (am_nd 38 (am_nd 20 (am_look tb_S_feed_0) (am_look tb_S_feed_1)) (am_nd 56 (am_look tb_S_feed_2) (am_nd 76 (am_look tb_S_feed_3) (am_look tb_S_feed_4))))
theorem td_S_feed : am_dok prog_1_method_2_code tb_S_feed := (am_dok_nd (am_dok_nd (am_dok_lf td_S_feed_0) (am_dok_lf td_S_feed_1)) (am_dok_nd (am_dok_lf td_S_feed_2) (am_dok_nd (am_dok_lf td_S_feed_3) (am_dok_lf td_S_feed_4))))
def m_S_feed : am_M := (⟨"SyntaxRows", "feed", "(IJ)I"⟩, prog_1_method_2_code, 5, (some .int), 5, 2, tb_S_feed)
set_option maxRecDepth 100000 in
theorem ok_S_feed : am_ok m_S_feed := ⟨td_S_feed, am_in 753 rfl rfl, am_in 97 (by decide +kernel) rfl, by decide, ⟨by decide, by decide, by decide +kernel⟩, rfl, by decide⟩
theorem oi_S_feed : am_inst m_S_feed := ⟨am_in 751 (by decide +kernel) rfl, am_in 752 (by decide +kernel) rfl⟩
def tb_S_object_0 : List (Nat × (Instr × Nat)) := [(0, (.aload_n 0, 1)), (1, (.getfield 26, 3)), (4, (.iload_n 1, 1)), (5, (.invokevirtual 69, 3)), (8, (.ifCond .eq 13, 3)), (11, (.iload_n 2, 1)), (12, (.ifCond .lt 9, 3)), (15, (.iload_n 2, 1)), (16, (.bipush 8, 2)), (18, (.if_icmp .lt 13, 3))]
theorem td_S_object_0 : ∀ q ∈ tb_S_object_0, decode prog_1_method_5_code q.1 = .ok q.2 := by decide +kernel
def tb_S_object_1 : List (Nat × (Instr × Nat)) := [(21, (.new 73, 3)), (24, (.dup, 1)), (25, (.ldc 75, 2)), (27, (.invokespecial 77, 3)), (30, (.athrow, 1)), (31, (.aload_n 0, 1)), (32, (.getfield 26, 3)), (35, (.iload_n 1, 1)), (36, (.iload_n 2, 1)), (37, (.invokevirtual 78, 3))]
theorem td_S_object_1 : ∀ q ∈ tb_S_object_1, decode prog_1_method_5_code q.1 = .ok q.2 := by decide +kernel
def tb_S_object_2 : List (Nat × (Instr × Nat)) := [(40, (.ireturn, 1))]
theorem td_S_object_2 : ∀ q ∈ tb_S_object_2, decode prog_1_method_5_code q.1 = .ok q.2 := by decide +kernel
def tb_S_object : Nat → Option (Instr × Nat) := (am_nd 21 (am_look tb_S_object_0) (am_nd 40 (am_look tb_S_object_1) (am_look tb_S_object_2)))
theorem td_S_object : am_dok prog_1_method_5_code tb_S_object := (am_dok_nd (am_dok_lf td_S_object_0) (am_dok_nd (am_dok_lf td_S_object_1) (am_dok_lf td_S_object_2)))
def m_S_object : am_M := (⟨"SyntaxRows", "object", "(II)I"⟩, prog_1_method_5_code, 3, (some .int), 5, 2, tb_S_object)
set_option maxRecDepth 100000 in
theorem ok_S_object : am_ok m_S_object := ⟨td_S_object, am_in 827 rfl rfl, am_in 97 (by decide +kernel) rfl, by decide, ⟨by decide, by decide, by decide +kernel⟩, rfl, by decide⟩
theorem oi_S_object : am_inst m_S_object := ⟨am_in 825 (by decide +kernel) rfl, am_in 826 (by decide +kernel) rfl⟩
def tb_S_value_0 : List (Nat × (Instr × Nat)) := [(0, (.aload_n 0, 1)), (1, (.getfield 22, 3)), (4, (.iload_n 1, 1)), (5, (.invokevirtual 85, 3)), (8, (.ifCond .eq 12, 3)), (11, (.iload_n 2, 1)), (12, (.ifCond .lt 8, 3)), (15, (.iload_n 2, 1)), (16, (.iconst 2, 1)), (17, (.if_icmp .le 13, 3))]
theorem td_S_value_0 : ∀ q ∈ tb_S_value_0, decode prog_1_method_7_code q.1 = .ok q.2 := by decide +kernel
def tb_S_value_1 : List (Nat × (Instr × Nat)) := [(20, (.new 73, 3)), (23, (.dup, 1)), (24, (.ldc 86, 2)), (26, (.invokespecial 77, 3)), (29, (.athrow, 1)), (30, (.iload_n 2, 1)), (31, (.ifCond .ne 12, 3)), (34, (.aload_n 0, 1)), (35, (.getfield 22, 3)), (38, (.iload_n 1, 1))]
theorem td_S_value_1 : ∀ q ∈ tb_S_value_1, decode prog_1_method_7_code q.1 = .ok q.2 := by decide +kernel
def tb_S_value_2 : List (Nat × (Instr × Nat)) := [(39, (.invokevirtual 88, 3)), (42, (.ireturn, 1)), (43, (.iload_n 2, 1)), (44, (.iconst 1, 1)), (45, (.if_icmp .ne 14, 3)), (48, (.aload_n 0, 1)), (49, (.getfield 22, 3)), (52, (.iload_n 1, 1)), (53, (.invokevirtual 92, 3)), (56, (.goto 11, 3))]
theorem td_S_value_2 : ∀ q ∈ tb_S_value_2, decode prog_1_method_7_code q.1 = .ok q.2 := by decide +kernel
def tb_S_value_3 : List (Nat × (Instr × Nat)) := [(59, (.aload_n 0, 1)), (60, (.getfield 22, 3)), (63, (.iload_n 1, 1)), (64, (.invokevirtual 95, 3)), (67, (.ireturn, 1))]
theorem td_S_value_3 : ∀ q ∈ tb_S_value_3, decode prog_1_method_7_code q.1 = .ok q.2 := by decide +kernel
def tb_S_value : Nat → Option (Instr × Nat) := (am_nd 39 (am_nd 20 (am_look tb_S_value_0) (am_look tb_S_value_1)) (am_nd 59 (am_look tb_S_value_2) (am_look tb_S_value_3)))
theorem td_S_value : am_dok prog_1_method_7_code tb_S_value := (am_dok_nd (am_dok_nd (am_dok_lf td_S_value_0) (am_dok_lf td_S_value_1)) (am_dok_nd (am_dok_lf td_S_value_2) (am_dok_lf td_S_value_3)))
def m_S_value : am_M := (⟨"SyntaxRows", "value", "(II)I"⟩, prog_1_method_7_code, 3, (some .int), 5, 2, tb_S_value)
set_option maxRecDepth 100000 in
theorem ok_S_value : am_ok m_S_value := ⟨td_S_value, am_in 852 rfl rfl, am_in 97 (by decide +kernel) rfl, by decide, ⟨by decide, by decide, by decide +kernel⟩, rfl, by decide⟩
theorem oi_S_value : am_inst m_S_value := ⟨am_in 850 (by decide +kernel) rfl, am_in 851 (by decide +kernel) rfl⟩
def tb_S_number_0 : List (Nat × (Instr × Nat)) := [(0, (.aload_n 0, 1)), (1, (.getfield 22, 3)), (4, (.iload_n 1, 1)), (5, (.invokevirtual 85, 3)), (8, (.ifCond .ne 13, 3)), (11, (.new 73, 3)), (14, (.dup, 1)), (15, (.ldc 98, 2)), (17, (.invokespecial 77, 3)), (20, (.athrow, 1))]
theorem td_S_number_0 : ∀ q ∈ tb_S_number_0, decode prog_1_method_8_code q.1 = .ok q.2 := by decide +kernel
def tb_S_number_1 : List (Nat × (Instr × Nat)) := [(21, (.aload_n 0, 1)), (22, (.getfield 22, 3)), (25, (.iload_n 1, 1)), (26, (.invokevirtual 100, 3)), (29, (.lreturn, 1))]
theorem td_S_number_1 : ∀ q ∈ tb_S_number_1, decode prog_1_method_8_code q.1 = .ok q.2 := by decide +kernel
def tb_S_number : Nat → Option (Instr × Nat) := (am_nd 21 (am_look tb_S_number_0) (am_look tb_S_number_1))
theorem td_S_number : am_dok prog_1_method_8_code tb_S_number := (am_dok_nd (am_dok_lf td_S_number_0) (am_dok_lf td_S_number_1))
def m_S_number : am_M := (⟨"SyntaxRows", "number", "(I)J"⟩, prog_1_method_8_code, 2, (some .long), 5, 1, tb_S_number)
set_option maxRecDepth 100000 in
theorem ok_S_number : am_ok m_S_number := ⟨td_S_number, am_in 867 rfl rfl, am_in 97 (by decide +kernel) rfl, by decide, ⟨by decide, by decide, by decide +kernel⟩, rfl, by decide⟩
theorem oi_S_number : am_inst m_S_number := ⟨am_in 865 (by decide +kernel) rfl, am_in 866 (by decide +kernel) rfl⟩
def tb_S_byteOf_0 : List (Nat × (Instr × Nat)) := [(0, (.aload_n 0, 1)), (1, (.getfield 22, 3)), (4, (.iload_n 1, 1)), (5, (.invokevirtual 85, 3)), (8, (.ifCond .ne 13, 3)), (11, (.new 73, 3)), (14, (.dup, 1)), (15, (.ldc 98, 2)), (17, (.invokespecial 77, 3)), (20, (.athrow, 1))]
theorem td_S_byteOf_0 : ∀ q ∈ tb_S_byteOf_0, decode prog_1_method_9_code q.1 = .ok q.2 := by decide +kernel
def tb_S_byteOf_1 : List (Nat × (Instr × Nat)) := [(21, (.aload_n 0, 1)), (22, (.getfield 22, 3)), (25, (.iload_n 1, 1)), (26, (.iload_n 2, 1)), (27, (.invokevirtual 104, 3)), (30, (.ireturn, 1))]
theorem td_S_byteOf_1 : ∀ q ∈ tb_S_byteOf_1, decode prog_1_method_9_code q.1 = .ok q.2 := by decide +kernel
def tb_S_byteOf : Nat → Option (Instr × Nat) := (am_nd 21 (am_look tb_S_byteOf_0) (am_look tb_S_byteOf_1))
theorem td_S_byteOf : am_dok prog_1_method_9_code tb_S_byteOf := (am_dok_nd (am_dok_lf td_S_byteOf_0) (am_dok_lf td_S_byteOf_1))
def m_S_byteOf : am_M := (⟨"SyntaxRows", "byteOf", "(II)I"⟩, prog_1_method_9_code, 3, (some .int), 5, 2, tb_S_byteOf)
set_option maxRecDepth 100000 in
theorem ok_S_byteOf : am_ok m_S_byteOf := ⟨td_S_byteOf, am_in 876 rfl rfl, am_in 97 (by decide +kernel) rfl, by decide, ⟨by decide, by decide, by decide +kernel⟩, rfl, by decide⟩
theorem oi_S_byteOf : am_inst m_S_byteOf := ⟨am_in 874 (by decide +kernel) rfl, am_in 875 (by decide +kernel) rfl⟩
def tb_S_child_0 : List (Nat × (Instr × Nat)) := [(0, (.aload_n 0, 1)), (1, (.getfield 22, 3)), (4, (.iload_n 1, 1)), (5, (.invokevirtual 85, 3)), (8, (.ifCond .ne 13, 3)), (11, (.new 73, 3)), (14, (.dup, 1)), (15, (.ldc 98, 2)), (17, (.invokespecial 77, 3)), (20, (.athrow, 1))]
theorem td_S_child_0 : ∀ q ∈ tb_S_child_0, decode prog_1_method_10_code q.1 = .ok q.2 := by decide +kernel
def tb_S_child_1 : List (Nat × (Instr × Nat)) := [(21, (.aload_n 0, 1)), (22, (.getfield 22, 3)), (25, (.iload_n 1, 1)), (26, (.iload_n 2, 1)), (27, (.invokevirtual 107, 3)), (30, (.ireturn, 1))]
theorem td_S_child_1 : ∀ q ∈ tb_S_child_1, decode prog_1_method_10_code q.1 = .ok q.2 := by decide +kernel
def tb_S_child : Nat → Option (Instr × Nat) := (am_nd 21 (am_look tb_S_child_0) (am_look tb_S_child_1))
theorem td_S_child : am_dok prog_1_method_10_code tb_S_child := (am_dok_nd (am_dok_lf td_S_child_0) (am_dok_lf td_S_child_1))
def m_S_child : am_M := (⟨"SyntaxRows", "child", "(II)I"⟩, prog_1_method_10_code, 3, (some .int), 5, 2, tb_S_child)
set_option maxRecDepth 100000 in
theorem ok_S_child : am_ok m_S_child := ⟨td_S_child, am_in 884 rfl rfl, am_in 97 (by decide +kernel) rfl, by decide, ⟨by decide, by decide, by decide +kernel⟩, rfl, by decide⟩
theorem oi_S_child : am_inst m_S_child := ⟨am_in 882 (by decide +kernel) rfl, am_in 883 (by decide +kernel) rfl⟩
def tb_S_lookup_0 : List (Nat × (Instr × Nat)) := [(0, (.aload_n 0, 1)), (1, (.getfield 22, 3)), (4, (.iload_n 1, 1)), (5, (.invokevirtual 85, 3)), (8, (.ifCond .eq 14, 3)), (11, (.aload_n 0, 1)), (12, (.getfield 22, 3)), (15, (.iload_n 2, 1)), (16, (.invokevirtual 85, 3)), (19, (.ifCond .ne 13, 3))]
theorem td_S_lookup_0 : ∀ q ∈ tb_S_lookup_0, decode prog_1_method_11_code q.1 = .ok q.2 := by decide +kernel
def tb_S_lookup_1 : List (Nat × (Instr × Nat)) := [(22, (.new 73, 3)), (25, (.dup, 1)), (26, (.ldc 110, 2)), (28, (.invokespecial 77, 3)), (31, (.athrow, 1)), (32, (.aload_n 0, 1)), (33, (.getfield 22, 3)), (36, (.iload_n 1, 1)), (37, (.invokevirtual 88, 3)), (40, (.bipush 9, 2))]
theorem td_S_lookup_1 : ∀ q ∈ tb_S_lookup_1, decode prog_1_method_11_code q.1 = .ok q.2 := by decide +kernel
def tb_S_lookup_2 : List (Nat × (Instr × Nat)) := [(42, (.if_icmp .ne 14, 3)), (45, (.aload_n 0, 1)), (46, (.getfield 22, 3)), (49, (.iload_n 1, 1)), (50, (.invokevirtual 112, 3)), (53, (.goto 4, 3)), (56, (.iload_n 1, 1)), (57, (.istore_n 3, 1)), (58, (.aload_n 0, 1)), (59, (.getfield 22, 3))]
theorem td_S_lookup_2 : ∀ q ∈ tb_S_lookup_2, decode prog_1_method_11_code q.1 = .ok q.2 := by decide +kernel
def tb_S_lookup_3 : List (Nat × (Instr × Nat)) := [(62, (.iload_n 3, 1)), (63, (.invokevirtual 88, 3)), (66, (.bipush 7, 2)), (68, (.if_icmp .ne 15, 3)), (71, (.aload_n 0, 1)), (72, (.getfield 22, 3)), (75, (.iload_n 2, 1)), (76, (.invokevirtual 88, 3)), (79, (.iconst 4, 1)), (80, (.if_icmp .eq 5, 3))]
theorem td_S_lookup_3 : ∀ q ∈ tb_S_lookup_3, decode prog_1_method_11_code q.1 = .ok q.2 := by decide +kernel
def tb_S_lookup_4 : List (Nat × (Instr × Nat)) := [(83, (.iconst (-1), 1)), (84, (.ireturn, 1)), (85, (.aload_n 0, 1)), (86, (.getfield 22, 3)), (89, (.aload_n 0, 1)), (90, (.getfield 22, 3)), (93, (.iload_n 3, 1)), (94, (.iload_n 2, 1)), (95, (.invokevirtual 115, 3)), (98, (.invokevirtual 118, 3))]
theorem td_S_lookup_4 : ∀ q ∈ tb_S_lookup_4, decode prog_1_method_11_code q.1 = .ok q.2 := by decide +kernel
def tb_S_lookup_5 : List (Nat × (Instr × Nat)) := [(101, (.ireturn, 1))]
theorem td_S_lookup_5 : ∀ q ∈ tb_S_lookup_5, decode prog_1_method_11_code q.1 = .ok q.2 := by decide +kernel
def tb_S_lookup : Nat → Option (Instr × Nat) := (am_nd 62 (am_nd 22 (am_look tb_S_lookup_0) (am_nd 42 (am_look tb_S_lookup_1) (am_look tb_S_lookup_2))) (am_nd 83 (am_look tb_S_lookup_3) (am_nd 101 (am_look tb_S_lookup_4) (am_look tb_S_lookup_5))))
theorem td_S_lookup : am_dok prog_1_method_11_code tb_S_lookup := (am_dok_nd (am_dok_nd (am_dok_lf td_S_lookup_0) (am_dok_nd (am_dok_lf td_S_lookup_1) (am_dok_lf td_S_lookup_2))) (am_dok_nd (am_dok_lf td_S_lookup_3) (am_dok_nd (am_dok_lf td_S_lookup_4) (am_dok_lf td_S_lookup_5))))
def m_S_lookup : am_M := (⟨"SyntaxRows", "lookup", "(II)I"⟩, prog_1_method_11_code, 4, (some .int), 5, 2, tb_S_lookup)
set_option maxRecDepth 100000 in
theorem ok_S_lookup : am_ok m_S_lookup := ⟨td_S_lookup, am_in 896 rfl rfl, am_in 97 (by decide +kernel) rfl, by decide, ⟨by decide, by decide, by decide +kernel⟩, rfl, by decide⟩
theorem oi_S_lookup : am_inst m_S_lookup := ⟨am_in 894 (by decide +kernel) rfl, am_in 895 (by decide +kernel) rfl⟩
def tb_S_write_0 : List (Nat × (Instr × Nat)) := [(0, (.iload_n 3, 1)), (1, (.ifCond .ne 24, 3)), (4, (.aload_n 0, 1)), (5, (.getfield 22, 3)), (8, (.iload_n 1, 1)), (9, (.invokevirtual 85, 3)), (12, (.ifCond .ne 13, 3)), (15, (.new 73, 3)), (18, (.dup, 1)), (19, (.ldc 98, 2))]
theorem td_S_write_0 : ∀ q ∈ tb_S_write_0, decode prog_1_method_12_code q.1 = .ok q.2 := by decide +kernel
def tb_S_write_1 : List (Nat × (Instr × Nat)) := [(21, (.invokespecial 77, 3)), (24, (.athrow, 1)), (25, (.aload_n 0, 1)), (26, (.getfield 44, 3)), (29, (.iload_n 1, 1)), (30, (.iload_n 2, 1)), (31, (.iload_n 3, 1)), (32, (.invokevirtual 121, 3)), (35, (.ireturn, 1))]
theorem td_S_write_1 : ∀ q ∈ tb_S_write_1, decode prog_1_method_12_code q.1 = .ok q.2 := by decide +kernel
def tb_S_write : Nat → Option (Instr × Nat) := (am_nd 21 (am_look tb_S_write_0) (am_look tb_S_write_1))
theorem td_S_write : am_dok prog_1_method_12_code tb_S_write := (am_dok_nd (am_dok_lf td_S_write_0) (am_dok_lf td_S_write_1))
def m_S_write : am_M := (⟨"SyntaxRows", "write", "(IZZ)I"⟩, prog_1_method_12_code, 4, (some .int), 5, 3, tb_S_write)
set_option maxRecDepth 100000 in
theorem ok_S_write : am_ok m_S_write := ⟨td_S_write, am_in 907 rfl rfl, am_in 97 (by decide +kernel) rfl, by decide, ⟨by decide, by decide, by decide +kernel⟩, rfl, by decide⟩
theorem oi_S_write : am_inst m_S_write := ⟨am_in 905 (by decide +kernel) rfl, am_in 906 (by decide +kernel) rfl⟩
def tb_W_writeAnew_0 : List (Nat × (Instr × Nat)) := [(0, (.aload_n 0, 1)), (1, (.iload_n 2, 1)), (2, (.putfield 26, 3)), (5, (.aload_n 0, 1)), (6, (.iconst 0, 1)), (7, (.putfield 22, 3)), (10, (.aload_n 0, 1)), (11, (.iload_n 1, 1)), (12, (.iload_n 3, 1)), (13, (.invokevirtual 40, 3))]
theorem td_W_writeAnew_0 : ∀ q ∈ tb_W_writeAnew_0, decode prog_6_method_4_code q.1 = .ok q.2 := by decide +kernel
def tb_W_writeAnew_1 : List (Nat × (Instr × Nat)) := [(16, (.aload_n 0, 1)), (17, (.getfield 19, 3)), (20, (.sipush 4000, 3)), (23, (.if_icmp .le 5, 3)), (26, (.iconst (-1), 1)), (27, (.ireturn, 1)), (28, (.aload_n 0, 1)), (29, (.iconst 1, 1)), (30, (.putfield 22, 3)), (33, (.aload_n 0, 1))]
theorem td_W_writeAnew_1 : ∀ q ∈ tb_W_writeAnew_1, decode prog_6_method_4_code q.1 = .ok q.2 := by decide +kernel
def tb_W_writeAnew_2 : List (Nat × (Instr × Nat)) := [(34, (.iload_n 1, 1)), (35, (.iload_n 3, 1)), (36, (.invokevirtual 40, 3)), (39, (.aload_n 0, 1)), (40, (.aload_n 0, 1)), (41, (.getfield 19, 3)), (44, (.putfield 15, 3)), (47, (.aload_n 0, 1)), (48, (.getfield 15, 3)), (51, (.ireturn, 1))]
theorem td_W_writeAnew_2 : ∀ q ∈ tb_W_writeAnew_2, decode prog_6_method_4_code q.1 = .ok q.2 := by decide +kernel
def tb_W_writeAnew : Nat → Option (Instr × Nat) := (am_nd 16 (am_look tb_W_writeAnew_0) (am_nd 34 (am_look tb_W_writeAnew_1) (am_look tb_W_writeAnew_2)))
theorem td_W_writeAnew : am_dok prog_6_method_4_code tb_W_writeAnew := (am_dok_nd (am_dok_lf td_W_writeAnew_0) (am_dok_nd (am_dok_lf td_W_writeAnew_1) (am_dok_lf td_W_writeAnew_2)))
def m_W_writeAnew : am_M := (⟨"SyntaxRows$Writer", "writeAnew", "(IZZ)I"⟩, prog_6_method_4_code, 4, (some .int), 4, 3, tb_W_writeAnew)
set_option maxRecDepth 100000 in
theorem ok_W_writeAnew : am_ok m_W_writeAnew := ⟨td_W_writeAnew, am_in 911 rfl rfl, am_in 102 (by decide +kernel) rfl, by decide, ⟨by decide, by decide, by decide +kernel⟩, rfl, by decide⟩
theorem oi_W_writeAnew : am_inst m_W_writeAnew := ⟨am_in 909 (by decide +kernel) rfl, am_in 910 (by decide +kernel) rfl⟩
def tb_W_goOver_0 : List (Nat × (Instr × Nat)) := [(0, (.aload_n 0, 1)), (1, (.iconst 0, 1)), (2, (.putfield 19, 3)), (5, (.aload_n 0, 1)), (6, (.iconst 0, 1)), (7, (.putfield 29, 3)), (10, (.iload_n 2, 1)), (11, (.ifCond .ne 10, 3)), (14, (.aload_n 0, 1)), (15, (.iload_n 1, 1))]
theorem td_W_goOver_0 : ∀ q ∈ tb_W_goOver_0, decode prog_6_method_5_code q.1 = .ok q.2 := by decide +kernel
def tb_W_goOver_1 : List (Nat × (Instr × Nat)) := [(16, (.iconst 0, 1)), (17, (.invokevirtual 44, 3)), (20, (.return_, 1)), (21, (.iconst 0, 1)), (22, (.istore_n 3, 1)), (23, (.iload_n 3, 1)), (24, (.aload_n 0, 1)), (25, (.getfield 36, 3)), (28, (.invokevirtual 48, 3)), (31, (.if_icmp .ge 45, 3))]
theorem td_W_goOver_1 : ∀ q ∈ tb_W_goOver_1, decode prog_6_method_5_code q.1 = .ok q.2 := by decide +kernel
def tb_W_goOver_2 : List (Nat × (Instr × Nat)) := [(34, (.aload_n 0, 1)), (35, (.getfield 36, 3)), (38, (.iload_n 3, 1)), (39, (.invokevirtual 53, 3)), (42, (.iconst (-1), 1)), (43, (.if_icmp .eq 27, 3)), (46, (.aload_n 0, 1)), (47, (.iload_n 3, 1)), (48, (.invokevirtual 57, 3)), (51, (.aload_n 0, 1))]
theorem td_W_goOver_2 : ∀ q ∈ tb_W_goOver_2, decode prog_6_method_5_code q.1 = .ok q.2 := by decide +kernel
def tb_W_goOver_3 : List (Nat × (Instr × Nat)) := [(52, (.aload_n 0, 1)), (53, (.getfield 36, 3)), (56, (.iload_n 3, 1)), (57, (.invokevirtual 53, 3)), (60, (.iconst 0, 1)), (61, (.invokevirtual 44, 3)), (64, (.aload_n 0, 1)), (65, (.ldc 61, 2)), (67, (.invokevirtual 63, 3)), (70, (.iinc 3 1, 3))]
theorem td_W_goOver_3 : ∀ q ∈ tb_W_goOver_3, decode prog_6_method_5_code q.1 = .ok q.2 := by decide +kernel
def tb_W_goOver_4 : List (Nat × (Instr × Nat)) := [(73, (.goto (-50), 3)), (76, (.return_, 1))]
theorem td_W_goOver_4 : ∀ q ∈ tb_W_goOver_4, decode prog_6_method_5_code q.1 = .ok q.2 := by decide +kernel
def tb_W_goOver : Nat → Option (Instr × Nat) := (am_nd 34 (am_nd 16 (am_look tb_W_goOver_0) (am_look tb_W_goOver_1)) (am_nd 52 (am_look tb_W_goOver_2) (am_nd 73 (am_look tb_W_goOver_3) (am_look tb_W_goOver_4))))
theorem td_W_goOver : am_dok prog_6_method_5_code tb_W_goOver := (am_dok_nd (am_dok_nd (am_dok_lf td_W_goOver_0) (am_dok_lf td_W_goOver_1)) (am_dok_nd (am_dok_lf td_W_goOver_2) (am_dok_nd (am_dok_lf td_W_goOver_3) (am_dok_lf td_W_goOver_4))))
def m_W_goOver : am_M := (⟨"SyntaxRows$Writer", "goOver", "(IZ)V"⟩, prog_6_method_5_code, 4, none, 4, 2, tb_W_goOver)
set_option maxRecDepth 100000 in
theorem ok_W_goOver : am_ok m_W_goOver := ⟨td_W_goOver, am_in 915 rfl rfl, am_in 102 (by decide +kernel) rfl, by decide, ⟨by decide, by decide, by decide +kernel⟩, rfl, by decide⟩
theorem oi_W_goOver : am_inst m_W_goOver := ⟨am_in 914 (by decide +kernel) rfl, am_in 30 (by decide +kernel) rfl⟩
def tb_W_putValue_0 : List (Nat × (Instr × Nat)) := [(0, (.aload_n 0, 1)), (1, (.getfield 32, 3)), (4, (.iload_n 1, 1)), (5, (.invokevirtual 98, 3)), (8, (.tableswitch 189 1 9 #[52, 80, 95, 110, 118, 126, 135, 145, 160], 52)), (60, (.aload_n 0, 1)), (61, (.iconst 1, 1)), (62, (.aload_n 0, 1)), (63, (.getfield 32, 3)), (66, (.iload_n 1, 1))]
theorem td_W_putValue_0 : ∀ q ∈ tb_W_putValue_0, decode prog_6_method_13_code q.1 = .ok q.2 := by decide +kernel
def tb_W_putValue_1 : List (Nat × (Instr × Nat)) := [(67, (.invokevirtual 103, 3)), (70, (.lconst 1, 1)), (71, (.lcmp, 1)), (72, (.ifCond .ne 8, 3)), (75, (.ldc 107, 2)), (77, (.goto 5, 3)), (80, (.ldc 109, 2)), (82, (.invokevirtual 111, 3)), (85, (.goto 119, 3)), (88, (.aload_n 0, 1))]
theorem td_W_putValue_1 : ∀ q ∈ tb_W_putValue_1, decode prog_6_method_13_code q.1 = .ok q.2 := by decide +kernel
def tb_W_putValue_2 : List (Nat × (Instr × Nat)) := [(89, (.aload_n 0, 1)), (90, (.getfield 32, 3)), (93, (.iload_n 1, 1)), (94, (.invokevirtual 103, 3)), (97, (.invokevirtual 115, 3)), (100, (.goto 104, 3)), (103, (.aload_n 0, 1)), (104, (.aload_n 0, 1)), (105, (.getfield 32, 3)), (108, (.iload_n 1, 1))]
theorem td_W_putValue_2 : ∀ q ∈ tb_W_putValue_2, decode prog_6_method_13_code q.1 = .ok q.2 := by decide +kernel
def tb_W_putValue_3 : List (Nat × (Instr × Nat)) := [(109, (.invokevirtual 103, 3)), (112, (.invokevirtual 118, 3)), (115, (.goto 89, 3)), (118, (.aload_n 0, 1)), (119, (.iload_n 1, 1)), (120, (.invokevirtual 121, 3)), (123, (.goto 81, 3)), (126, (.aload_n 0, 1)), (127, (.iload_n 1, 1)), (128, (.invokevirtual 124, 3))]
theorem td_W_putValue_3 : ∀ q ∈ tb_W_putValue_3, decode prog_6_method_13_code q.1 = .ok q.2 := by decide +kernel
def tb_W_putValue_4 : List (Nat × (Instr × Nat)) := [(131, (.goto 73, 3)), (134, (.aload_n 0, 1)), (135, (.iload_n 1, 1)), (136, (.iload_n 2, 1)), (137, (.invokevirtual 127, 3)), (140, (.goto 64, 3)), (143, (.aload_n 0, 1)), (144, (.iload_n 1, 1)), (145, (.iconst (-1), 1)), (146, (.iload_n 2, 1))]
theorem td_W_putValue_4 : ∀ q ∈ tb_W_putValue_4, decode prog_6_method_13_code q.1 = .ok q.2 := by decide +kernel
def tb_W_putValue_5 : List (Nat × (Instr × Nat)) := [(147, (.invokevirtual 130, 3)), (150, (.goto 54, 3)), (153, (.aload_n 0, 1)), (154, (.aload_n 0, 1)), (155, (.getfield 32, 3)), (158, (.iload_n 1, 1)), (159, (.invokevirtual 103, 3)), (162, (.invokevirtual 134, 3)), (165, (.goto 39, 3)), (168, (.aload_n 0, 1))]
theorem td_W_putValue_5 : ∀ q ∈ tb_W_putValue_5, decode prog_6_method_13_code q.1 = .ok q.2 := by decide +kernel
def tb_W_putValue_6 : List (Nat × (Instr × Nat)) := [(169, (.aload_n 0, 1)), (170, (.getfield 32, 3)), (173, (.iload_n 1, 1)), (174, (.invokevirtual 137, 3)), (177, (.aload_n 0, 1)), (178, (.getfield 32, 3)), (181, (.iload_n 1, 1)), (182, (.invokevirtual 140, 3)), (185, (.iload_n 2, 1)), (186, (.invokevirtual 130, 3))]
theorem td_W_putValue_6 : ∀ q ∈ tb_W_putValue_6, decode prog_6_method_13_code q.1 = .ok q.2 := by decide +kernel
def tb_W_putValue_7 : List (Nat × (Instr × Nat)) := [(189, (.aload_n 0, 1)), (190, (.iload_n 1, 1)), (191, (.invokevirtual 143, 3)), (194, (.goto 10, 3)), (197, (.aload_n 0, 1)), (198, (.iconst 1, 1)), (199, (.ldc 146, 2)), (201, (.invokevirtual 111, 3)), (204, (.return_, 1))]
theorem td_W_putValue_7 : ∀ q ∈ tb_W_putValue_7, decode prog_6_method_13_code q.1 = .ok q.2 := by decide +kernel
def tb_W_putValue : Nat → Option (Instr × Nat) := (am_nd 131 (am_nd 89 (am_nd 67 (am_look tb_W_putValue_0) (am_look tb_W_putValue_1)) (am_nd 109 (am_look tb_W_putValue_2) (am_look tb_W_putValue_3))) (am_nd 169 (am_nd 147 (am_look tb_W_putValue_4) (am_look tb_W_putValue_5)) (am_nd 189 (am_look tb_W_putValue_6) (am_look tb_W_putValue_7))))
theorem td_W_putValue : am_dok prog_6_method_13_code tb_W_putValue := (am_dok_nd (am_dok_nd (am_dok_nd (am_dok_lf td_W_putValue_0) (am_dok_lf td_W_putValue_1)) (am_dok_nd (am_dok_lf td_W_putValue_2) (am_dok_lf td_W_putValue_3))) (am_dok_nd (am_dok_nd (am_dok_lf td_W_putValue_4) (am_dok_lf td_W_putValue_5)) (am_dok_nd (am_dok_lf td_W_putValue_6) (am_dok_lf td_W_putValue_7))))
def m_W_putValue : am_M := (⟨"SyntaxRows$Writer", "putValue", "(II)V"⟩, prog_6_method_13_code, 3, none, 4, 2, tb_W_putValue)
set_option maxRecDepth 100000 in
theorem ok_W_putValue : am_ok m_W_putValue := ⟨td_W_putValue, am_in 919 rfl rfl, am_in 102 (by decide +kernel) rfl, by decide, ⟨by decide, by decide, by decide +kernel⟩, rfl, by decide⟩
theorem oi_W_putValue : am_inst m_W_putValue := ⟨am_in 918 (by decide +kernel) rfl, am_in 31 (by decide +kernel) rfl⟩
def tb_W_putMark_0 : List (Nat × (Instr × Nat)) := [(0, (.aload_n 0, 1)), (1, (.iload_n 1, 1)), (2, (.invokevirtual 95, 3)), (5, (.aload_n 0, 1)), (6, (.aload_n 2, 1)), (7, (.invokevirtual 63, 3)), (10, (.return_, 1))]
theorem td_W_putMark_0 : ∀ q ∈ tb_W_putMark_0, decode prog_6_method_12_code q.1 = .ok q.2 := by decide +kernel
def tb_W_putMark : Nat → Option (Instr × Nat) := (am_look tb_W_putMark_0)
theorem td_W_putMark : am_dok prog_6_method_12_code tb_W_putMark := (am_dok_lf td_W_putMark_0)
def m_W_putMark : am_M := (⟨"SyntaxRows$Writer", "putMark", "(ILjava/lang/String;)V"⟩, prog_6_method_12_code, 3, none, 4, 2, tb_W_putMark)
set_option maxRecDepth 100000 in
theorem ok_W_putMark : am_ok m_W_putMark := ⟨td_W_putMark, am_in 927 rfl rfl, am_in 102 (by decide +kernel) rfl, by decide, ⟨by decide, by decide, by decide +kernel⟩, rfl, by decide⟩
theorem oi_W_putMark : am_inst m_W_putMark := ⟨am_in 926 (by decide +kernel) rfl, am_in 32 (by decide +kernel) rfl⟩
def tb_W_putGap_0 : List (Nat × (Instr × Nat)) := [(0, (.aload_n 0, 1)), (1, (.getfield 26, 3)), (4, (.ifCond .eq 32, 3)), (7, (.aload_n 0, 1)), (8, (.getfield 29, 3)), (11, (.ifCond .eq 20, 3)), (14, (.aload_n 0, 1)), (15, (.getfield 29, 3)), (18, (.iconst 4, 1)), (19, (.if_icmp .eq 12, 3))]
theorem td_W_putGap_0 : ∀ q ∈ tb_W_putGap_0, decode prog_6_method_11_code q.1 = .ok q.2 := by decide +kernel
def tb_W_putGap_1 : List (Nat × (Instr × Nat)) := [(22, (.iload_n 1, 1)), (23, (.iconst 5, 1)), (24, (.if_icmp .eq 7, 3)), (27, (.iconst 1, 1)), (28, (.goto 4, 3)), (31, (.iconst 0, 1)), (32, (.istore_n 2, 1)), (33, (.goto 30, 3)), (36, (.iload_n 1, 1)), (37, (.iconst 1, 1))]
theorem td_W_putGap_1 : ∀ q ∈ tb_W_putGap_1, decode prog_6_method_11_code q.1 = .ok q.2 := by decide +kernel
def tb_W_putGap_2 : List (Nat × (Instr × Nat)) := [(38, (.if_icmp .ne 23, 3)), (41, (.aload_n 0, 1)), (42, (.getfield 29, 3)), (45, (.iconst 1, 1)), (46, (.if_icmp .eq 11, 3)), (49, (.aload_n 0, 1)), (50, (.getfield 29, 3)), (53, (.iconst 2, 1)), (54, (.if_icmp .ne 7, 3)), (57, (.iconst 1, 1))]
theorem td_W_putGap_2 : ∀ q ∈ tb_W_putGap_2, decode prog_6_method_11_code q.1 = .ok q.2 := by decide +kernel
def tb_W_putGap_3 : List (Nat × (Instr × Nat)) := [(58, (.goto 4, 3)), (61, (.iconst 0, 1)), (62, (.istore_n 2, 1)), (63, (.iload_n 2, 1)), (64, (.ifCond .eq 9, 3)), (67, (.aload_n 0, 1)), (68, (.bipush 32, 2)), (70, (.invokevirtual 75, 3)), (73, (.aload_n 0, 1)), (74, (.iload_n 1, 1))]
theorem td_W_putGap_3 : ∀ q ∈ tb_W_putGap_3, decode prog_6_method_11_code q.1 = .ok q.2 := by decide +kernel
def tb_W_putGap_4 : List (Nat × (Instr × Nat)) := [(75, (.putfield 29, 3)), (78, (.return_, 1))]
theorem td_W_putGap_4 : ∀ q ∈ tb_W_putGap_4, decode prog_6_method_11_code q.1 = .ok q.2 := by decide +kernel
def tb_W_putGap : Nat → Option (Instr × Nat) := (am_nd 38 (am_nd 22 (am_look tb_W_putGap_0) (am_look tb_W_putGap_1)) (am_nd 58 (am_look tb_W_putGap_2) (am_nd 75 (am_look tb_W_putGap_3) (am_look tb_W_putGap_4))))
theorem td_W_putGap : am_dok prog_6_method_11_code tb_W_putGap := (am_dok_nd (am_dok_nd (am_dok_lf td_W_putGap_0) (am_dok_lf td_W_putGap_1)) (am_dok_nd (am_dok_lf td_W_putGap_2) (am_dok_nd (am_dok_lf td_W_putGap_3) (am_dok_lf td_W_putGap_4))))
def m_W_putGap : am_M := (⟨"SyntaxRows$Writer", "putGap", "(I)V"⟩, prog_6_method_11_code, 3, none, 4, 1, tb_W_putGap)
set_option maxRecDepth 100000 in
theorem ok_W_putGap : am_ok m_W_putGap := ⟨td_W_putGap, am_in 931 rfl rfl, am_in 102 (by decide +kernel) rfl, by decide, ⟨by decide, by decide, by decide +kernel⟩, rfl, by decide⟩
theorem oi_W_putGap : am_inst m_W_putGap := ⟨am_in 930 (by decide +kernel) rfl, am_in 33 (by decide +kernel) rfl⟩
def tb_W_putByte_0 : List (Nat × (Instr × Nat)) := [(0, (.aload_n 0, 1)), (1, (.getfield 22, 3)), (4, (.ifCond .eq 31, 3)), (7, (.aload_n 0, 1)), (8, (.getfield 19, 3)), (11, (.ifCond .lt 24, 3)), (14, (.aload_n 0, 1)), (15, (.getfield 19, 3)), (18, (.sipush 4000, 3)), (21, (.if_icmp .ge 14, 3))]
theorem td_W_putByte_0 : ∀ q ∈ tb_W_putByte_0, decode prog_6_method_7_code q.1 = .ok q.2 := by decide +kernel
def tb_W_putByte_1 : List (Nat × (Instr × Nat)) := [(24, (.aload_n 0, 1)), (25, (.getfield 9, 3)), (28, (.aload_n 0, 1)), (29, (.getfield 19, 3)), (32, (.iload_n 1, 1)), (33, (.i2b, 1)), (34, (.bastore, 1)), (35, (.aload_n 0, 1)), (36, (.dup, 1)), (37, (.getfield 19, 3))]
theorem td_W_putByte_1 : ∀ q ∈ tb_W_putByte_1, decode prog_6_method_7_code q.1 = .ok q.2 := by decide +kernel
def tb_W_putByte_2 : List (Nat × (Instr × Nat)) := [(40, (.iconst 1, 1)), (41, (.iadd, 1)), (42, (.putfield 19, 3)), (45, (.return_, 1))]
theorem td_W_putByte_2 : ∀ q ∈ tb_W_putByte_2, decode prog_6_method_7_code q.1 = .ok q.2 := by decide +kernel
def tb_W_putByte : Nat → Option (Instr × Nat) := (am_nd 24 (am_look tb_W_putByte_0) (am_nd 40 (am_look tb_W_putByte_1) (am_look tb_W_putByte_2)))
theorem td_W_putByte : am_dok prog_6_method_7_code tb_W_putByte := (am_dok_nd (am_dok_lf td_W_putByte_0) (am_dok_nd (am_dok_lf td_W_putByte_1) (am_dok_lf td_W_putByte_2)))
def m_W_putByte : am_M := (⟨"SyntaxRows$Writer", "putByte", "(I)V"⟩, prog_6_method_7_code, 2, none, 4, 1, tb_W_putByte)
set_option maxRecDepth 100000 in
theorem ok_W_putByte : am_ok m_W_putByte := ⟨td_W_putByte, am_in 935 rfl rfl, am_in 102 (by decide +kernel) rfl, by decide, ⟨by decide, by decide, by decide +kernel⟩, rfl, by decide⟩
theorem oi_W_putByte : am_inst m_W_putByte := ⟨am_in 934 (by decide +kernel) rfl, am_in 34 (by decide +kernel) rfl⟩
def tb_W_putText_0 : List (Nat × (Instr × Nat)) := [(0, (.iconst 0, 1)), (1, (.istore_n 2, 1)), (2, (.iload_n 2, 1)), (3, (.aload_n 1, 1)), (4, (.invokevirtual 80, 3)), (7, (.if_icmp .ge 18, 3)), (10, (.aload_n 0, 1)), (11, (.aload_n 1, 1)), (12, (.iload_n 2, 1)), (13, (.invokevirtual 85, 3))]
theorem td_W_putText_0 : ∀ q ∈ tb_W_putText_0, decode prog_6_method_8_code q.1 = .ok q.2 := by decide +kernel
def tb_W_putText_1 : List (Nat × (Instr × Nat)) := [(16, (.invokevirtual 75, 3)), (19, (.iinc 2 1, 3)), (22, (.goto (-20), 3)), (25, (.return_, 1))]
theorem td_W_putText_1 : ∀ q ∈ tb_W_putText_1, decode prog_6_method_8_code q.1 = .ok q.2 := by decide +kernel
def tb_W_putText : Nat → Option (Instr × Nat) := (am_nd 16 (am_look tb_W_putText_0) (am_look tb_W_putText_1))
theorem td_W_putText : am_dok prog_6_method_8_code tb_W_putText := (am_dok_nd (am_dok_lf td_W_putText_0) (am_dok_lf td_W_putText_1))
def m_W_putText : am_M := (⟨"SyntaxRows$Writer", "putText", "(Ljava/lang/String;)V"⟩, prog_6_method_8_code, 3, none, 4, 1, tb_W_putText)
set_option maxRecDepth 100000 in
theorem ok_W_putText : am_ok m_W_putText := ⟨td_W_putText, am_in 939 rfl rfl, am_in 102 (by decide +kernel) rfl, by decide, ⟨by decide, by decide, by decide +kernel⟩, rfl, by decide⟩
theorem oi_W_putText : am_inst m_W_putText := ⟨am_in 938 (by decide +kernel) rfl, am_in 35 (by decide +kernel) rfl⟩
def tb_W_putWhole_0 : List (Nat × (Instr × Nat)) := [(0, (.aload_n 0, 1)), (1, (.iconst 1, 1)), (2, (.invokevirtual 95, 3)), (5, (.lload_n 1, 1)), (6, (.lconst 0, 1)), (7, (.lcmp, 1)), (8, (.ifCond .ge 9, 3)), (11, (.aload_n 0, 1)), (12, (.bipush 45, 2)), (14, (.invokevirtual 75, 3))]
theorem td_W_putWhole_0 : ∀ q ∈ tb_W_putWhole_0, decode prog_6_method_14_code q.1 = .ok q.2 := by decide +kernel
def tb_W_putWhole_1 : List (Nat × (Instr × Nat)) := [(17, (.aload_n 0, 1)), (18, (.lload_n 1, 1)), (19, (.invokestatic 148, 3)), (22, (.invokevirtual 71, 3)), (25, (.return_, 1))]
theorem td_W_putWhole_1 : ∀ q ∈ tb_W_putWhole_1, decode prog_6_method_14_code q.1 = .ok q.2 := by decide +kernel
def tb_W_putWhole : Nat → Option (Instr × Nat) := (am_nd 17 (am_look tb_W_putWhole_0) (am_look tb_W_putWhole_1))
theorem td_W_putWhole : am_dok prog_6_method_14_code tb_W_putWhole := (am_dok_nd (am_dok_lf td_W_putWhole_0) (am_dok_lf td_W_putWhole_1))
def m_W_putWhole : am_M := (⟨"SyntaxRows$Writer", "putWhole", "(J)V"⟩, prog_6_method_14_code, 3, none, 4, 1, tb_W_putWhole)
set_option maxRecDepth 100000 in
theorem ok_W_putWhole : am_ok m_W_putWhole := ⟨td_W_putWhole, am_in 945 rfl rfl, am_in 102 (by decide +kernel) rfl, by decide, ⟨by decide, by decide, by decide +kernel⟩, rfl, by decide⟩
theorem oi_W_putWhole : am_inst m_W_putWhole := ⟨am_in 944 (by decide +kernel) rfl, am_in 36 (by decide +kernel) rfl⟩
def tb_W_putFigures_0 : List (Nat × (Instr × Nat)) := [(0, (.ldc2_w 89, 3)), (3, (.lstore_n 3, 1)), (4, (.lload_n 3, 1)), (5, (.lconst 0, 1)), (6, (.lcmp, 1)), (7, (.ifCond .le 39, 3)), (10, (.lload_n 1, 1)), (11, (.lload_n 3, 1)), (12, (.lcmp, 1)), (13, (.ifCond .ge 9, 3))]
theorem td_W_putFigures_0 : ∀ q ∈ tb_W_putFigures_0, decode prog_6_method_9_code q.1 = .ok q.2 := by decide +kernel
def tb_W_putFigures_1 : List (Nat × (Instr × Nat)) := [(16, (.lload_n 3, 1)), (17, (.lconst 1, 1)), (18, (.lcmp, 1)), (19, (.ifCond .ne 18, 3)), (22, (.aload_n 0, 1)), (23, (.bipush 48, 2)), (25, (.lload_n 1, 1)), (26, (.lload_n 3, 1)), (27, (.ldiv, 1)), (28, (.ldc2_w 91, 3))]
theorem td_W_putFigures_1 : ∀ q ∈ tb_W_putFigures_1, decode prog_6_method_9_code q.1 = .ok q.2 := by decide +kernel
def tb_W_putFigures_2 : List (Nat × (Instr × Nat)) := [(31, (.lrem, 1)), (32, (.l2i, 1)), (33, (.iadd, 1)), (34, (.invokevirtual 75, 3)), (37, (.lload_n 3, 1)), (38, (.ldc2_w 91, 3)), (41, (.ldiv, 1)), (42, (.lstore_n 3, 1)), (43, (.goto (-39), 3)), (46, (.return_, 1))]
theorem td_W_putFigures_2 : ∀ q ∈ tb_W_putFigures_2, decode prog_6_method_9_code q.1 = .ok q.2 := by decide +kernel
def tb_W_putFigures : Nat → Option (Instr × Nat) := (am_nd 16 (am_look tb_W_putFigures_0) (am_nd 31 (am_look tb_W_putFigures_1) (am_look tb_W_putFigures_2)))
theorem td_W_putFigures : am_dok prog_6_method_9_code tb_W_putFigures := (am_dok_nd (am_dok_lf td_W_putFigures_0) (am_dok_nd (am_dok_lf td_W_putFigures_1) (am_dok_lf td_W_putFigures_2)))
def m_W_putFigures : am_M := (⟨"SyntaxRows$Writer", "putFigures", "(J)V"⟩, prog_6_method_9_code, 5, none, 4, 1, tb_W_putFigures)
set_option maxRecDepth 100000 in
theorem ok_W_putFigures : am_ok m_W_putFigures := ⟨td_W_putFigures, am_in 952 rfl rfl, am_in 102 (by decide +kernel) rfl, by decide, ⟨by decide, by decide, by decide +kernel⟩, rfl, by decide⟩
theorem oi_W_putFigures : am_inst m_W_putFigures := ⟨am_in 951 (by decide +kernel) rfl, am_in 37 (by decide +kernel) rfl⟩
def tb_W_putReal_0 : List (Nat × (Instr × Nat)) := [(0, (.lload_n 1, 1)), (1, (.invokestatic 148, 3)), (4, (.lstore_n 3, 1)), (5, (.aload_n 0, 1)), (6, (.iconst 1, 1)), (7, (.invokevirtual 95, 3)), (10, (.lload_n 1, 1)), (11, (.lconst 0, 1)), (12, (.lcmp, 1)), (13, (.ifCond .ge 9, 3))]
theorem td_W_putReal_0 : ∀ q ∈ tb_W_putReal_0, decode prog_6_method_15_code q.1 = .ok q.2 := by decide +kernel
def tb_W_putReal_1 : List (Nat × (Instr × Nat)) := [(16, (.aload_n 0, 1)), (17, (.bipush 45, 2)), (19, (.invokevirtual 75, 3)), (22, (.lload_n 3, 1)), (23, (.ldc2_w 154, 3)), (26, (.lcmp, 1)), (27, (.ifCond .lt 12, 3)), (30, (.aload_n 0, 1)), (31, (.lload_n 3, 1)), (32, (.ldc2_w 154, 3))]
theorem td_W_putReal_1 : ∀ q ∈ tb_W_putReal_1, decode prog_6_method_15_code q.1 = .ok q.2 := by decide +kernel
def tb_W_putReal_2 : List (Nat × (Instr × Nat)) := [(35, (.ldiv, 1)), (36, (.invokevirtual 71, 3)), (39, (.aload_n 0, 1)), (40, (.bipush 46, 2)), (42, (.invokevirtual 75, 3)), (45, (.lload_n 3, 1)), (46, (.ldc2_w 154, 3)), (49, (.lrem, 1)), (50, (.lstore 5, 2)), (52, (.ldc2_w 156, 3))]
theorem td_W_putReal_2 : ∀ q ∈ tb_W_putReal_2, decode prog_6_method_15_code q.1 = .ok q.2 := by decide +kernel
def tb_W_putReal_3 : List (Nat × (Instr × Nat)) := [(55, (.lstore 7, 2)), (57, (.lload 7, 2)), (59, (.lconst 0, 1)), (60, (.lcmp, 1)), (61, (.ifCond .le 41, 3)), (64, (.lload 5, 2)), (66, (.lconst 0, 1)), (67, (.lcmp, 1)), (68, (.ifCond .le 34, 3)), (71, (.aload_n 0, 1))]
theorem td_W_putReal_3 : ∀ q ∈ tb_W_putReal_3, decode prog_6_method_15_code q.1 = .ok q.2 := by decide +kernel
def tb_W_putReal_4 : List (Nat × (Instr × Nat)) := [(72, (.bipush 48, 2)), (74, (.lload 5, 2)), (76, (.lload 7, 2)), (78, (.ldiv, 1)), (79, (.l2i, 1)), (80, (.iadd, 1)), (81, (.invokevirtual 75, 3)), (84, (.lload 5, 2)), (86, (.lload 7, 2)), (88, (.lrem, 1))]
theorem td_W_putReal_4 : ∀ q ∈ tb_W_putReal_4, decode prog_6_method_15_code q.1 = .ok q.2 := by decide +kernel
def tb_W_putReal_5 : List (Nat × (Instr × Nat)) := [(89, (.lstore 5, 2)), (91, (.lload 7, 2)), (93, (.ldc2_w 91, 3)), (96, (.ldiv, 1)), (97, (.lstore 7, 2)), (99, (.goto (-42), 3)), (102, (.lload_n 3, 1)), (103, (.lconst 0, 1)), (104, (.lcmp, 1)), (105, (.ifCond .ne 9, 3))]
theorem td_W_putReal_5 : ∀ q ∈ tb_W_putReal_5, decode prog_6_method_15_code q.1 = .ok q.2 := by decide +kernel
def tb_W_putReal_6 : List (Nat × (Instr × Nat)) := [(108, (.aload_n 0, 1)), (109, (.bipush 48, 2)), (111, (.invokevirtual 75, 3)), (114, (.return_, 1))]
theorem td_W_putReal_6 : ∀ q ∈ tb_W_putReal_6, decode prog_6_method_15_code q.1 = .ok q.2 := by decide +kernel
def tb_W_putReal : Nat → Option (Instr × Nat) := (am_nd 55 (am_nd 16 (am_look tb_W_putReal_0) (am_nd 35 (am_look tb_W_putReal_1) (am_look tb_W_putReal_2))) (am_nd 89 (am_nd 72 (am_look tb_W_putReal_3) (am_look tb_W_putReal_4)) (am_nd 108 (am_look tb_W_putReal_5) (am_look tb_W_putReal_6))))
theorem td_W_putReal : am_dok prog_6_method_15_code tb_W_putReal := (am_dok_nd (am_dok_nd (am_dok_lf td_W_putReal_0) (am_dok_nd (am_dok_lf td_W_putReal_1) (am_dok_lf td_W_putReal_2))) (am_dok_nd (am_dok_nd (am_dok_lf td_W_putReal_3) (am_dok_lf td_W_putReal_4)) (am_dok_nd (am_dok_lf td_W_putReal_5) (am_dok_lf td_W_putReal_6))))
def m_W_putReal : am_M := (⟨"SyntaxRows$Writer", "putReal", "(J)V"⟩, prog_6_method_15_code, 9, none, 4, 1, tb_W_putReal)
set_option maxRecDepth 100000 in
theorem ok_W_putReal : am_ok m_W_putReal := ⟨td_W_putReal, am_in 958 rfl rfl, am_in 102 (by decide +kernel) rfl, by decide, ⟨by decide, by decide, by decide +kernel⟩, rfl, by decide⟩
theorem oi_W_putReal : am_inst m_W_putReal := ⟨am_in 957 (by decide +kernel) rfl, am_in 38 (by decide +kernel) rfl⟩
def tb_W_putName_0 : List (Nat × (Instr × Nat)) := [(0, (.aload_n 0, 1)), (1, (.iconst 2, 1)), (2, (.invokevirtual 95, 3)), (5, (.aload_n 0, 1)), (6, (.bipush 47, 2)), (8, (.invokevirtual 75, 3)), (11, (.iconst 0, 1)), (12, (.istore_n 2, 1)), (13, (.iload_n 2, 1)), (14, (.aload_n 0, 1))]
theorem td_W_putName_0 : ∀ q ∈ tb_W_putName_0, decode prog_6_method_17_code q.1 = .ok q.2 := by decide +kernel
def tb_W_putName_1 : List (Nat × (Instr × Nat)) := [(15, (.getfield 32, 3)), (18, (.iload_n 1, 1)), (19, (.invokevirtual 140, 3)), (22, (.if_icmp .ge 51, 3)), (25, (.aload_n 0, 1)), (26, (.getfield 32, 3)), (29, (.iload_n 1, 1)), (30, (.iload_n 2, 1)), (31, (.invokevirtual 162, 3)), (34, (.istore_n 3, 1))]
theorem td_W_putName_1 : ∀ q ∈ tb_W_putName_1, decode prog_6_method_17_code q.1 = .ok q.2 := by decide +kernel
def tb_W_putName_2 : List (Nat × (Instr × Nat)) := [(35, (.iload_n 3, 1)), (36, (.invokestatic 165, 3)), (39, (.ifCond .eq 17, 3)), (42, (.iload_n 3, 1)), (43, (.bipush 35, 2)), (45, (.if_icmp .eq 11, 3)), (48, (.aload_n 0, 1)), (49, (.iload_n 3, 1)), (50, (.invokevirtual 75, 3)), (53, (.goto 14, 3))]
theorem td_W_putName_2 : ∀ q ∈ tb_W_putName_2, decode prog_6_method_17_code q.1 = .ok q.2 := by decide +kernel
def tb_W_putName_3 : List (Nat × (Instr × Nat)) := [(56, (.aload_n 0, 1)), (57, (.bipush 35, 2)), (59, (.invokevirtual 75, 3)), (62, (.aload_n 0, 1)), (63, (.iload_n 3, 1)), (64, (.invokevirtual 169, 3)), (67, (.iinc 2 1, 3)), (70, (.goto (-57), 3)), (73, (.return_, 1))]
theorem td_W_putName_3 : ∀ q ∈ tb_W_putName_3, decode prog_6_method_17_code q.1 = .ok q.2 := by decide +kernel
def tb_W_putName : Nat → Option (Instr × Nat) := (am_nd 35 (am_nd 15 (am_look tb_W_putName_0) (am_look tb_W_putName_1)) (am_nd 56 (am_look tb_W_putName_2) (am_look tb_W_putName_3)))
theorem td_W_putName : am_dok prog_6_method_17_code tb_W_putName := (am_dok_nd (am_dok_nd (am_dok_lf td_W_putName_0) (am_dok_lf td_W_putName_1)) (am_dok_nd (am_dok_lf td_W_putName_2) (am_dok_lf td_W_putName_3)))
def m_W_putName : am_M := (⟨"SyntaxRows$Writer", "putName", "(I)V"⟩, prog_6_method_17_code, 4, none, 4, 1, tb_W_putName)
set_option maxRecDepth 100000 in
theorem ok_W_putName : am_ok m_W_putName := ⟨td_W_putName, am_in 964 rfl rfl, am_in 102 (by decide +kernel) rfl, by decide, ⟨by decide, by decide, by decide +kernel⟩, rfl, by decide⟩
theorem oi_W_putName : am_inst m_W_putName := ⟨am_in 963 (by decide +kernel) rfl, am_in 39 (by decide +kernel) rfl⟩
def tb_W_putFigures16_0 : List (Nat × (Instr × Nat)) := [(0, (.aload_n 0, 1)), (1, (.ldc 93, 2)), (3, (.iload_n 1, 1)), (4, (.iconst 4, 1)), (5, (.ishr, 1)), (6, (.bipush 15, 2)), (8, (.iand, 1)), (9, (.invokevirtual 85, 3)), (12, (.invokevirtual 75, 3)), (15, (.aload_n 0, 1))]
theorem td_W_putFigures16_0 : ∀ q ∈ tb_W_putFigures16_0, decode prog_6_method_10_code q.1 = .ok q.2 := by decide +kernel
def tb_W_putFigures16_1 : List (Nat × (Instr × Nat)) := [(16, (.ldc 93, 2)), (18, (.iload_n 1, 1)), (19, (.bipush 15, 2)), (21, (.iand, 1)), (22, (.invokevirtual 85, 3)), (25, (.invokevirtual 75, 3)), (28, (.return_, 1))]
theorem td_W_putFigures16_1 : ∀ q ∈ tb_W_putFigures16_1, decode prog_6_method_10_code q.1 = .ok q.2 := by decide +kernel
def tb_W_putFigures16 : Nat → Option (Instr × Nat) := (am_nd 16 (am_look tb_W_putFigures16_0) (am_look tb_W_putFigures16_1))
theorem td_W_putFigures16 : am_dok prog_6_method_10_code tb_W_putFigures16 := (am_dok_nd (am_dok_lf td_W_putFigures16_0) (am_dok_lf td_W_putFigures16_1))
def m_W_putFigures16 : am_M := (⟨"SyntaxRows$Writer", "putFigures16", "(I)V"⟩, prog_6_method_10_code, 2, none, 4, 1, tb_W_putFigures16)
set_option maxRecDepth 100000 in
theorem ok_W_putFigures16 : am_ok m_W_putFigures16 := ⟨td_W_putFigures16, am_in 971 rfl rfl, am_in 102 (by decide +kernel) rfl, by decide, ⟨by decide, by decide, by decide +kernel⟩, rfl, by decide⟩
theorem oi_W_putFigures16 : am_inst m_W_putFigures16 := ⟨am_in 970 (by decide +kernel) rfl, am_in 40 (by decide +kernel) rfl⟩
def tb_W_putString_0 : List (Nat × (Instr × Nat)) := [(0, (.aload_n 0, 1)), (1, (.iconst 3, 1)), (2, (.ldc 172, 2)), (4, (.invokevirtual 111, 3)), (7, (.iconst 0, 1)), (8, (.istore_n 2, 1)), (9, (.iload_n 2, 1)), (10, (.aload_n 0, 1)), (11, (.getfield 32, 3)), (14, (.iload_n 1, 1))]
theorem td_W_putString_0 : ∀ q ∈ tb_W_putString_0, decode prog_6_method_18_code q.1 = .ok q.2 := by decide +kernel
def tb_W_putString_1 : List (Nat × (Instr × Nat)) := [(15, (.invokevirtual 140, 3)), (18, (.if_icmp .ge 65, 3)), (21, (.aload_n 0, 1)), (22, (.getfield 32, 3)), (25, (.iload_n 1, 1)), (26, (.iload_n 2, 1)), (27, (.invokevirtual 162, 3)), (30, (.istore_n 3, 1)), (31, (.iload_n 3, 1)), (32, (.bipush 92, 2))]
theorem td_W_putString_1 : ∀ q ∈ tb_W_putString_1, decode prog_6_method_18_code q.1 = .ok q.2 := by decide +kernel
def tb_W_putString_2 : List (Nat × (Instr × Nat)) := [(34, (.if_icmp .eq 21, 3)), (37, (.iload_n 3, 1)), (38, (.bipush 40, 2)), (40, (.if_icmp .eq 15, 3)), (43, (.iload_n 3, 1)), (44, (.bipush 41, 2)), (46, (.if_icmp .eq 9, 3)), (49, (.iload_n 3, 1)), (50, (.bipush 13, 2)), (52, (.if_icmp .ne 9, 3))]
theorem td_W_putString_2 : ∀ q ∈ tb_W_putString_2, decode prog_6_method_18_code q.1 = .ok q.2 := by decide +kernel
def tb_W_putString_3 : List (Nat × (Instr × Nat)) := [(55, (.aload_n 0, 1)), (56, (.bipush 92, 2)), (58, (.invokevirtual 75, 3)), (61, (.aload_n 0, 1)), (62, (.iload_n 3, 1)), (63, (.bipush 13, 2)), (65, (.if_icmp .ne 8, 3)), (68, (.bipush 114, 2)), (70, (.goto 4, 3)), (73, (.iload_n 3, 1))]
theorem td_W_putString_3 : ∀ q ∈ tb_W_putString_3, decode prog_6_method_18_code q.1 = .ok q.2 := by decide +kernel
def tb_W_putString_4 : List (Nat × (Instr × Nat)) := [(74, (.invokevirtual 75, 3)), (77, (.iinc 2 1, 3)), (80, (.goto (-71), 3)), (83, (.aload_n 0, 1)), (84, (.bipush 41, 2)), (86, (.invokevirtual 75, 3)), (89, (.return_, 1))]
theorem td_W_putString_4 : ∀ q ∈ tb_W_putString_4, decode prog_6_method_18_code q.1 = .ok q.2 := by decide +kernel
def tb_W_putString : Nat → Option (Instr × Nat) := (am_nd 34 (am_nd 15 (am_look tb_W_putString_0) (am_look tb_W_putString_1)) (am_nd 55 (am_look tb_W_putString_2) (am_nd 74 (am_look tb_W_putString_3) (am_look tb_W_putString_4))))
theorem td_W_putString : am_dok prog_6_method_18_code tb_W_putString := (am_dok_nd (am_dok_nd (am_dok_lf td_W_putString_0) (am_dok_lf td_W_putString_1)) (am_dok_nd (am_dok_lf td_W_putString_2) (am_dok_nd (am_dok_lf td_W_putString_3) (am_dok_lf td_W_putString_4))))
def m_W_putString : am_M := (⟨"SyntaxRows$Writer", "putString", "(I)V"⟩, prog_6_method_18_code, 4, none, 4, 1, tb_W_putString)
set_option maxRecDepth 100000 in
theorem ok_W_putString : am_ok m_W_putString := ⟨td_W_putString, am_in 976 rfl rfl, am_in 102 (by decide +kernel) rfl, by decide, ⟨by decide, by decide, by decide +kernel⟩, rfl, by decide⟩
theorem oi_W_putString : am_inst m_W_putString := ⟨am_in 975 (by decide +kernel) rfl, am_in 41 (by decide +kernel) rfl⟩
def tb_W_putArray_0 : List (Nat × (Instr × Nat)) := [(0, (.aload_n 0, 1)), (1, (.iconst 4, 1)), (2, (.ldc 174, 2)), (4, (.invokevirtual 111, 3)), (7, (.aload_n 0, 1)), (8, (.getfield 32, 3)), (11, (.iload_n 1, 1)), (12, (.invokevirtual 137, 3)), (15, (.istore_n 3, 1)), (16, (.iconst 0, 1))]
theorem td_W_putArray_0 : ∀ q ∈ tb_W_putArray_0, decode prog_6_method_19_code q.1 = .ok q.2 := by decide +kernel
def tb_W_putArray_1 : List (Nat × (Instr × Nat)) := [(17, (.istore 4, 2)), (19, (.iload 4, 2)), (21, (.aload_n 0, 1)), (22, (.getfield 32, 3)), (25, (.iload_n 1, 1)), (26, (.invokevirtual 176, 3)), (29, (.if_icmp .ge 32, 3)), (32, (.iload_n 2, 1)), (33, (.bipush 8, 2)), (35, (.if_icmp .ge 26, 3))]
theorem td_W_putArray_1 : ∀ q ∈ tb_W_putArray_1, decode prog_6_method_19_code q.1 = .ok q.2 := by decide +kernel
def tb_W_putArray_2 : List (Nat × (Instr × Nat)) := [(38, (.aload_n 0, 1)), (39, (.iload_n 3, 1)), (40, (.iload_n 2, 1)), (41, (.iconst 1, 1)), (42, (.iadd, 1)), (43, (.invokevirtual 44, 3)), (46, (.aload_n 0, 1)), (47, (.getfield 32, 3)), (50, (.iload_n 3, 1)), (51, (.invokevirtual 179, 3))]
theorem td_W_putArray_2 : ∀ q ∈ tb_W_putArray_2, decode prog_6_method_19_code q.1 = .ok q.2 := by decide +kernel
def tb_W_putArray_3 : List (Nat × (Instr × Nat)) := [(54, (.istore_n 3, 1)), (55, (.iinc 4 1, 3)), (58, (.goto (-39), 3)), (61, (.aload_n 0, 1)), (62, (.iconst 5, 1)), (63, (.ldc 182, 2)), (65, (.invokevirtual 111, 3)), (68, (.return_, 1))]
theorem td_W_putArray_3 : ∀ q ∈ tb_W_putArray_3, decode prog_6_method_19_code q.1 = .ok q.2 := by decide +kernel
def tb_W_putArray : Nat → Option (Instr × Nat) := (am_nd 38 (am_nd 17 (am_look tb_W_putArray_0) (am_look tb_W_putArray_1)) (am_nd 54 (am_look tb_W_putArray_2) (am_look tb_W_putArray_3)))
theorem td_W_putArray : am_dok prog_6_method_19_code tb_W_putArray := (am_dok_nd (am_dok_nd (am_dok_lf td_W_putArray_0) (am_dok_lf td_W_putArray_1)) (am_dok_nd (am_dok_lf td_W_putArray_2) (am_dok_lf td_W_putArray_3)))
def m_W_putArray : am_M := (⟨"SyntaxRows$Writer", "putArray", "(II)V"⟩, prog_6_method_19_code, 5, none, 4, 2, tb_W_putArray)
set_option maxRecDepth 100000 in
theorem ok_W_putArray : am_ok m_W_putArray := ⟨td_W_putArray, am_in 981 rfl rfl, am_in 102 (by decide +kernel) rfl, by decide, ⟨by decide, by decide, by decide +kernel⟩, rfl, by decide⟩
theorem oi_W_putArray : am_inst m_W_putArray := ⟨am_in 980 (by decide +kernel) rfl, am_in 42 (by decide +kernel) rfl⟩
def tb_W_putDictionary_0 : List (Nat × (Instr × Nat)) := [(0, (.iload_n 2, 1)), (1, (.iconst (-1), 1)), (2, (.if_icmp .ne 7, 3)), (5, (.iconst (-1), 1)), (6, (.goto 13, 3)), (9, (.aload_n 0, 1)), (10, (.getfield 32, 3)), (13, (.iload_n 1, 1)), (14, (.ldc 184, 2)), (16, (.invokevirtual 186, 3))]
theorem td_W_putDictionary_0 : ∀ q ∈ tb_W_putDictionary_0, decode prog_6_method_20_code q.1 = .ok q.2 := by decide +kernel
def tb_W_putDictionary_1 : List (Nat × (Instr × Nat)) := [(19, (.istore 4, 2)), (21, (.aload_n 0, 1)), (22, (.iconst 4, 1)), (23, (.ldc 190, 2)), (25, (.invokevirtual 111, 3)), (28, (.aload_n 0, 1)), (29, (.getfield 32, 3)), (32, (.iload_n 1, 1)), (33, (.invokevirtual 137, 3)), (36, (.istore 5, 2))]
theorem td_W_putDictionary_1 : ∀ q ∈ tb_W_putDictionary_1, decode prog_6_method_20_code q.1 = .ok q.2 := by decide +kernel
def tb_W_putDictionary_2 : List (Nat × (Instr × Nat)) := [(38, (.iconst 0, 1)), (39, (.istore 6, 2)), (41, (.iload 6, 2)), (43, (.aload_n 0, 1)), (44, (.getfield 32, 3)), (47, (.iload_n 1, 1)), (48, (.invokevirtual 176, 3)), (51, (.iconst 2, 1)), (52, (.idiv, 1)), (53, (.if_icmp .ge 64, 3))]
theorem td_W_putDictionary_2 : ∀ q ∈ tb_W_putDictionary_2, decode prog_6_method_20_code q.1 = .ok q.2 := by decide +kernel
def tb_W_putDictionary_3 : List (Nat × (Instr × Nat)) := [(56, (.iload_n 3, 1)), (57, (.bipush 8, 2)), (59, (.if_icmp .ge 58, 3)), (62, (.aload_n 0, 1)), (63, (.iload 5, 2)), (65, (.invokevirtual 121, 3)), (68, (.iload 5, 2)), (70, (.iload 4, 2)), (72, (.if_icmp .ne 12, 3)), (75, (.aload_n 0, 1))]
theorem td_W_putDictionary_3 : ∀ q ∈ tb_W_putDictionary_3, decode prog_6_method_20_code q.1 = .ok q.2 := by decide +kernel
def tb_W_putDictionary_4 : List (Nat × (Instr × Nat)) := [(76, (.iload_n 2, 1)), (77, (.i2l, 1)), (78, (.invokevirtual 115, 3)), (81, (.goto 19, 3)), (84, (.aload_n 0, 1)), (85, (.aload_n 0, 1)), (86, (.getfield 32, 3)), (89, (.iload 5, 2)), (91, (.invokevirtual 192, 3)), (94, (.iload_n 3, 1))]
theorem td_W_putDictionary_4 : ∀ q ∈ tb_W_putDictionary_4, decode prog_6_method_20_code q.1 = .ok q.2 := by decide +kernel
def tb_W_putDictionary_5 : List (Nat × (Instr × Nat)) := [(95, (.iconst 1, 1)), (96, (.iadd, 1)), (97, (.invokevirtual 44, 3)), (100, (.aload_n 0, 1)), (101, (.getfield 32, 3)), (104, (.iload 5, 2)), (106, (.invokevirtual 179, 3)), (109, (.istore 5, 2)), (111, (.iinc 6 1, 3)), (114, (.goto (-73), 3))]
theorem td_W_putDictionary_5 : ∀ q ∈ tb_W_putDictionary_5, decode prog_6_method_20_code q.1 = .ok q.2 := by decide +kernel
def tb_W_putDictionary_6 : List (Nat × (Instr × Nat)) := [(117, (.iload_n 2, 1)), (118, (.iconst (-1), 1)), (119, (.if_icmp .eq 22, 3)), (122, (.iload 4, 2)), (124, (.iconst (-1), 1)), (125, (.if_icmp .ne 16, 3)), (128, (.aload_n 0, 1)), (129, (.iconst 2, 1)), (130, (.ldc 195, 2)), (132, (.invokevirtual 111, 3))]
theorem td_W_putDictionary_6 : ∀ q ∈ tb_W_putDictionary_6, decode prog_6_method_20_code q.1 = .ok q.2 := by decide +kernel
def tb_W_putDictionary_7 : List (Nat × (Instr × Nat)) := [(135, (.aload_n 0, 1)), (136, (.iload_n 2, 1)), (137, (.i2l, 1)), (138, (.invokevirtual 115, 3)), (141, (.aload_n 0, 1)), (142, (.iconst 5, 1)), (143, (.ldc 197, 2)), (145, (.invokevirtual 111, 3)), (148, (.return_, 1))]
theorem td_W_putDictionary_7 : ∀ q ∈ tb_W_putDictionary_7, decode prog_6_method_20_code q.1 = .ok q.2 := by decide +kernel
def tb_W_putDictionary : Nat → Option (Instr × Nat) := (am_nd 76 (am_nd 38 (am_nd 19 (am_look tb_W_putDictionary_0) (am_look tb_W_putDictionary_1)) (am_nd 56 (am_look tb_W_putDictionary_2) (am_look tb_W_putDictionary_3))) (am_nd 117 (am_nd 95 (am_look tb_W_putDictionary_4) (am_look tb_W_putDictionary_5)) (am_nd 135 (am_look tb_W_putDictionary_6) (am_look tb_W_putDictionary_7))))
theorem td_W_putDictionary : am_dok prog_6_method_20_code tb_W_putDictionary := (am_dok_nd (am_dok_nd (am_dok_nd (am_dok_lf td_W_putDictionary_0) (am_dok_lf td_W_putDictionary_1)) (am_dok_nd (am_dok_lf td_W_putDictionary_2) (am_dok_lf td_W_putDictionary_3))) (am_dok_nd (am_dok_nd (am_dok_lf td_W_putDictionary_4) (am_dok_lf td_W_putDictionary_5)) (am_dok_nd (am_dok_lf td_W_putDictionary_6) (am_dok_lf td_W_putDictionary_7))))
def m_W_putDictionary : am_M := (⟨"SyntaxRows$Writer", "putDictionary", "(III)V"⟩, prog_6_method_20_code, 7, none, 4, 3, tb_W_putDictionary)
set_option maxRecDepth 100000 in
theorem ok_W_putDictionary : am_ok m_W_putDictionary := ⟨td_W_putDictionary, am_in 990 rfl rfl, am_in 102 (by decide +kernel) rfl, by decide, ⟨by decide, by decide, by decide +kernel⟩, rfl, by decide⟩
theorem oi_W_putDictionary : am_inst m_W_putDictionary := ⟨am_in 989 (by decide +kernel) rfl, am_in 43 (by decide +kernel) rfl⟩
def tb_W_putReference_0 : List (Nat × (Instr × Nat)) := [(0, (.aload_n 0, 1)), (1, (.iconst 1, 1)), (2, (.invokevirtual 95, 3)), (5, (.aload_n 0, 1)), (6, (.lload_n 1, 1)), (7, (.ldc2_w 158, 3)), (10, (.lrem, 1)), (11, (.invokevirtual 71, 3)), (14, (.aload_n 0, 1)), (15, (.bipush 32, 2))]
theorem td_W_putReference_0 : ∀ q ∈ tb_W_putReference_0, decode prog_6_method_16_code q.1 = .ok q.2 := by decide +kernel
def tb_W_putReference_1 : List (Nat × (Instr × Nat)) := [(17, (.invokevirtual 75, 3)), (20, (.aload_n 0, 1)), (21, (.lload_n 1, 1)), (22, (.ldc2_w 158, 3)), (25, (.ldiv, 1)), (26, (.invokevirtual 71, 3)), (29, (.aload_n 0, 1)), (30, (.ldc 160, 2)), (32, (.invokevirtual 63, 3)), (35, (.return_, 1))]
theorem td_W_putReference_1 : ∀ q ∈ tb_W_putReference_1, decode prog_6_method_16_code q.1 = .ok q.2 := by decide +kernel
def tb_W_putReference : Nat → Option (Instr × Nat) := (am_nd 17 (am_look tb_W_putReference_0) (am_look tb_W_putReference_1))
theorem td_W_putReference : am_dok prog_6_method_16_code tb_W_putReference := (am_dok_nd (am_dok_lf td_W_putReference_0) (am_dok_lf td_W_putReference_1))
def m_W_putReference : am_M := (⟨"SyntaxRows$Writer", "putReference", "(J)V"⟩, prog_6_method_16_code, 3, none, 4, 1, tb_W_putReference)
set_option maxRecDepth 100000 in
theorem ok_W_putReference : am_ok m_W_putReference := ⟨td_W_putReference, am_in 1000 rfl rfl, am_in 102 (by decide +kernel) rfl, by decide, ⟨by decide, by decide, by decide +kernel⟩, rfl, by decide⟩
theorem oi_W_putReference : am_inst m_W_putReference := ⟨am_in 999 (by decide +kernel) rfl, am_in 44 (by decide +kernel) rfl⟩
def tb_W_putStreamBytes_0 : List (Nat × (Instr × Nat)) := [(0, (.aload_n 0, 1)), (1, (.ldc 199, 2)), (3, (.invokevirtual 63, 3)), (6, (.iconst 0, 1)), (7, (.istore_n 2, 1)), (8, (.iload_n 2, 1)), (9, (.aload_n 0, 1)), (10, (.getfield 32, 3)), (13, (.iload_n 1, 1)), (14, (.invokevirtual 140, 3))]
theorem td_W_putStreamBytes_0 : ∀ q ∈ tb_W_putStreamBytes_0, decode prog_6_method_21_code q.1 = .ok q.2 := by decide +kernel
def tb_W_putStreamBytes_1 : List (Nat × (Instr × Nat)) := [(17, (.if_icmp .ge 22, 3)), (20, (.aload_n 0, 1)), (21, (.aload_n 0, 1)), (22, (.getfield 32, 3)), (25, (.iload_n 1, 1)), (26, (.iload_n 2, 1)), (27, (.invokevirtual 162, 3)), (30, (.invokevirtual 75, 3)), (33, (.iinc 2 1, 3)), (36, (.goto (-28), 3))]
theorem td_W_putStreamBytes_1 : ∀ q ∈ tb_W_putStreamBytes_1, decode prog_6_method_21_code q.1 = .ok q.2 := by decide +kernel
def tb_W_putStreamBytes_2 : List (Nat × (Instr × Nat)) := [(39, (.aload_n 0, 1)), (40, (.ldc 201, 2)), (42, (.invokevirtual 63, 3)), (45, (.return_, 1))]
theorem td_W_putStreamBytes_2 : ∀ q ∈ tb_W_putStreamBytes_2, decode prog_6_method_21_code q.1 = .ok q.2 := by decide +kernel
def tb_W_putStreamBytes : Nat → Option (Instr × Nat) := (am_nd 17 (am_look tb_W_putStreamBytes_0) (am_nd 39 (am_look tb_W_putStreamBytes_1) (am_look tb_W_putStreamBytes_2)))
theorem td_W_putStreamBytes : am_dok prog_6_method_21_code tb_W_putStreamBytes := (am_dok_nd (am_dok_lf td_W_putStreamBytes_0) (am_dok_nd (am_dok_lf td_W_putStreamBytes_1) (am_dok_lf td_W_putStreamBytes_2)))
def m_W_putStreamBytes : am_M := (⟨"SyntaxRows$Writer", "putStreamBytes", "(I)V"⟩, prog_6_method_21_code, 3, none, 4, 1, tb_W_putStreamBytes)
set_option maxRecDepth 100000 in
theorem ok_W_putStreamBytes : am_ok m_W_putStreamBytes := ⟨td_W_putStreamBytes, am_in 1006 rfl rfl, am_in 102 (by decide +kernel) rfl, by decide, ⟨by decide, by decide, by decide +kernel⟩, rfl, by decide⟩
theorem oi_W_putStreamBytes : am_inst m_W_putStreamBytes := ⟨am_in 1005 (by decide +kernel) rfl, am_in 45 (by decide +kernel) rfl⟩
def tb_W_putHead_0 : List (Nat × (Instr × Nat)) := [(0, (.aload_n 0, 1)), (1, (.aload_n 0, 1)), (2, (.getfield 36, 3)), (5, (.iload_n 1, 1)), (6, (.iconst 0, 1)), (7, (.invokevirtual 67, 3)), (10, (.i2l, 1)), (11, (.invokevirtual 71, 3)), (14, (.aload_n 0, 1)), (15, (.bipush 32, 2))]
theorem td_W_putHead_0 : ∀ q ∈ tb_W_putHead_0, decode prog_6_method_6_code q.1 = .ok q.2 := by decide +kernel
def tb_W_putHead_1 : List (Nat × (Instr × Nat)) := [(17, (.invokevirtual 75, 3)), (20, (.aload_n 0, 1)), (21, (.aload_n 0, 1)), (22, (.getfield 36, 3)), (25, (.iload_n 1, 1)), (26, (.iconst 1, 1)), (27, (.invokevirtual 67, 3)), (30, (.i2l, 1)), (31, (.invokevirtual 71, 3)), (34, (.aload_n 0, 1))]
theorem td_W_putHead_1 : ∀ q ∈ tb_W_putHead_1, decode prog_6_method_6_code q.1 = .ok q.2 := by decide +kernel
def tb_W_putHead_2 : List (Nat × (Instr × Nat)) := [(35, (.ldc 78, 2)), (37, (.invokevirtual 63, 3)), (40, (.aload_n 0, 1)), (41, (.iconst 0, 1)), (42, (.putfield 29, 3)), (45, (.return_, 1))]
theorem td_W_putHead_2 : ∀ q ∈ tb_W_putHead_2, decode prog_6_method_6_code q.1 = .ok q.2 := by decide +kernel
def tb_W_putHead : Nat → Option (Instr × Nat) := (am_nd 17 (am_look tb_W_putHead_0) (am_nd 35 (am_look tb_W_putHead_1) (am_look tb_W_putHead_2)))
theorem td_W_putHead : am_dok prog_6_method_6_code tb_W_putHead := (am_dok_nd (am_dok_lf td_W_putHead_0) (am_dok_nd (am_dok_lf td_W_putHead_1) (am_dok_lf td_W_putHead_2)))
def m_W_putHead : am_M := (⟨"SyntaxRows$Writer", "putHead", "(I)V"⟩, prog_6_method_6_code, 2, none, 4, 1, tb_W_putHead)
set_option maxRecDepth 100000 in
theorem ok_W_putHead : am_ok m_W_putHead := ⟨td_W_putHead, am_in 1015 rfl rfl, am_in 102 (by decide +kernel) rfl, by decide, ⟨by decide, by decide, by decide +kernel⟩, rfl, by decide⟩
theorem oi_W_putHead : am_inst m_W_putHead := ⟨am_in 1014 (by decide +kernel) rfl, am_in 46 (by decide +kernel) rfl⟩
def tb_S_told_0 : List (Nat × (Instr × Nat)) := [(0, (.iload_n 1, 1)), (1, (.tableswitch 75 0 4 #[35, 43, 51, 59, 67], 35)), (36, (.aload_n 0, 1)), (37, (.getfield 16, 3)), (40, (.invokevirtual 55, 3)), (43, (.ireturn, 1)), (44, (.aload_n 0, 1)), (45, (.getfield 44, 3)), (48, (.invokevirtual 128, 3)), (51, (.ireturn, 1))]
theorem td_S_told_0 : ∀ q ∈ tb_S_told_0, decode prog_1_method_15_code q.1 = .ok q.2 := by decide +kernel
def tb_S_told_1 : List (Nat × (Instr × Nat)) := [(52, (.aload_n 0, 1)), (53, (.getfield 26, 3)), (56, (.invokevirtual 129, 3)), (59, (.ireturn, 1)), (60, (.aload_n 0, 1)), (61, (.getfield 22, 3)), (64, (.invokevirtual 130, 3)), (67, (.ireturn, 1)), (68, (.aload_n 0, 1)), (69, (.getfield 35, 3))]
theorem td_S_told_1 : ∀ q ∈ tb_S_told_1, decode prog_1_method_15_code q.1 = .ok q.2 := by decide +kernel
def tb_S_told_2 : List (Nat × (Instr × Nat)) := [(72, (.invokevirtual 131, 3)), (75, (.ireturn, 1)), (76, (.new 73, 3)), (79, (.dup, 1)), (80, (.ldc 134, 2)), (82, (.invokespecial 77, 3)), (85, (.athrow, 1))]
theorem td_S_told_2 : ∀ q ∈ tb_S_told_2, decode prog_1_method_15_code q.1 = .ok q.2 := by decide +kernel
def tb_S_told : Nat → Option (Instr × Nat) := (am_nd 52 (am_look tb_S_told_0) (am_nd 72 (am_look tb_S_told_1) (am_look tb_S_told_2)))
theorem td_S_told : am_dok prog_1_method_15_code tb_S_told := (am_dok_nd (am_dok_lf td_S_told_0) (am_dok_nd (am_dok_lf td_S_told_1) (am_dok_lf td_S_told_2)))
def m_S_told : am_M := (⟨"SyntaxRows", "told", "(I)I"⟩, prog_1_method_15_code, 2, (some .int), 5, 1, tb_S_told)
set_option maxRecDepth 100000 in
theorem ok_S_told : am_ok m_S_told := ⟨td_S_told, am_in 1025 rfl rfl, am_in 97 (by decide +kernel) rfl, by decide, ⟨by decide, by decide, by decide +kernel⟩, rfl, by decide⟩
theorem oi_S_told : am_inst m_S_told := ⟨am_in 1023 (by decide +kernel) rfl, am_in 1024 (by decide +kernel) rfl⟩
