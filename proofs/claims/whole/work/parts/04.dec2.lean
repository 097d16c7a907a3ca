theorem dX9_init_0 : decode cX9_init 0 = .ok (.aload_n 0, 1) := by decide +kernel
theorem dX9_init_1 : decode cX9_init 1 = .ok (.invokespecial 1, 3) := by decide +kernel
theorem dX9_init_4 : decode cX9_init 4 = .ok (.aload_n 0, 1) := by decide +kernel
theorem dX9_init_5 : decode cX9_init 5 = .ok (.new 7, 3) := by decide +kernel
theorem dX9_init_8 : decode cX9_init 8 = .ok (.dup, 1) := by decide +kernel
theorem dX9_init_9 : decode cX9_init 9 = .ok (.invokespecial 9, 3) := by decide +kernel
theorem dX9_init_12 : decode cX9_init 12 = .ok (.putfield 10, 3) := by decide +kernel
theorem dX9_init_15 : decode cX9_init 15 = .ok (.aload_n 0, 1) := by decide +kernel
theorem dX9_init_16 : decode cX9_init 16 = .ok (.new 16, 3) := by decide +kernel
theorem dX9_init_19 : decode cX9_init 19 = .ok (.dup, 1) := by decide +kernel
theorem dX9_init_20 : decode cX9_init 20 = .ok (.aload_n 0, 1) := by decide +kernel
theorem dX9_init_21 : decode cX9_init 21 = .ok (.getfield 10, 3) := by decide +kernel
theorem dX9_init_24 : decode cX9_init 24 = .ok (.invokespecial 18, 3) := by decide +kernel
theorem dX9_init_27 : decode cX9_init 27 = .ok (.putfield 21, 3) := by decide +kernel
theorem dX9_init_30 : decode cX9_init 30 = .ok (.aload_n 0, 1) := by decide +kernel
theorem dX9_init_31 : decode cX9_init 31 = .ok (.new 25, 3) := by decide +kernel
theorem dX9_init_34 : decode cX9_init 34 = .ok (.dup, 1) := by decide +kernel
theorem dX9_init_35 : decode cX9_init 35 = .ok (.new 27, 3) := by decide +kernel
theorem dX9_init_38 : decode cX9_init 38 = .ok (.dup, 1) := by decide +kernel
theorem dX9_init_39 : decode cX9_init 39 = .ok (.invokespecial 29, 3) := by decide +kernel
theorem dX9_init_42 : decode cX9_init 42 = .ok (.invokespecial 30, 3) := by decide +kernel
theorem dX9_init_45 : decode cX9_init 45 = .ok (.putfield 33, 3) := by decide +kernel
theorem dX9_init_48 : decode cX9_init 48 = .ok (.aload_n 0, 1) := by decide +kernel
theorem dX9_init_49 : decode cX9_init 49 = .ok (.new 27, 3) := by decide +kernel
theorem dX9_init_52 : decode cX9_init 52 = .ok (.dup, 1) := by decide +kernel
theorem dX9_init_53 : decode cX9_init 53 = .ok (.invokespecial 29, 3) := by decide +kernel
theorem dX9_init_56 : decode cX9_init 56 = .ok (.putfield 37, 3) := by decide +kernel
theorem dX9_init_59 : decode cX9_init 59 = .ok (.aload_n 0, 1) := by decide +kernel
theorem dX9_init_60 : decode cX9_init 60 = .ok (.new 41, 3) := by decide +kernel
theorem dX9_init_63 : decode cX9_init 63 = .ok (.dup, 1) := by decide +kernel
theorem dX9_init_64 : decode cX9_init 64 = .ok (.invokespecial 43, 3) := by decide +kernel
theorem dX9_init_67 : decode cX9_init 67 = .ok (.putfield 44, 3) := by decide +kernel
theorem dX9_init_70 : decode cX9_init 70 = .ok (.aload_n 0, 1) := by decide +kernel
theorem dX9_init_71 : decode cX9_init 71 = .ok (.new 48, 3) := by decide +kernel
theorem dX9_init_74 : decode cX9_init 74 = .ok (.dup, 1) := by decide +kernel
theorem dX9_init_75 : decode cX9_init 75 = .ok (.invokespecial 50, 3) := by decide +kernel
theorem dX9_init_78 : decode cX9_init 78 = .ok (.putfield 51, 3) := by decide +kernel
theorem dX9_init_81 : decode cX9_init 81 = .ok (.aload_n 0, 1) := by decide +kernel
theorem dX9_init_82 : decode cX9_init 82 = .ok (.new 55, 3) := by decide +kernel
theorem dX9_init_85 : decode cX9_init 85 = .ok (.dup, 1) := by decide +kernel
theorem dX9_init_86 : decode cX9_init 86 = .ok (.invokespecial 57, 3) := by decide +kernel
theorem dX9_init_89 : decode cX9_init 89 = .ok (.putfield 58, 3) := by decide +kernel
theorem dX9_init_92 : decode cX9_init 92 = .ok (.aload_n 0, 1) := by decide +kernel
theorem dX9_init_93 : decode cX9_init 93 = .ok (.new 62, 3) := by decide +kernel
theorem dX9_init_96 : decode cX9_init 96 = .ok (.dup, 1) := by decide +kernel
theorem dX9_init_97 : decode cX9_init 97 = .ok (.invokespecial 64, 3) := by decide +kernel
theorem dX9_init_100 : decode cX9_init 100 = .ok (.putfield 65, 3) := by decide +kernel
theorem dX9_init_103 : decode cX9_init 103 = .ok (.aload_n 0, 1) := by decide +kernel
theorem dX9_init_104 : decode cX9_init 104 = .ok (.new 62, 3) := by decide +kernel
theorem dX9_init_107 : decode cX9_init 107 = .ok (.dup, 1) := by decide +kernel
theorem dX9_init_108 : decode cX9_init 108 = .ok (.invokespecial 64, 3) := by decide +kernel
theorem dX9_init_111 : decode cX9_init 111 = .ok (.putfield 69, 3) := by decide +kernel
theorem dX9_init_114 : decode cX9_init 114 = .ok (.aload_n 0, 1) := by decide +kernel
theorem dX9_init_115 : decode cX9_init 115 = .ok (.new 72, 3) := by decide +kernel
theorem dX9_init_118 : decode cX9_init 118 = .ok (.dup, 1) := by decide +kernel
theorem dX9_init_119 : decode cX9_init 119 = .ok (.invokespecial 74, 3) := by decide +kernel
theorem dX9_init_122 : decode cX9_init 122 = .ok (.putfield 75, 3) := by decide +kernel
theorem dX9_init_125 : decode cX9_init 125 = .ok (.return_, 1) := by decide +kernel
set_option maxRecDepth 20000 in
theorem ggX9_write_X6_add : GoodIn wsX9_write wsX6_add := goodIn_r _ [8, 9, 10, 21, 22] (by decide +kernel) (by decide +kernel)
set_option maxRecDepth 20000 in
theorem gX9_write_X6_add : GoodIn wsX9_write (wsV RX9 85 RX6 yX6_add wsX6_add) := goodIn_app (goodIn_of _ (by decide +kernel)) ggX9_write_X6_add
theorem dX9_write_0 : decode cX9_write 0 = .ok (.iload_n 3, 1) := by decide +kernel
theorem dX9_write_1 : decode cX9_write 1 = .ok (.iconst 1, 1) := by decide +kernel
theorem dX9_write_2 : decode cX9_write 2 = .ok (.if_icmp .lt 9, 3) := by decide +kernel
theorem dX9_write_5 : decode cX9_write 5 = .ok (.iload_n 3, 1) := by decide +kernel
theorem dX9_write_6 : decode cX9_write 6 = .ok (.bipush 8, 2) := by decide +kernel
theorem dX9_write_8 : decode cX9_write 8 = .ok (.if_icmp .le 6, 3) := by decide +kernel
theorem dX9_write_11 : decode cX9_write 11 = .ok (.bipush (-3), 2) := by decide +kernel
theorem dX9_write_13 : decode cX9_write 13 = .ok (.ireturn, 1) := by decide +kernel
theorem dX9_write_14 : decode cX9_write 14 = .ok (.iload_n 3, 1) := by decide +kernel
theorem dX9_write_15 : decode cX9_write 15 = .ok (.sipush 200, 3) := by decide +kernel
theorem dX9_write_18 : decode cX9_write 18 = .ok (.aload_n 0, 1) := by decide +kernel
theorem dX9_write_19 : decode cX9_write 19 = .ok (.getfield 10, 3) := by decide +kernel
theorem dX9_write_22 : decode cX9_write 22 = .ok (.getfield 79, 3) := by decide +kernel
theorem dX9_write_25 : decode cX9_write 25 = .ok (.isub, 1) := by decide +kernel
theorem dX9_write_26 : decode cX9_write 26 = .ok (.if_icmp .le 6, 3) := by decide +kernel
theorem dX9_write_29 : decode cX9_write 29 = .ok (.bipush (-5), 2) := by decide +kernel
theorem dX9_write_31 : decode cX9_write 31 = .ok (.ireturn, 1) := by decide +kernel
theorem dX9_write_32 : decode cX9_write 32 = .ok (.iconst 0, 1) := by decide +kernel
theorem dX9_write_33 : decode cX9_write 33 = .ok (.istore 4, 2) := by decide +kernel
theorem dX9_write_35 : decode cX9_write 35 = .ok (.iload 4, 2) := by decide +kernel
theorem dX9_write_37 : decode cX9_write 37 = .ok (.iload_n 3, 1) := by decide +kernel
theorem dX9_write_38 : decode cX9_write 38 = .ok (.if_icmp .ge 28, 3) := by decide +kernel
theorem dX9_write_41 : decode cX9_write 41 = .ok (.aload_n 0, 1) := by decide +kernel
theorem dX9_write_42 : decode cX9_write 42 = .ok (.getfield 10, 3) := by decide +kernel
theorem dX9_write_45 : decode cX9_write 45 = .ok (.lload_n 1, 1) := by decide +kernel
theorem dX9_write_46 : decode cX9_write 46 = .ok (.bipush 8, 2) := by decide +kernel
theorem dX9_write_48 : decode cX9_write 48 = .ok (.iload 4, 2) := by decide +kernel
theorem dX9_write_50 : decode cX9_write 50 = .ok (.imul, 1) := by decide +kernel
theorem dX9_write_51 : decode cX9_write 51 = .ok (.lshr, 1) := by decide +kernel
theorem dX9_write_52 : decode cX9_write 52 = .ok (.ldc2_w 83, 3) := by decide +kernel
theorem dX9_write_55 : decode cX9_write 55 = .ok (.land, 1) := by decide +kernel
theorem dX9_write_56 : decode cX9_write 56 = .ok (.l2i, 1) := by decide +kernel
theorem dX9_write_57 : decode cX9_write 57 = .ok (.invokevirtual 85, 3) := by decide +kernel
theorem dX9_write_60 : decode cX9_write 60 = .ok (.iinc 4 1, 3) := by decide +kernel
theorem dX9_write_63 : decode cX9_write 63 = .ok (.goto (-28), 3) := by decide +kernel
theorem dX9_write_66 : decode cX9_write 66 = .ok (.aload_n 0, 1) := by decide +kernel
theorem dX9_write_67 : decode cX9_write 67 = .ok (.getfield 10, 3) := by decide +kernel
theorem dX9_write_70 : decode cX9_write 70 = .ok (.getfield 79, 3) := by decide +kernel
theorem dX9_write_73 : decode cX9_write 73 = .ok (.ireturn, 1) := by decide +kernel
theorem dX9_erase_0 : decode cX9_erase 0 = .ok (.aload_n 0, 1) := by decide +kernel
theorem dX9_erase_1 : decode cX9_erase 1 = .ok (.getfield 10, 3) := by decide +kernel
theorem dX9_erase_4 : decode cX9_erase 4 = .ok (.getfield 79, 3) := by decide +kernel
theorem dX9_erase_7 : decode cX9_erase 7 = .ok (.istore_n 1, 1) := by decide +kernel
theorem dX9_erase_8 : decode cX9_erase 8 = .ok (.aload_n 0, 1) := by decide +kernel
theorem dX9_erase_9 : decode cX9_erase 9 = .ok (.getfield 10, 3) := by decide +kernel
theorem dX9_erase_12 : decode cX9_erase 12 = .ok (.iconst 0, 1) := by decide +kernel
theorem dX9_erase_13 : decode cX9_erase 13 = .ok (.putfield 79, 3) := by decide +kernel
theorem dX9_erase_16 : decode cX9_erase 16 = .ok (.iload_n 1, 1) := by decide +kernel
theorem dX9_erase_17 : decode cX9_erase 17 = .ok (.ireturn, 1) := by decide +kernel
set_option maxRecDepth 20000 in
theorem ggX9_fault_X3_readInto : GoodIn wsX9_fault wsX3_readInto := goodIn_r _ [7, 8, 9, 10, 11, 12, 13, 14, 15, 16, 17, 18, 19, 20, 21, 22, 23, 6, 24, 25, 26, 27, 28, 29, 30, 31, 32, 33, 34, 35, 36, 37, 38, 39, 40, 41, 42, 43, 44, 45, 46, 47, 48, 49, 50, 51, 52, 53, 54, 55, 56, 57, 58, 59, 60, 61, 62, 63, 64, 65, 66, 67, 68, 69, 70, 71, 72, 73, 74, 75, 76, 77, 78, 79, 80, 81, 82, 83, 84, 85, 86, 87, 88, 89, 90, 91, 92, 93, 94, 95, 96, 97, 98, 99, 100, 101, 102, 103, 104, 105, 106, 107, 108, 109, 110, 111, 112, 113, 114, 115, 116, 117, 118, 119, 120, 121, 122, 123, 124, 125, 126, 127, 128, 129, 130, 131, 132, 133, 144, 145, 146, 147, 148, 149, 150, 151, 152, 153, 154, 155, 156, 157, 158, 159, 160] (by decide +kernel) (by decide +kernel)
set_option maxRecDepth 20000 in
theorem gX9_fault_X3_readInto : GoodIn wsX9_fault (wsV RX9 89 RX3 yX3_readInto wsX3_readInto) := goodIn_app (goodIn_of _ (by decide +kernel)) ggX9_fault_X3_readInto
theorem dX9_fault_0 : decode cX9_fault 0 = .ok (.aload_n 0, 1) := by decide +kernel
theorem dX9_fault_1 : decode cX9_fault 1 = .ok (.getfield 21, 3) := by decide +kernel
theorem dX9_fault_4 : decode cX9_fault 4 = .ok (.aload_n 0, 1) := by decide +kernel
theorem dX9_fault_5 : decode cX9_fault 5 = .ok (.getfield 37, 3) := by decide +kernel
theorem dX9_fault_8 : decode cX9_fault 8 = .ok (.invokevirtual 89, 3) := by decide +kernel
theorem dX9_fault_11 : decode cX9_fault 11 = .ok (.ireturn, 1) := by decide +kernel
set_option maxRecDepth 20000 in
theorem ggX9_program_X3_readInto : GoodIn wsX9_program wsX3_readInto := goodIn_r _ [12, 13, 14, 15, 16, 17, 18, 19, 20, 21, 22, 23, 24, 25, 26, 27, 28, 11, 29, 30, 31, 32, 33, 34, 35, 36, 37, 38, 39, 40, 41, 42, 43, 44, 45, 46, 47, 48, 49, 50, 51, 52, 53, 54, 55, 56, 57, 58, 59, 60, 61, 62, 63, 64, 65, 66, 67, 68, 69, 70, 71, 72, 73, 74, 75, 76, 77, 78, 79, 80, 81, 82, 83, 84, 85, 86, 87, 88, 89, 90, 91, 92, 93, 94, 95, 96, 97, 98, 99, 100, 101, 102, 103, 104, 105, 106, 107, 108, 109, 110, 111, 112, 113, 114, 115, 116, 117, 118, 119, 120, 121, 122, 123, 124, 125, 126, 127, 128, 129, 130, 131, 132, 133, 134, 135, 136, 137, 138, 177, 178, 179, 180, 166, 167, 168, 169, 170, 171, 172, 173, 174, 175, 176, 156, 157] (by decide +kernel) (by decide +kernel)
set_option maxRecDepth 20000 in
theorem gX9_program_X3_readInto : GoodIn wsX9_program (wsV RX9 89 RX3 yX3_readInto wsX3_readInto) := goodIn_app (goodIn_of _ (by decide +kernel)) ggX9_program_X3_readInto
set_option maxRecDepth 20000 in
theorem ggX9_program_X7_replaceProgram : GoodIn wsX9_program wsX7_replaceProgram := goodIn_r _ [143, 144, 145, 158, 159, 160, 161, 162, 163, 164, 165] (by decide +kernel) (by decide +kernel)
set_option maxRecDepth 20000 in
theorem gX9_program_X7_replaceProgram : GoodIn wsX9_program (wsV RX9 93 RX7 yX7_replaceProgram wsX7_replaceProgram) := goodIn_app (goodIn_of _ (by decide +kernel)) ggX9_program_X7_replaceProgram
theorem dX9_program_0 : decode cX9_program 0 = .ok (.aload_n 0, 1) := by decide +kernel
theorem dX9_program_1 : decode cX9_program 1 = .ok (.getfield 21, 3) := by decide +kernel
theorem dX9_program_4 : decode cX9_program 4 = .ok (.aload_n 0, 1) := by decide +kernel
theorem dX9_program_5 : decode cX9_program 5 = .ok (.getfield 37, 3) := by decide +kernel
theorem dX9_program_8 : decode cX9_program 8 = .ok (.invokevirtual 89, 3) := by decide +kernel
theorem dX9_program_11 : decode cX9_program 11 = .ok (.iconst (-1), 1) := by decide +kernel
theorem dX9_program_12 : decode cX9_program 12 = .ok (.if_icmp .eq 6, 3) := by decide +kernel
theorem dX9_program_15 : decode cX9_program 15 = .ok (.bipush (-4), 2) := by decide +kernel
theorem dX9_program_17 : decode cX9_program 17 = .ok (.ireturn, 1) := by decide +kernel
theorem dX9_program_18 : decode cX9_program 18 = .ok (.aload_n 0, 1) := by decide +kernel
theorem dX9_program_19 : decode cX9_program 19 = .ok (.getfield 33, 3) := by decide +kernel
theorem dX9_program_22 : decode cX9_program 22 = .ok (.aload_n 0, 1) := by decide +kernel
theorem dX9_program_23 : decode cX9_program 23 = .ok (.getfield 37, 3) := by decide +kernel
theorem dX9_program_26 : decode cX9_program 26 = .ok (.invokevirtual 93, 3) := by decide +kernel
theorem dX9_program_29 : decode cX9_program 29 = .ok (.astore_n 1, 1) := by decide +kernel
theorem dX9_program_30 : decode cX9_program 30 = .ok (.aload_n 0, 1) := by decide +kernel
theorem dX9_program_31 : decode cX9_program 31 = .ok (.aload_n 1, 1) := by decide +kernel
theorem dX9_program_32 : decode cX9_program 32 = .ok (.putfield 37, 3) := by decide +kernel
theorem dX9_program_35 : decode cX9_program 35 = .ok (.aload_n 0, 1) := by decide +kernel
theorem dX9_program_36 : decode cX9_program 36 = .ok (.getfield 10, 3) := by decide +kernel
theorem dX9_program_39 : decode cX9_program 39 = .ok (.iconst 0, 1) := by decide +kernel
theorem dX9_program_40 : decode cX9_program 40 = .ok (.putfield 79, 3) := by decide +kernel
theorem dX9_program_43 : decode cX9_program 43 = .ok (.aload_n 0, 1) := by decide +kernel
theorem dX9_program_44 : decode cX9_program 44 = .ok (.getfield 33, 3) := by decide +kernel
theorem dX9_program_47 : decode cX9_program 47 = .ok (.getfield 97, 3) := by decide +kernel
theorem dX9_program_50 : decode cX9_program 50 = .ok (.getfield 100, 3) := by decide +kernel
theorem dX9_program_53 : decode cX9_program 53 = .ok (.ireturn, 1) := by decide +kernel
theorem dX9_draw_0 : decode cX9_draw 0 = .ok (.aload_n 0, 1) := by decide +kernel
theorem dX9_draw_1 : decode cX9_draw 1 = .ok (.getfield 33, 3) := by decide +kernel
theorem dX9_draw_4 : decode cX9_draw 4 = .ok (.getfield 97, 3) := by decide +kernel
theorem dX9_draw_7 : decode cX9_draw 7 = .ok (.astore_n 2, 1) := by decide +kernel
theorem dX9_draw_8 : decode cX9_draw 8 = .ok (.iload_n 1, 1) := by decide +kernel
theorem dX9_draw_9 : decode cX9_draw 9 = .ok (.ifCond .lt 20, 3) := by decide +kernel
theorem dX9_draw_12 : decode cX9_draw 12 = .ok (.iload_n 1, 1) := by decide +kernel
theorem dX9_draw_13 : decode cX9_draw 13 = .ok (.aload_n 2, 1) := by decide +kernel
theorem dX9_draw_14 : decode cX9_draw 14 = .ok (.getfield 103, 3) := by decide +kernel
theorem dX9_draw_17 : decode cX9_draw 17 = .ok (.if_icmp .ge 12, 3) := by decide +kernel
theorem dX9_draw_20 : decode cX9_draw 20 = .ok (.aload_n 2, 1) := by decide +kernel
theorem dX9_draw_21 : decode cX9_draw 21 = .ok (.getfield 106, 3) := by decide +kernel
theorem dX9_draw_24 : decode cX9_draw 24 = .ok (.iload_n 1, 1) := by decide +kernel
theorem dX9_draw_25 : decode cX9_draw 25 = .ok (.iaload, 1) := by decide +kernel
theorem dX9_draw_26 : decode cX9_draw 26 = .ok (.goto 5, 3) := by decide +kernel
theorem dX9_draw_29 : decode cX9_draw 29 = .ok (.bipush (-2), 2) := by decide +kernel
theorem dX9_draw_31 : decode cX9_draw 31 = .ok (.ireturn, 1) := by decide +kernel
set_option maxRecDepth 20000 in
theorem ggX9_inputs_X7_setInputs : GoodIn wsX9_inputs wsX7_setInputs := goodIn_r _ [6, 7, 8, 9, 24, 25, 26, 27, 28, 29, 30, 31] (by decide +kernel) (by decide +kernel)
set_option maxRecDepth 20000 in
theorem gX9_inputs_X7_setInputs : GoodIn wsX9_inputs (wsV RX9 110 RX7 yX7_setInputs wsX7_setInputs) := goodIn_app (goodIn_of _ (by decide +kernel)) ggX9_inputs_X7_setInputs
set_option maxRecDepth 20000 in
theorem ggX9_inputs_X7_inputCount : GoodIn wsX9_inputs wsX7_inputCount := goodIn_r _ [13, 7, 24, 25, 26, 27, 28, 29, 30, 31] (by decide +kernel) (by decide +kernel)
set_option maxRecDepth 20000 in
theorem gX9_inputs_X7_inputCount : GoodIn wsX9_inputs (wsV RX9 114 RX7 yX7_inputCount wsX7_inputCount) := goodIn_app (goodIn_of _ (by decide +kernel)) ggX9_inputs_X7_inputCount
theorem dX9_inputs_0 : decode cX9_inputs 0 = .ok (.iload_n 1, 1) := by decide +kernel
theorem dX9_inputs_1 : decode cX9_inputs 1 = .ok (.ifCond .lt 8, 3) := by decide +kernel
theorem dX9_inputs_4 : decode cX9_inputs 4 = .ok (.iload_n 1, 1) := by decide +kernel
theorem dX9_inputs_5 : decode cX9_inputs 5 = .ok (.iconst 5, 1) := by decide +kernel
theorem dX9_inputs_6 : decode cX9_inputs 6 = .ok (.if_icmp .le 6, 3) := by decide +kernel
theorem dX9_inputs_9 : decode cX9_inputs 9 = .ok (.bipush (-3), 2) := by decide +kernel
theorem dX9_inputs_11 : decode cX9_inputs 11 = .ok (.ireturn, 1) := by decide +kernel
theorem dX9_inputs_12 : decode cX9_inputs 12 = .ok (.aload_n 0, 1) := by decide +kernel
theorem dX9_inputs_13 : decode cX9_inputs 13 = .ok (.getfield 33, 3) := by decide +kernel
theorem dX9_inputs_16 : decode cX9_inputs 16 = .ok (.iload_n 1, 1) := by decide +kernel
theorem dX9_inputs_17 : decode cX9_inputs 17 = .ok (.iload_n 2, 1) := by decide +kernel
theorem dX9_inputs_18 : decode cX9_inputs 18 = .ok (.invokevirtual 110, 3) := by decide +kernel
theorem dX9_inputs_21 : decode cX9_inputs 21 = .ok (.aload_n 0, 1) := by decide +kernel
theorem dX9_inputs_22 : decode cX9_inputs 22 = .ok (.getfield 33, 3) := by decide +kernel
theorem dX9_inputs_25 : decode cX9_inputs 25 = .ok (.invokevirtual 114, 3) := by decide +kernel
theorem dX9_inputs_28 : decode cX9_inputs 28 = .ok (.ireturn, 1) := by decide +kernel
set_option maxRecDepth 20000 in
theorem ggX9_run_X7_hasInput : GoodIn wsX9_run wsX7_hasInput := goodIn_r _ [7, 8, 9, 10, 6, 11, 12, 58, 59, 60, 61, 62, 63, 64, 65] (by decide +kernel) (by decide +kernel)
set_option maxRecDepth 20000 in
theorem gX9_run_X7_hasInput : GoodIn wsX9_run (wsV RX9 118 RX7 yX7_hasInput wsX7_hasInput) := goodIn_app (goodIn_of _ (by decide +kernel)) ggX9_run_X7_hasInput
set_option maxRecDepth 20000 in
theorem ggX9_run_X7_hasRow : GoodIn wsX9_run wsX7_hasRow := goodIn_r _ [16, 17, 18, 58, 59, 60, 61, 62, 63, 64, 65, 66, 67, 68, 69, 70, 71, 72, 73, 74, 75, 76] (by decide +kernel) (by decide +kernel)
set_option maxRecDepth 20000 in
theorem gX9_run_X7_hasRow : GoodIn wsX9_run (wsV RX9 122 RX7 yX7_hasRow wsX7_hasRow) := goodIn_app (goodIn_of _ (by decide +kernel)) ggX9_run_X7_hasRow
set_option maxRecDepth 20000 in
theorem ggX9_run_X2_outOf : GoodIn wsX9_run wsX2_outOf := goodIn_r _ [23, 24, 25, 26, 27, 28, 29, 30, 31, 22, 32, 33, 34, 35, 36, 37, 38, 39, 40, 41, 42, 43, 44, 45, 46, 47, 66, 67, 68, 69, 70, 71, 72, 73, 74, 75, 76] (by decide +kernel) (by decide +kernel)
set_option maxRecDepth 20000 in
theorem gX9_run_X2_outOf : GoodIn wsX9_run (wsV RX9 125 RX2 yX2_outOf wsX2_outOf) := goodIn_app (goodIn_of _ (by decide +kernel)) ggX9_run_X2_outOf
theorem dX9_run_0 : decode cX9_run 0 = .ok (.aload_n 0, 1) := by decide +kernel
theorem dX9_run_1 : decode cX9_run 1 = .ok (.getfield 33, 3) := by decide +kernel
theorem dX9_run_4 : decode cX9_run 4 = .ok (.iload_n 1, 1) := by decide +kernel
theorem dX9_run_5 : decode cX9_run 5 = .ok (.invokevirtual 118, 3) := by decide +kernel
theorem dX9_run_8 : decode cX9_run 8 = .ok (.ifCond .eq 29, 3) := by decide +kernel
theorem dX9_run_11 : decode cX9_run 11 = .ok (.aload_n 0, 1) := by decide +kernel
theorem dX9_run_12 : decode cX9_run 12 = .ok (.getfield 33, 3) := by decide +kernel
theorem dX9_run_15 : decode cX9_run 15 = .ok (.iload_n 2, 1) := by decide +kernel
theorem dX9_run_16 : decode cX9_run 16 = .ok (.invokevirtual 122, 3) := by decide +kernel
theorem dX9_run_19 : decode cX9_run 19 = .ok (.ifCond .eq 18, 3) := by decide +kernel
theorem dX9_run_22 : decode cX9_run 22 = .ok (.aload_n 0, 1) := by decide +kernel
theorem dX9_run_23 : decode cX9_run 23 = .ok (.getfield 33, 3) := by decide +kernel
theorem dX9_run_26 : decode cX9_run 26 = .ok (.getfield 97, 3) := by decide +kernel
theorem dX9_run_29 : decode cX9_run 29 = .ok (.iload_n 1, 1) := by decide +kernel
theorem dX9_run_30 : decode cX9_run 30 = .ok (.iload_n 2, 1) := by decide +kernel
theorem dX9_run_31 : decode cX9_run 31 = .ok (.invokevirtual 125, 3) := by decide +kernel
theorem dX9_run_34 : decode cX9_run 34 = .ok (.goto 5, 3) := by decide +kernel
theorem dX9_run_37 : decode cX9_run 37 = .ok (.bipush (-2), 2) := by decide +kernel
theorem dX9_run_39 : decode cX9_run 39 = .ok (.ireturn, 1) := by decide +kernel
set_option maxRecDepth 20000 in
theorem ggX9_right_X7_hasInput : GoodIn wsX9_right wsX7_hasInput := goodIn_r _ [6, 7, 8, 9, 5, 10, 11, 66, 67, 68, 69, 70, 71, 72, 73] (by decide +kernel) (by decide +kernel)
set_option maxRecDepth 20000 in
theorem gX9_right_X7_hasInput : GoodIn wsX9_right (wsV RX9 118 RX7 yX7_hasInput wsX7_hasInput) := goodIn_app (goodIn_of _ (by decide +kernel)) ggX9_right_X7_hasInput
set_option maxRecDepth 20000 in
theorem ggX9_right_X7_hasRow : GoodIn wsX9_right wsX7_hasRow := goodIn_r _ [15, 16, 17, 66, 67, 68, 69, 70, 71, 72, 73, 74, 75, 76, 77, 78, 79, 80, 81, 82, 83, 84] (by decide +kernel) (by decide +kernel)
set_option maxRecDepth 20000 in
theorem gX9_right_X7_hasRow : GoodIn wsX9_right (wsV RX9 122 RX7 yX7_hasRow wsX7_hasRow) := goodIn_app (goodIn_of _ (by decide +kernel)) ggX9_right_X7_hasRow
set_option maxRecDepth 20000 in
theorem ggX9_right_X7_isRight : GoodIn wsX9_right wsX7_isRight := goodIn_r _ [21, 16, 22, 23, 24, 25, 26, 27, 28, 29, 30, 31, 32, 33, 34, 35, 36, 37, 38, 39, 40, 41, 42, 43, 44, 45, 46, 47, 48, 49, 50, 51, 52, 53, 5, 54, 55, 66, 67, 68, 69, 70, 71, 72, 73, 74, 75, 76, 77, 78, 79, 80, 81, 82, 83, 84] (by decide +kernel) (by decide +kernel)
set_option maxRecDepth 20000 in
theorem gX9_right_X7_isRight : GoodIn wsX9_right (wsV RX9 129 RX7 yX7_isRight wsX7_isRight) := goodIn_app (goodIn_of _ (by decide +kernel)) ggX9_right_X7_isRight
theorem dX9_right_0 : decode cX9_right 0 = .ok (.aload_n 0, 1) := by decide +kernel
theorem dX9_right_1 : decode cX9_right 1 = .ok (.getfield 33, 3) := by decide +kernel
theorem dX9_right_4 : decode cX9_right 4 = .ok (.iload_n 1, 1) := by decide +kernel
theorem dX9_right_5 : decode cX9_right 5 = .ok (.invokevirtual 118, 3) := by decide +kernel
theorem dX9_right_8 : decode cX9_right 8 = .ok (.ifCond .eq 14, 3) := by decide +kernel
theorem dX9_right_11 : decode cX9_right 11 = .ok (.aload_n 0, 1) := by decide +kernel
theorem dX9_right_12 : decode cX9_right 12 = .ok (.getfield 33, 3) := by decide +kernel
theorem dX9_right_15 : decode cX9_right 15 = .ok (.iload_n 2, 1) := by decide +kernel
theorem dX9_right_16 : decode cX9_right 16 = .ok (.invokevirtual 122, 3) := by decide +kernel
theorem dX9_right_19 : decode cX9_right 19 = .ok (.ifCond .ne 6, 3) := by decide +kernel
theorem dX9_right_22 : decode cX9_right 22 = .ok (.bipush (-2), 2) := by decide +kernel
theorem dX9_right_24 : decode cX9_right 24 = .ok (.ireturn, 1) := by decide +kernel
theorem dX9_right_25 : decode cX9_right 25 = .ok (.aload_n 0, 1) := by decide +kernel
theorem dX9_right_26 : decode cX9_right 26 = .ok (.getfield 33, 3) := by decide +kernel
theorem dX9_right_29 : decode cX9_right 29 = .ok (.iload_n 1, 1) := by decide +kernel
theorem dX9_right_30 : decode cX9_right 30 = .ok (.iload_n 2, 1) := by decide +kernel
theorem dX9_right_31 : decode cX9_right 31 = .ok (.invokevirtual 129, 3) := by decide +kernel
theorem dX9_right_34 : decode cX9_right 34 = .ok (.ifCond .eq 7, 3) := by decide +kernel
theorem dX9_right_37 : decode cX9_right 37 = .ok (.iconst 1, 1) := by decide +kernel
theorem dX9_right_38 : decode cX9_right 38 = .ok (.goto 4, 3) := by decide +kernel
theorem dX9_right_41 : decode cX9_right 41 = .ok (.iconst 0, 1) := by decide +kernel
theorem dX9_right_42 : decode cX9_right 42 = .ok (.ireturn, 1) := by decide +kernel
set_option maxRecDepth 20000 in
theorem ggX9_odds_X7_hasInput : GoodIn wsX9_odds wsX7_hasInput := goodIn_r _ [8, 9, 10, 11, 7, 12, 13, 101, 102, 103, 104, 105, 106, 107, 108] (by decide +kernel) (by decide +kernel)
set_option maxRecDepth 20000 in
theorem gX9_odds_X7_hasInput : GoodIn wsX9_odds (wsV RX9 118 RX7 yX7_hasInput wsX7_hasInput) := goodIn_app (goodIn_of _ (by decide +kernel)) ggX9_odds_X7_hasInput
set_option maxRecDepth 20000 in
theorem ggX9_odds_X9_isPart : GoodIn wsX9_odds wsX9_isPart := goodIn_r _ [17] (by decide +kernel) (by decide +kernel)
set_option maxRecDepth 20000 in
theorem gX9_odds_X9_isPart : GoodIn wsX9_odds (va_wsS RX9 133 yX9_isPart wsX9_isPart) := goodIn_app (goodIn_of _ (by decide +kernel)) ggX9_odds_X9_isPart
set_option maxRecDepth 20000 in
theorem ggX9_odds_X9_fresh : GoodIn wsX9_odds wsX9_fresh := goodIn_r _ [21, 1, 22, 23, 24, 7, 25, 26, 27, 28, 29, 30, 31, 32, 33, 34, 35, 36, 37, 38, 9, 10, 11, 12, 13, 39, 40, 41, 42, 43, 44, 45, 46, 47, 48, 49, 50, 51, 52, 53, 54, 55, 56, 57, 58, 59, 60, 61, 62, 63, 64, 65, 66, 67, 68, 69, 70, 71, 72, 73, 74, 75, 76, 91, 92, 93, 94, 95, 96, 97, 98, 99, 100, 101, 102, 103, 104, 105, 106, 107, 108, 109, 110, 111, 112, 113, 114, 115, 116, 117, 118, 119] (by decide +kernel) (by decide +kernel)
set_option maxRecDepth 20000 in
theorem gX9_odds_X9_fresh : GoodIn wsX9_odds (wsV RX9 136 RX9 yX9_fresh wsX9_fresh) := goodIn_app (goodIn_of _ (by decide +kernel)) ggX9_odds_X9_fresh
set_option maxRecDepth 20000 in
theorem ggX9_odds_X7_rightCount : GoodIn wsX9_odds wsX7_rightCount := goodIn_r _ [80, 31, 81, 82, 83, 84, 85, 86, 87, 101, 102, 103, 104, 105, 106, 107, 108] (by decide +kernel) (by decide +kernel)
set_option maxRecDepth 20000 in
theorem gX9_odds_X7_rightCount : GoodIn wsX9_odds (wsV RX9 140 RX7 yX7_rightCount wsX7_rightCount) := goodIn_app (goodIn_of _ (by decide +kernel)) ggX9_odds_X7_rightCount
set_option maxRecDepth 20000 in
theorem ggX9_odds_X9_lowest : GoodIn wsX9_odds wsX9_lowest := goodIn_r _ [90] (by decide +kernel) (by decide +kernel)
set_option maxRecDepth 20000 in
theorem gX9_odds_X9_lowest : GoodIn wsX9_odds (va_wsS RX9 144 yX9_lowest wsX9_lowest) := goodIn_app (goodIn_of _ (by decide +kernel)) ggX9_odds_X9_lowest
theorem dX9_odds_0 : decode cX9_odds 0 = .ok (.aload_n 0, 1) := by decide +kernel
theorem dX9_odds_1 : decode cX9_odds 1 = .ok (.getfield 33, 3) := by decide +kernel
theorem dX9_odds_4 : decode cX9_odds 4 = .ok (.iload_n 1, 1) := by decide +kernel
theorem dX9_odds_5 : decode cX9_odds 5 = .ok (.invokevirtual 118, 3) := by decide +kernel
theorem dX9_odds_8 : decode cX9_odds 8 = .ok (.ifCond .ne 6, 3) := by decide +kernel
theorem dX9_odds_11 : decode cX9_odds 11 = .ok (.bipush (-2), 2) := by decide +kernel
theorem dX9_odds_13 : decode cX9_odds 13 = .ok (.ireturn, 1) := by decide +kernel
theorem dX9_odds_14 : decode cX9_odds 14 = .ok (.iload_n 2, 1) := by decide +kernel
theorem dX9_odds_15 : decode cX9_odds 15 = .ok (.invokestatic 133, 3) := by decide +kernel
theorem dX9_odds_18 : decode cX9_odds 18 = .ok (.ifCond .eq 28, 3) := by decide +kernel
theorem dX9_odds_21 : decode cX9_odds 21 = .ok (.aload_n 0, 1) := by decide +kernel
theorem dX9_odds_22 : decode cX9_odds 22 = .ok (.invokevirtual 136, 3) := by decide +kernel
theorem dX9_odds_25 : decode cX9_odds 25 = .ok (.iload_n 1, 1) := by decide +kernel
theorem dX9_odds_26 : decode cX9_odds 26 = .ok (.invokevirtual 140, 3) := by decide +kernel
theorem dX9_odds_29 : decode cX9_odds 29 = .ok (.aload_n 0, 1) := by decide +kernel
theorem dX9_odds_30 : decode cX9_odds 30 = .ok (.getfield 33, 3) := by decide +kernel
theorem dX9_odds_33 : decode cX9_odds 33 = .ok (.getfield 97, 3) := by decide +kernel
theorem dX9_odds_36 : decode cX9_odds 36 = .ok (.getfield 100, 3) := by decide +kernel
theorem dX9_odds_39 : decode cX9_odds 39 = .ok (.iload_n 2, 1) := by decide +kernel
theorem dX9_odds_40 : decode cX9_odds 40 = .ok (.invokestatic 144, 3) := by decide +kernel
theorem dX9_odds_43 : decode cX9_odds 43 = .ok (.goto 5, 3) := by decide +kernel
theorem dX9_odds_46 : decode cX9_odds 46 = .ok (.bipush (-3), 2) := by decide +kernel
theorem dX9_odds_48 : decode cX9_odds 48 = .ok (.ireturn, 1) := by decide +kernel
set_option maxRecDepth 20000 in
theorem ggX9_worst_X9_fresh : GoodIn wsX9_worst wsX9_fresh := goodIn_r _ [8, 1, 9, 10, 11, 12, 13, 14, 15, 16, 17, 18, 19, 20, 21, 22, 23, 24, 25, 26, 27, 28, 29, 30, 31, 32, 33, 34, 35, 36, 37, 38, 39, 40, 41, 42, 43, 44, 45, 46, 47, 48, 49, 50, 51, 52, 53, 54, 55, 56, 57, 58, 59, 60, 61, 62, 63, 64, 65, 66, 67, 68, 69, 89, 90, 91, 92, 93, 94, 95, 96, 97, 98, 99, 100, 101, 102, 103, 104, 105, 106, 107, 108, 109, 110, 111, 112, 113, 114, 115, 116, 117] (by decide +kernel) (by decide +kernel)
set_option maxRecDepth 20000 in
theorem gX9_worst_X9_fresh : GoodIn wsX9_worst (wsV RX9 136 RX9 yX9_fresh wsX9_fresh) := goodIn_app (goodIn_of _ (by decide +kernel)) ggX9_worst_X9_fresh
set_option maxRecDepth 20000 in
theorem ggX9_worst_X7_worstInput : GoodIn wsX9_worst wsX7_worstInput := goodIn_r _ [73, 27, 28, 29, 12, 30, 31, 74, 75, 76, 77, 19, 78, 79, 80, 81, 82, 83, 84, 99, 100, 101, 102, 103, 104, 105, 106] (by decide +kernel) (by decide +kernel)
set_option maxRecDepth 20000 in
theorem gX9_worst_X7_worstInput : GoodIn wsX9_worst (wsV RX9 148 RX7 yX7_worstInput wsX7_worstInput) := goodIn_app (goodIn_of _ (by decide +kernel)) ggX9_worst_X7_worstInput
set_option maxRecDepth 20000 in
theorem ggX9_worst_X7_rightCount : GoodIn wsX9_worst wsX7_rightCount := goodIn_r _ [77, 19, 78, 79, 80, 81, 82, 83, 84, 99, 100, 101, 102, 103, 104, 105, 106] (by decide +kernel) (by decide +kernel)
set_option maxRecDepth 20000 in
theorem gX9_worst_X7_rightCount : GoodIn wsX9_worst (wsV RX9 140 RX7 yX7_rightCount wsX7_rightCount) := goodIn_app (goodIn_of _ (by decide +kernel)) ggX9_worst_X7_rightCount
set_option maxRecDepth 20000 in
theorem ggX9_worst_X9_lowest : GoodIn wsX9_worst wsX9_lowest := goodIn_r _ [88] (by decide +kernel) (by decide +kernel)
set_option maxRecDepth 20000 in
theorem gX9_worst_X9_lowest : GoodIn wsX9_worst (va_wsS RX9 144 yX9_lowest wsX9_lowest) := goodIn_app (goodIn_of _ (by decide +kernel)) ggX9_worst_X9_lowest
theorem dX9_worst_0 : decode cX9_worst 0 = .ok (.iload_n 1, 1) := by decide +kernel
theorem dX9_worst_1 : decode cX9_worst 1 = .ok (.ifCond .lt 8, 3) := by decide +kernel
theorem dX9_worst_4 : decode cX9_worst 4 = .ok (.iload_n 1, 1) := by decide +kernel
theorem dX9_worst_5 : decode cX9_worst 5 = .ok (.iconst 2, 1) := by decide +kernel
theorem dX9_worst_6 : decode cX9_worst 6 = .ok (.if_icmp .le 6, 3) := by decide +kernel
theorem dX9_worst_9 : decode cX9_worst 9 = .ok (.bipush (-3), 2) := by decide +kernel
theorem dX9_worst_11 : decode cX9_worst 11 = .ok (.ireturn, 1) := by decide +kernel
theorem dX9_worst_12 : decode cX9_worst 12 = .ok (.aload_n 0, 1) := by decide +kernel
theorem dX9_worst_13 : decode cX9_worst 13 = .ok (.invokevirtual 136, 3) := by decide +kernel
theorem dX9_worst_16 : decode cX9_worst 16 = .ok (.invokevirtual 148, 3) := by decide +kernel
theorem dX9_worst_19 : decode cX9_worst 19 = .ok (.istore_n 2, 1) := by decide +kernel
theorem dX9_worst_20 : decode cX9_worst 20 = .ok (.iload_n 1, 1) := by decide +kernel
theorem dX9_worst_21 : decode cX9_worst 21 = .ok (.iconst 2, 1) := by decide +kernel
theorem dX9_worst_22 : decode cX9_worst 22 = .ok (.if_icmp .ne 7, 3) := by decide +kernel
theorem dX9_worst_25 : decode cX9_worst 25 = .ok (.iload_n 2, 1) := by decide +kernel
theorem dX9_worst_26 : decode cX9_worst 26 = .ok (.goto 25, 3) := by decide +kernel
theorem dX9_worst_29 : decode cX9_worst 29 = .ok (.aload_n 0, 1) := by decide +kernel
theorem dX9_worst_30 : decode cX9_worst 30 = .ok (.getfield 33, 3) := by decide +kernel
theorem dX9_worst_33 : decode cX9_worst 33 = .ok (.iload_n 2, 1) := by decide +kernel
theorem dX9_worst_34 : decode cX9_worst 34 = .ok (.invokevirtual 140, 3) := by decide +kernel
theorem dX9_worst_37 : decode cX9_worst 37 = .ok (.aload_n 0, 1) := by decide +kernel
theorem dX9_worst_38 : decode cX9_worst 38 = .ok (.getfield 33, 3) := by decide +kernel
theorem dX9_worst_41 : decode cX9_worst 41 = .ok (.getfield 97, 3) := by decide +kernel
theorem dX9_worst_44 : decode cX9_worst 44 = .ok (.getfield 100, 3) := by decide +kernel
theorem dX9_worst_47 : decode cX9_worst 47 = .ok (.iload_n 1, 1) := by decide +kernel
theorem dX9_worst_48 : decode cX9_worst 48 = .ok (.invokestatic 144, 3) := by decide +kernel
theorem dX9_worst_51 : decode cX9_worst 51 = .ok (.ireturn, 1) := by decide +kernel
set_option maxRecDepth 20000 in
theorem ggX9_mean_X9_isPart : GoodIn wsX9_mean wsX9_isPart := goodIn_r _ [7] (by decide +kernel) (by decide +kernel)
set_option maxRecDepth 20000 in
theorem gX9_mean_X9_isPart : GoodIn wsX9_mean (va_wsS RX9 133 yX9_isPart wsX9_isPart) := goodIn_app (goodIn_of _ (by decide +kernel)) ggX9_mean_X9_isPart
set_option maxRecDepth 20000 in
theorem ggX9_mean_X9_fresh : GoodIn wsX9_mean wsX9_fresh := goodIn_r _ [11, 1, 12, 13, 14, 15, 16, 17, 18, 19, 20, 21, 22, 23, 24, 25, 26, 27, 28, 29, 30, 31, 32, 33, 34, 35, 36, 37, 38, 39, 40, 41, 42, 43, 44, 45, 46, 47, 48, 49, 50, 51, 52, 53, 54, 55, 56, 57, 58, 59, 60, 61, 62, 63, 64, 65, 66, 67, 68, 69, 70, 71, 72, 88, 89, 90, 91, 92, 93, 94, 95, 96, 97, 98, 99, 100, 101, 102, 103, 104, 105, 106, 107, 108, 109, 110, 111, 112, 113, 114, 115, 116] (by decide +kernel) (by decide +kernel)
set_option maxRecDepth 20000 in
theorem gX9_mean_X9_fresh : GoodIn wsX9_mean (wsV RX9 136 RX9 yX9_fresh wsX9_fresh) := goodIn_app (goodIn_of _ (by decide +kernel)) ggX9_mean_X9_fresh
set_option maxRecDepth 20000 in
theorem ggX9_mean_X7_rightInputsWithin : GoodIn wsX9_mean wsX7_rightInputsWithin := goodIn_r _ [76, 18, 77, 78, 79, 80, 81, 82, 83, 98, 99, 100, 101, 102, 103, 104, 105] (by decide +kernel) (by decide +kernel)
set_option maxRecDepth 20000 in
theorem gX9_mean_X7_rightInputsWithin : GoodIn wsX9_mean (wsV RX9 151 RX7 yX7_rightInputsWithin wsX7_rightInputsWithin) := goodIn_app (goodIn_of _ (by decide +kernel)) ggX9_mean_X7_rightInputsWithin
set_option maxRecDepth 20000 in
theorem ggX9_mean_X7_inputCount : GoodIn wsX9_mean wsX7_inputCount := goodIn_r _ [33, 34, 98, 99, 100, 101, 102, 103, 104, 105] (by decide +kernel) (by decide +kernel)
set_option maxRecDepth 20000 in
theorem gX9_mean_X7_inputCount : GoodIn wsX9_mean (wsV RX9 114 RX7 yX7_inputCount wsX7_inputCount) := goodIn_app (goodIn_of _ (by decide +kernel)) ggX9_mean_X7_inputCount
set_option maxRecDepth 20000 in
theorem ggX9_mean_X9_lowest : GoodIn wsX9_mean wsX9_lowest := goodIn_r _ [87] (by decide +kernel) (by decide +kernel)
set_option maxRecDepth 20000 in
theorem gX9_mean_X9_lowest : GoodIn wsX9_mean (va_wsS RX9 144 yX9_lowest wsX9_lowest) := goodIn_app (goodIn_of _ (by decide +kernel)) ggX9_mean_X9_lowest
theorem dX9_mean_0 : decode cX9_mean 0 = .ok (.iload_n 1, 1) := by decide +kernel
theorem dX9_mean_1 : decode cX9_mean 1 = .ok (.invokestatic 133, 3) := by decide +kernel
theorem dX9_mean_4 : decode cX9_mean 4 = .ok (.ifCond .ne 6, 3) := by decide +kernel
theorem dX9_mean_7 : decode cX9_mean 7 = .ok (.bipush (-3), 2) := by decide +kernel
theorem dX9_mean_9 : decode cX9_mean 9 = .ok (.ireturn, 1) := by decide +kernel
theorem dX9_mean_10 : decode cX9_mean 10 = .ok (.aload_n 0, 1) := by decide +kernel
theorem dX9_mean_11 : decode cX9_mean 11 = .ok (.getfield 33, 3) := by decide +kernel
theorem dX9_mean_14 : decode cX9_mean 14 = .ok (.getfield 97, 3) := by decide +kernel
theorem dX9_mean_17 : decode cX9_mean 17 = .ok (.getfield 100, 3) := by decide +kernel
theorem dX9_mean_20 : decode cX9_mean 20 = .ok (.istore_n 2, 1) := by decide +kernel
theorem dX9_mean_21 : decode cX9_mean 21 = .ok (.aload_n 0, 1) := by decide +kernel
theorem dX9_mean_22 : decode cX9_mean 22 = .ok (.invokevirtual 136, 3) := by decide +kernel
theorem dX9_mean_25 : decode cX9_mean 25 = .ok (.iconst 0, 1) := by decide +kernel
theorem dX9_mean_26 : decode cX9_mean 26 = .ok (.iload_n 2, 1) := by decide +kernel
theorem dX9_mean_27 : decode cX9_mean 27 = .ok (.invokevirtual 151, 3) := by decide +kernel
theorem dX9_mean_30 : decode cX9_mean 30 = .ok (.iload_n 2, 1) := by decide +kernel
theorem dX9_mean_31 : decode cX9_mean 31 = .ok (.aload_n 0, 1) := by decide +kernel
theorem dX9_mean_32 : decode cX9_mean 32 = .ok (.getfield 33, 3) := by decide +kernel
theorem dX9_mean_35 : decode cX9_mean 35 = .ok (.invokevirtual 114, 3) := by decide +kernel
theorem dX9_mean_38 : decode cX9_mean 38 = .ok (.imul, 1) := by decide +kernel
theorem dX9_mean_39 : decode cX9_mean 39 = .ok (.iload_n 1, 1) := by decide +kernel
theorem dX9_mean_40 : decode cX9_mean 40 = .ok (.invokestatic 144, 3) := by decide +kernel
theorem dX9_mean_43 : decode cX9_mean 43 = .ok (.ireturn, 1) := by decide +kernel
set_option maxRecDepth 20000 in
theorem ggX9_seen_X9_isPart : GoodIn wsX9_seen wsX9_isPart := goodIn_r _ [8] (by decide +kernel) (by decide +kernel)
set_option maxRecDepth 20000 in
theorem gX9_seen_X9_isPart : GoodIn wsX9_seen (va_wsS RX9 133 yX9_isPart wsX9_isPart) := goodIn_app (goodIn_of _ (by decide +kernel)) ggX9_seen_X9_isPart
set_option maxRecDepth 20000 in
theorem ggX9_seen_X9_fresh : GoodIn wsX9_seen wsX9_fresh := goodIn_r _ [12, 1, 13, 14, 15, 16, 17, 18, 19, 20, 21, 22, 23, 24, 25, 26, 27, 28, 29, 30, 31, 32, 33, 34, 35, 36, 37, 38, 39, 40, 41, 42, 43, 44, 45, 46, 47, 48, 49, 50, 51, 52, 53, 54, 55, 56, 57, 58, 59, 60, 61, 62, 63, 64, 65, 66, 67, 68, 69, 70, 71, 72, 73, 102, 103, 104, 105, 106, 107, 108, 109, 110, 111, 112, 113, 114, 115, 116, 117, 118, 119, 120, 121, 122, 123, 124, 125, 126, 127, 128, 129, 130] (by decide +kernel) (by decide +kernel)
set_option maxRecDepth 20000 in
theorem gX9_seen_X9_fresh : GoodIn wsX9_seen (wsV RX9 136 RX9 yX9_fresh wsX9_fresh) := goodIn_app (goodIn_of _ (by decide +kernel)) ggX9_seen_X9_fresh
set_option maxRecDepth 20000 in
theorem ggX9_seen_X7_rightBeforeEnemy : GoodIn wsX9_seen wsX7_rightBeforeEnemy := goodIn_r _ [77, 20, 78, 79, 80, 81, 16, 82, 83, 28, 29, 30, 22, 84, 85, 86, 87, 23, 88, 89, 90, 91, 31, 32, 33, 34, 35, 92, 93, 94, 95, 96, 97, 98, 112, 113, 114, 115, 116, 117, 118, 119, 120, 121, 122, 123, 124, 125, 126, 127, 128, 129, 130] (by decide +kernel) (by decide +kernel)
set_option maxRecDepth 20000 in
theorem gX9_seen_X7_rightBeforeEnemy : GoodIn wsX9_seen (wsV RX9 154 RX7 yX7_rightBeforeEnemy wsX7_rightBeforeEnemy) := goodIn_app (goodIn_of _ (by decide +kernel)) ggX9_seen_X7_rightBeforeEnemy
set_option maxRecDepth 20000 in
theorem ggX9_seen_X9_lowest : GoodIn wsX9_seen wsX9_lowest := goodIn_r _ [101] (by decide +kernel) (by decide +kernel)
set_option maxRecDepth 20000 in
theorem gX9_seen_X9_lowest : GoodIn wsX9_seen (va_wsS RX9 144 yX9_lowest wsX9_lowest) := goodIn_app (goodIn_of _ (by decide +kernel)) ggX9_seen_X9_lowest
theorem dX9_seen_0 : decode cX9_seen 0 = .ok (.iload_n 1, 1) := by decide +kernel
theorem dX9_seen_1 : decode cX9_seen 1 = .ok (.ifCond .lt 17, 3) := by decide +kernel
theorem dX9_seen_4 : decode cX9_seen 4 = .ok (.iload_n 1, 1) := by decide +kernel
theorem dX9_seen_5 : decode cX9_seen 5 = .ok (.aload_n 0, 1) := by decide +kernel
theorem dX9_seen_6 : decode cX9_seen 6 = .ok (.getfield 33, 3) := by decide +kernel
theorem dX9_seen_9 : decode cX9_seen 9 = .ok (.getfield 97, 3) := by decide +kernel
theorem dX9_seen_12 : decode cX9_seen 12 = .ok (.getfield 103, 3) := by decide +kernel
theorem dX9_seen_15 : decode cX9_seen 15 = .ok (.if_icmp .le 6, 3) := by decide +kernel
theorem dX9_seen_18 : decode cX9_seen 18 = .ok (.bipush (-2), 2) := by decide +kernel
theorem dX9_seen_20 : decode cX9_seen 20 = .ok (.ireturn, 1) := by decide +kernel
theorem dX9_seen_21 : decode cX9_seen 21 = .ok (.iload_n 2, 1) := by decide +kernel
theorem dX9_seen_22 : decode cX9_seen 22 = .ok (.invokestatic 133, 3) := by decide +kernel
theorem dX9_seen_25 : decode cX9_seen 25 = .ok (.ifCond .eq 28, 3) := by decide +kernel
theorem dX9_seen_28 : decode cX9_seen 28 = .ok (.aload_n 0, 1) := by decide +kernel
theorem dX9_seen_29 : decode cX9_seen 29 = .ok (.invokevirtual 136, 3) := by decide +kernel
theorem dX9_seen_32 : decode cX9_seen 32 = .ok (.iload_n 1, 1) := by decide +kernel
theorem dX9_seen_33 : decode cX9_seen 33 = .ok (.invokevirtual 154, 3) := by decide +kernel
theorem dX9_seen_36 : decode cX9_seen 36 = .ok (.aload_n 0, 1) := by decide +kernel
theorem dX9_seen_37 : decode cX9_seen 37 = .ok (.getfield 33, 3) := by decide +kernel
theorem dX9_seen_40 : decode cX9_seen 40 = .ok (.getfield 97, 3) := by decide +kernel
theorem dX9_seen_43 : decode cX9_seen 43 = .ok (.getfield 100, 3) := by decide +kernel
theorem dX9_seen_46 : decode cX9_seen 46 = .ok (.iload_n 2, 1) := by decide +kernel
theorem dX9_seen_47 : decode cX9_seen 47 = .ok (.invokestatic 144, 3) := by decide +kernel
theorem dX9_seen_50 : decode cX9_seen 50 = .ok (.goto 5, 3) := by decide +kernel
theorem dX9_seen_53 : decode cX9_seen 53 = .ok (.bipush (-3), 2) := by decide +kernel
theorem dX9_seen_55 : decode cX9_seen 55 = .ok (.ireturn, 1) := by decide +kernel
set_option maxRecDepth 20000 in
theorem ggX9_kept_X9_isChoice : GoodIn wsX9_kept wsX9_isChoice := goodIn_r _ [5] (by decide +kernel) (by decide +kernel)
set_option maxRecDepth 20000 in
theorem gX9_kept_X9_isChoice : GoodIn wsX9_kept (va_wsS RX9 157 yX9_isChoice wsX9_isChoice) := goodIn_app (goodIn_of _ (by decide +kernel)) ggX9_kept_X9_isChoice
set_option maxRecDepth 20000 in
theorem ggX9_kept_X9_fresh : GoodIn wsX9_kept wsX9_fresh := goodIn_r _ [9, 1, 10, 11, 12, 13, 14, 15, 16, 17, 18, 19, 20, 21, 22, 23, 24, 25, 26, 27, 28, 29, 30, 31, 32, 33, 34, 35, 36, 37, 38, 39, 40, 41, 42, 43, 44, 45, 46, 47, 48, 49, 50, 51, 52, 53, 54, 55, 56, 57, 58, 59, 60, 61, 62, 63, 64, 65, 66, 67, 68, 69, 70, 97, 98, 99, 100, 101, 102, 103, 104, 105, 106, 107, 108, 109, 110, 111, 112, 113, 114, 115, 116, 117, 118, 119, 120, 121, 122, 123, 124, 125] (by decide +kernel) (by decide +kernel)
set_option maxRecDepth 20000 in
theorem gX9_kept_X9_fresh : GoodIn wsX9_kept (wsV RX9 136 RX9 yX9_fresh wsX9_fresh) := goodIn_app (goodIn_of _ (by decide +kernel)) ggX9_kept_X9_fresh
set_option maxRecDepth 20000 in
theorem ggX9_kept_X7_keptRow : GoodIn wsX9_kept wsX7_keptRow := goodIn_r _ [74, 17, 75, 76, 77, 78, 79, 13, 80, 81, 82, 83, 84, 85, 86, 87, 88, 16, 89, 90, 91, 92, 93, 94, 95, 107, 108, 109, 110, 111, 112, 113, 114, 115, 116, 117, 118, 119, 120, 121, 122, 123, 124, 125] (by decide +kernel) (by decide +kernel)
set_option maxRecDepth 20000 in
theorem gX9_kept_X7_keptRow : GoodIn wsX9_kept (wsV RX9 160 RX7 yX7_keptRow wsX7_keptRow) := goodIn_app (goodIn_of _ (by decide +kernel)) ggX9_kept_X7_keptRow
set_option maxRecDepth 20000 in
theorem ggX9_kept_X7_rightInputsWithin : GoodIn wsX9_kept wsX7_rightInputsWithin := goodIn_r _ [88, 16, 89, 90, 91, 92, 93, 94, 95, 107, 108, 109, 110, 111, 112, 113, 114] (by decide +kernel) (by decide +kernel)
set_option maxRecDepth 20000 in
theorem gX9_kept_X7_rightInputsWithin : GoodIn wsX9_kept (wsV RX9 151 RX7 yX7_rightInputsWithin wsX7_rightInputsWithin) := goodIn_app (goodIn_of _ (by decide +kernel)) ggX9_kept_X7_rightInputsWithin
theorem dX9_kept_0 : decode cX9_kept 0 = .ok (.iload_n 1, 1) := by decide +kernel
theorem dX9_kept_1 : decode cX9_kept 1 = .ok (.invokestatic 157, 3) := by decide +kernel
theorem dX9_kept_4 : decode cX9_kept 4 = .ok (.ifCond .ne 6, 3) := by decide +kernel
theorem dX9_kept_7 : decode cX9_kept 7 = .ok (.bipush (-3), 2) := by decide +kernel
theorem dX9_kept_9 : decode cX9_kept 9 = .ok (.ireturn, 1) := by decide +kernel
theorem dX9_kept_10 : decode cX9_kept 10 = .ok (.aload_n 0, 1) := by decide +kernel
theorem dX9_kept_11 : decode cX9_kept 11 = .ok (.invokevirtual 136, 3) := by decide +kernel
theorem dX9_kept_14 : decode cX9_kept 14 = .ok (.invokevirtual 160, 3) := by decide +kernel
theorem dX9_kept_17 : decode cX9_kept 17 = .ok (.istore_n 2, 1) := by decide +kernel
theorem dX9_kept_18 : decode cX9_kept 18 = .ok (.iload_n 1, 1) := by decide +kernel
theorem dX9_kept_19 : decode cX9_kept 19 = .ok (.ifCond .ne 15, 3) := by decide +kernel
theorem dX9_kept_22 : decode cX9_kept 22 = .ok (.aload_n 0, 1) := by decide +kernel
theorem dX9_kept_23 : decode cX9_kept 23 = .ok (.getfield 33, 3) := by decide +kernel
theorem dX9_kept_26 : decode cX9_kept 26 = .ok (.iload_n 2, 1) := by decide +kernel
theorem dX9_kept_27 : decode cX9_kept 27 = .ok (.iconst 1, 1) := by decide +kernel
theorem dX9_kept_28 : decode cX9_kept 28 = .ok (.invokevirtual 151, 3) := by decide +kernel
theorem dX9_kept_31 : decode cX9_kept 31 = .ok (.goto 4, 3) := by decide +kernel
theorem dX9_kept_34 : decode cX9_kept 34 = .ok (.iload_n 2, 1) := by decide +kernel
theorem dX9_kept_35 : decode cX9_kept 35 = .ok (.ireturn, 1) := by decide +kernel
set_option maxRecDepth 20000 in
theorem ggX9_good_X9_isChoice : GoodIn wsX9_good wsX9_isChoice := goodIn_r _ [4] (by decide +kernel) (by decide +kernel)
set_option maxRecDepth 20000 in
theorem gX9_good_X9_isChoice : GoodIn wsX9_good (va_wsS RX9 157 yX9_isChoice wsX9_isChoice) := goodIn_app (goodIn_of _ (by decide +kernel)) ggX9_good_X9_isChoice
set_option maxRecDepth 20000 in
theorem ggX9_good_X9_fresh : GoodIn wsX9_good wsX9_fresh := goodIn_r _ [8, 9, 10, 11, 12, 13, 14, 15, 16, 17, 18, 19, 20, 21, 22, 23, 24, 25, 26, 27, 28, 29, 30, 31, 32, 33, 34, 35, 36, 37, 38, 39, 40, 41, 42, 43, 44, 45, 46, 47, 48, 49, 50, 51, 52, 53, 54, 55, 56, 57, 58, 59, 60, 61, 62, 63, 64, 65, 66, 67, 68, 69, 70, 90, 91, 92, 93, 94, 95, 96, 97, 98, 99, 100, 101, 102, 103, 104, 105, 106, 107, 108, 109, 110, 111, 112, 113, 114, 115, 116, 117, 118] (by decide +kernel) (by decide +kernel)
set_option maxRecDepth 20000 in
theorem gX9_good_X9_fresh : GoodIn wsX9_good (wsV RX9 136 RX9 yX9_fresh wsX9_fresh) := goodIn_app (goodIn_of _ (by decide +kernel)) ggX9_good_X9_fresh
set_option maxRecDepth 20000 in
theorem ggX9_good_X7_goodCount : GoodIn wsX9_good wsX7_goodCount := goodIn_r _ [74, 17, 18, 75, 76, 77, 13, 78, 16, 79, 80, 81, 82, 83, 84, 85, 28, 29, 30, 31, 32, 100, 101, 102, 103, 104, 105, 106, 107, 108, 109, 110, 111, 112, 113, 114, 115, 116, 117, 118] (by decide +kernel) (by decide +kernel)
set_option maxRecDepth 20000 in
theorem gX9_good_X7_goodCount : GoodIn wsX9_good (wsV RX9 163 RX7 yX7_goodCount wsX7_goodCount) := goodIn_app (goodIn_of _ (by decide +kernel)) ggX9_good_X7_goodCount
set_option maxRecDepth 20000 in
theorem ggX9_good_X7_leastGood : GoodIn wsX9_good wsX7_leastGood := goodIn_r _ [89, 17, 18, 75, 76, 77, 13, 78, 16, 79, 80, 81, 82, 83, 84, 85, 28, 29, 30, 31, 32, 100, 101, 102, 103, 104, 105, 106, 107, 108, 109, 110, 111, 112, 113, 114, 115, 116, 117, 118] (by decide +kernel) (by decide +kernel)
set_option maxRecDepth 20000 in
theorem gX9_good_X7_leastGood : GoodIn wsX9_good (wsV RX9 166 RX7 yX7_leastGood wsX7_leastGood) := goodIn_app (goodIn_of _ (by decide +kernel)) ggX9_good_X7_leastGood
theorem dX9_good_0 : decode cX9_good 0 = .ok (.iload_n 1, 1) := by decide +kernel
theorem dX9_good_1 : decode cX9_good 1 = .ok (.invokestatic 157, 3) := by decide +kernel
theorem dX9_good_4 : decode cX9_good 4 = .ok (.ifCond .ne 6, 3) := by decide +kernel
theorem dX9_good_7 : decode cX9_good 7 = .ok (.bipush (-3), 2) := by decide +kernel
theorem dX9_good_9 : decode cX9_good 9 = .ok (.ireturn, 1) := by decide +kernel
theorem dX9_good_10 : decode cX9_good 10 = .ok (.iload_n 1, 1) := by decide +kernel
theorem dX9_good_11 : decode cX9_good 11 = .ok (.ifCond .ne 13, 3) := by decide +kernel
theorem dX9_good_14 : decode cX9_good 14 = .ok (.aload_n 0, 1) := by decide +kernel
theorem dX9_good_15 : decode cX9_good 15 = .ok (.invokevirtual 136, 3) := by decide +kernel
theorem dX9_good_18 : decode cX9_good 18 = .ok (.invokevirtual 163, 3) := by decide +kernel
theorem dX9_good_21 : decode cX9_good 21 = .ok (.goto 10, 3) := by decide +kernel
theorem dX9_good_24 : decode cX9_good 24 = .ok (.aload_n 0, 1) := by decide +kernel
theorem dX9_good_25 : decode cX9_good 25 = .ok (.invokevirtual 136, 3) := by decide +kernel
theorem dX9_good_28 : decode cX9_good 28 = .ok (.invokevirtual 166, 3) := by decide +kernel
theorem dX9_good_31 : decode cX9_good 31 = .ok (.ireturn, 1) := by decide +kernel
set_option maxRecDepth 20000 in
theorem ggX9_together_X9_fresh : GoodIn wsX9_together wsX9_fresh := goodIn_r _ [7, 1, 8, 9, 10, 11, 12, 13, 14, 15, 16, 17, 18, 19, 20, 21, 22, 23, 24, 25, 26, 27, 28, 29, 30, 31, 32, 33, 34, 35, 36, 37, 38, 39, 40, 41, 42, 43, 44, 45, 46, 47, 48, 49, 50, 51, 52, 53, 54, 55, 56, 57, 58, 59, 60, 61, 62, 63, 64, 65, 66, 67, 68, 85, 86, 87, 88, 89, 90, 91, 92, 93, 94, 95, 96, 97, 98, 99, 100, 101, 102, 103, 104, 105, 106, 107, 108, 109, 110, 111, 112, 113] (by decide +kernel) (by decide +kernel)
set_option maxRecDepth 20000 in
theorem gX9_together_X9_fresh : GoodIn wsX9_together (wsV RX9 136 RX9 yX9_fresh wsX9_fresh) := goodIn_app (goodIn_of _ (by decide +kernel)) ggX9_together_X9_fresh
set_option maxRecDepth 20000 in
theorem ggX9_together_X7_gatherRows : GoodIn wsX9_together wsX7_gatherRows := goodIn_r _ [72, 14, 73, 26, 27, 28, 11, 29, 30, 23, 24, 25, 17, 74, 75, 76, 77, 15, 16, 78, 79, 80, 81, 82, 83, 84, 95, 96, 97, 98, 99, 100, 101, 102, 103, 104, 105, 106, 107, 108, 109, 110, 111, 112, 113] (by decide +kernel) (by decide +kernel)
set_option maxRecDepth 20000 in
theorem gX9_together_X7_gatherRows : GoodIn wsX9_together (wsV RX9 169 RX7 yX7_gatherRows wsX7_gatherRows) := goodIn_app (goodIn_of _ (by decide +kernel)) ggX9_together_X7_gatherRows
theorem dX9_together_0 : decode cX9_together 0 = .ok (.iload_n 1, 1) := by decide +kernel
theorem dX9_together_1 : decode cX9_together 1 = .ok (.iconst (-1), 1) := by decide +kernel
theorem dX9_together_2 : decode cX9_together 2 = .ok (.if_icmp .ge 6, 3) := by decide +kernel
theorem dX9_together_5 : decode cX9_together 5 = .ok (.bipush (-3), 2) := by decide +kernel
theorem dX9_together_7 : decode cX9_together 7 = .ok (.ireturn, 1) := by decide +kernel
theorem dX9_together_8 : decode cX9_together 8 = .ok (.aload_n 0, 1) := by decide +kernel
theorem dX9_together_9 : decode cX9_together 9 = .ok (.invokevirtual 136, 3) := by decide +kernel
theorem dX9_together_12 : decode cX9_together 12 = .ok (.invokevirtual 169, 3) := by decide +kernel
theorem dX9_together_15 : decode cX9_together 15 = .ok (.istore_n 2, 1) := by decide +kernel
theorem dX9_together_16 : decode cX9_together 16 = .ok (.iload_n 1, 1) := by decide +kernel
theorem dX9_together_17 : decode cX9_together 17 = .ok (.iconst (-1), 1) := by decide +kernel
theorem dX9_together_18 : decode cX9_together 18 = .ok (.if_icmp .ne 5, 3) := by decide +kernel
theorem dX9_together_21 : decode cX9_together 21 = .ok (.iload_n 2, 1) := by decide +kernel
theorem dX9_together_22 : decode cX9_together 22 = .ok (.ireturn, 1) := by decide +kernel
theorem dX9_together_23 : decode cX9_together 23 = .ok (.iload_n 1, 1) := by decide +kernel
theorem dX9_together_24 : decode cX9_together 24 = .ok (.iload_n 2, 1) := by decide +kernel
theorem dX9_together_25 : decode cX9_together 25 = .ok (.if_icmp .ge 15, 3) := by decide +kernel
theorem dX9_together_28 : decode cX9_together 28 = .ok (.aload_n 0, 1) := by decide +kernel
theorem dX9_together_29 : decode cX9_together 29 = .ok (.getfield 33, 3) := by decide +kernel
theorem dX9_together_32 : decode cX9_together 32 = .ok (.getfield 172, 3) := by decide +kernel
theorem dX9_together_35 : decode cX9_together 35 = .ok (.iload_n 1, 1) := by decide +kernel
theorem dX9_together_36 : decode cX9_together 36 = .ok (.iaload, 1) := by decide +kernel
theorem dX9_together_37 : decode cX9_together 37 = .ok (.goto 4, 3) := by decide +kernel
theorem dX9_together_40 : decode cX9_together 40 = .ok (.iconst (-1), 1) := by decide +kernel
theorem dX9_together_41 : decode cX9_together 41 = .ok (.ireturn, 1) := by decide +kernel
set_option maxRecDepth 20000 in
theorem ggX9_again_X9_isRatio : GoodIn wsX9_again wsX9_isRatio := goodIn_r _ [4] (by decide +kernel) (by decide +kernel)
set_option maxRecDepth 20000 in
theorem gX9_again_X9_isRatio : GoodIn wsX9_again (va_wsS RX9 175 yX9_isRatio wsX9_isRatio) := goodIn_app (goodIn_of _ (by decide +kernel)) ggX9_again_X9_isRatio
set_option maxRecDepth 20000 in
theorem ggX9_again_X9_fresh : GoodIn wsX9_again wsX9_fresh := goodIn_r _ [8, 9, 10, 11, 12, 13, 14, 15, 16, 17, 18, 19, 20, 21, 22, 23, 24, 25, 26, 27, 28, 29, 30, 31, 32, 33, 34, 35, 36, 37, 38, 39, 40, 41, 42, 43, 44, 45, 46, 47, 48, 49, 50, 51, 52, 53, 54, 55, 56, 57, 58, 59, 60, 61, 62, 63, 64, 65, 66, 67, 68, 69, 70, 102, 103, 104, 105, 106, 107, 108, 109, 110, 111, 112, 113, 114, 115, 116, 117, 118, 119, 120, 121, 122, 123, 124, 125, 126, 127, 128, 129, 130] (by decide +kernel) (by decide +kernel)
set_option maxRecDepth 20000 in
theorem gX9_again_X9_fresh : GoodIn wsX9_again (wsV RX9 136 RX9 yX9_fresh wsX9_fresh) := goodIn_app (goodIn_of _ (by decide +kernel)) ggX9_again_X9_fresh
set_option maxRecDepth 20000 in
theorem ggX9_again_X7_runsForMajority : GoodIn wsX9_again wsX7_runsForMajority := goodIn_r _ [74, 75, 17, 18, 76, 77, 78, 13, 79, 28, 29, 30, 31, 32, 80, 81, 82, 83, 20, 84, 85, 86, 87, 88, 89, 90, 91, 92, 23, 93, 94, 95, 96, 97, 98, 99, 100, 101, 112, 113, 114, 115, 116, 117, 118, 119, 120, 121, 122, 123, 124, 125, 126, 127, 128, 129, 130] (by decide +kernel) (by decide +kernel)
set_option maxRecDepth 20000 in
theorem gX9_again_X7_runsForMajority : GoodIn wsX9_again (wsV RX9 178 RX7 yX7_runsForMajority wsX7_runsForMajority) := goodIn_app (goodIn_of _ (by decide +kernel)) ggX9_again_X7_runsForMajority
theorem dX9_again_0 : decode cX9_again 0 = .ok (.iload_n 1, 1) := by decide +kernel
theorem dX9_again_1 : decode cX9_again 1 = .ok (.iload_n 2, 1) := by decide +kernel
theorem dX9_again_2 : decode cX9_again 2 = .ok (.invokestatic 175, 3) := by decide +kernel
theorem dX9_again_5 : decode cX9_again 5 = .ok (.ifCond .eq 15, 3) := by decide +kernel
theorem dX9_again_8 : decode cX9_again 8 = .ok (.aload_n 0, 1) := by decide +kernel
theorem dX9_again_9 : decode cX9_again 9 = .ok (.invokevirtual 136, 3) := by decide +kernel
theorem dX9_again_12 : decode cX9_again 12 = .ok (.iload_n 1, 1) := by decide +kernel
theorem dX9_again_13 : decode cX9_again 13 = .ok (.iload_n 2, 1) := by decide +kernel
theorem dX9_again_14 : decode cX9_again 14 = .ok (.invokevirtual 178, 3) := by decide +kernel
theorem dX9_again_17 : decode cX9_again 17 = .ok (.goto 5, 3) := by decide +kernel
theorem dX9_again_20 : decode cX9_again 20 = .ok (.bipush (-3), 2) := by decide +kernel
theorem dX9_again_22 : decode cX9_again 22 = .ok (.ireturn, 1) := by decide +kernel
set_option maxRecDepth 20000 in
theorem ggX9_cap_X9_isRatio : GoodIn wsX9_cap wsX9_isRatio := goodIn_r _ [4] (by decide +kernel) (by decide +kernel)
set_option maxRecDepth 20000 in
theorem gX9_cap_X9_isRatio : GoodIn wsX9_cap (va_wsS RX9 175 yX9_isRatio wsX9_isRatio) := goodIn_app (goodIn_of _ (by decide +kernel)) ggX9_cap_X9_isRatio
set_option maxRecDepth 20000 in
theorem ggX9_cap_X9_fresh : GoodIn wsX9_cap wsX9_fresh := goodIn_r _ [8, 9, 10, 11, 12, 13, 14, 15, 16, 17, 18, 19, 20, 21, 22, 23, 24, 25, 26, 27, 28, 29, 30, 31, 32, 33, 34, 35, 36, 37, 38, 39, 40, 41, 42, 43, 44, 45, 46, 47, 48, 49, 50, 51, 52, 53, 54, 55, 56, 57, 58, 59, 60, 61, 62, 63, 64, 65, 66, 67, 68, 69, 70, 90, 91, 92, 93, 94, 95, 96, 97, 98, 99, 100, 101, 102, 103, 104, 105, 106, 107, 108, 109, 110, 111, 112, 113, 114, 115, 116, 117, 118] (by decide +kernel) (by decide +kernel)
set_option maxRecDepth 20000 in
theorem gX9_cap_X9_fresh : GoodIn wsX9_cap (wsV RX9 136 RX9 yX9_fresh wsX9_fresh) := goodIn_app (goodIn_of _ (by decide +kernel)) ggX9_cap_X9_fresh
set_option maxRecDepth 20000 in
theorem ggX9_cap_X7_runsForOne : GoodIn wsX9_cap wsX7_runsForOne := goodIn_r _ [74, 17, 18, 75, 76, 77, 13, 78, 28, 29, 30, 31, 32, 79, 80, 81, 82, 20, 83, 84, 85, 86, 87, 88, 89, 100, 101, 102, 103, 104, 105, 106, 107, 108, 109, 110, 111, 112, 113, 114, 115, 116, 117, 118] (by decide +kernel) (by decide +kernel)
set_option maxRecDepth 20000 in
theorem gX9_cap_X7_runsForOne : GoodIn wsX9_cap (wsV RX9 181 RX7 yX7_runsForOne wsX7_runsForOne) := goodIn_app (goodIn_of _ (by decide +kernel)) ggX9_cap_X7_runsForOne
theorem dX9_cap_0 : decode cX9_cap 0 = .ok (.iload_n 1, 1) := by decide +kernel
theorem dX9_cap_1 : decode cX9_cap 1 = .ok (.iload_n 2, 1) := by decide +kernel
theorem dX9_cap_2 : decode cX9_cap 2 = .ok (.invokestatic 175, 3) := by decide +kernel
theorem dX9_cap_5 : decode cX9_cap 5 = .ok (.ifCond .eq 15, 3) := by decide +kernel
theorem dX9_cap_8 : decode cX9_cap 8 = .ok (.aload_n 0, 1) := by decide +kernel
theorem dX9_cap_9 : decode cX9_cap 9 = .ok (.invokevirtual 136, 3) := by decide +kernel
theorem dX9_cap_12 : decode cX9_cap 12 = .ok (.iload_n 1, 1) := by decide +kernel
theorem dX9_cap_13 : decode cX9_cap 13 = .ok (.iload_n 2, 1) := by decide +kernel
theorem dX9_cap_14 : decode cX9_cap 14 = .ok (.invokevirtual 181, 3) := by decide +kernel
theorem dX9_cap_17 : decode cX9_cap 17 = .ok (.goto 5, 3) := by decide +kernel
theorem dX9_cap_20 : decode cX9_cap 20 = .ok (.bipush (-3), 2) := by decide +kernel
theorem dX9_cap_22 : decode cX9_cap 22 = .ok (.ireturn, 1) := by decide +kernel
set_option maxRecDepth 20000 in
theorem ggX9_knots_X8_restart : GoodIn wsX9_knots wsX8_restart := goodIn_r _ [8, 9, 10, 11, 24, 25, 26, 27, 28, 29, 30, 31, 32] (by decide +kernel) (by decide +kernel)
set_option maxRecDepth 20000 in
theorem gX9_knots_X8_restart : GoodIn wsX9_knots (wsV RX9 184 RX8 yX8_restart wsX8_restart) := goodIn_app (goodIn_of _ (by decide +kernel)) ggX9_knots_X8_restart
theorem dX9_knots_0 : decode cX9_knots 0 = .ok (.iload_n 1, 1) := by decide +kernel
theorem dX9_knots_1 : decode cX9_knots 1 = .ok (.iconst 1, 1) := by decide +kernel
theorem dX9_knots_2 : decode cX9_knots 2 = .ok (.if_icmp .lt 9, 3) := by decide +kernel
theorem dX9_knots_5 : decode cX9_knots 5 = .ok (.iload_n 1, 1) := by decide +kernel
theorem dX9_knots_6 : decode cX9_knots 6 = .ok (.bipush 8, 2) := by decide +kernel
theorem dX9_knots_8 : decode cX9_knots 8 = .ok (.if_icmp .le 6, 3) := by decide +kernel
theorem dX9_knots_11 : decode cX9_knots 11 = .ok (.bipush (-3), 2) := by decide +kernel
theorem dX9_knots_13 : decode cX9_knots 13 = .ok (.ireturn, 1) := by decide +kernel
theorem dX9_knots_14 : decode cX9_knots 14 = .ok (.aload_n 0, 1) := by decide +kernel
theorem dX9_knots_15 : decode cX9_knots 15 = .ok (.getfield 44, 3) := by decide +kernel
theorem dX9_knots_18 : decode cX9_knots 18 = .ok (.iload_n 1, 1) := by decide +kernel
theorem dX9_knots_19 : decode cX9_knots 19 = .ok (.invokevirtual 184, 3) := by decide +kernel
theorem dX9_knots_22 : decode cX9_knots 22 = .ok (.aload_n 0, 1) := by decide +kernel
theorem dX9_knots_23 : decode cX9_knots 23 = .ok (.getfield 51, 3) := by decide +kernel
theorem dX9_knots_26 : decode cX9_knots 26 = .ok (.iconst 0, 1) := by decide +kernel
theorem dX9_knots_27 : decode cX9_knots 27 = .ok (.putfield 187, 3) := by decide +kernel
theorem dX9_knots_30 : decode cX9_knots 30 = .ok (.iconst 1, 1) := by decide +kernel
theorem dX9_knots_31 : decode cX9_knots 31 = .ok (.ireturn, 1) := by decide +kernel
set_option maxRecDepth 20000 in
theorem ggX9_edge_X8_hasKnot : GoodIn wsX9_edge wsX8_hasKnot := goodIn_r _ [6, 7, 26, 27, 28, 29, 30, 31, 32, 33, 34] (by decide +kernel) (by decide +kernel)
set_option maxRecDepth 20000 in
theorem gX9_edge_X8_hasKnot : GoodIn wsX9_edge (wsV RX9 190 RX8 yX8_hasKnot wsX8_hasKnot) := goodIn_app (goodIn_of _ (by decide +kernel)) ggX9_edge_X8_hasKnot
set_option maxRecDepth 20000 in
theorem ggX9_edge_X8_addEdge : GoodIn wsX9_edge wsX8_addEdge := goodIn_r _ [11, 12, 13, 14, 15, 26, 27, 28, 29, 30, 31, 32, 33, 34] (by decide +kernel) (by decide +kernel)
set_option maxRecDepth 20000 in
theorem gX9_edge_X8_addEdge : GoodIn wsX9_edge (wsV RX9 193 RX8 yX8_addEdge wsX8_addEdge) := goodIn_app (goodIn_of _ (by decide +kernel)) ggX9_edge_X8_addEdge
theorem dX9_edge_0 : decode cX9_edge 0 = .ok (.aload_n 0, 1) := by decide +kernel
theorem dX9_edge_1 : decode cX9_edge 1 = .ok (.getfield 44, 3) := by decide +kernel
theorem dX9_edge_4 : decode cX9_edge 4 = .ok (.iload_n 1, 1) := by decide +kernel
theorem dX9_edge_5 : decode cX9_edge 5 = .ok (.invokevirtual 190, 3) := by decide +kernel
theorem dX9_edge_8 : decode cX9_edge 8 = .ok (.ifCond .eq 19, 3) := by decide +kernel
theorem dX9_edge_11 : decode cX9_edge 11 = .ok (.aload_n 0, 1) := by decide +kernel
theorem dX9_edge_12 : decode cX9_edge 12 = .ok (.getfield 44, 3) := by decide +kernel
theorem dX9_edge_15 : decode cX9_edge 15 = .ok (.iload_n 2, 1) := by decide +kernel
theorem dX9_edge_16 : decode cX9_edge 16 = .ok (.invokevirtual 190, 3) := by decide +kernel
theorem dX9_edge_19 : decode cX9_edge 19 = .ok (.ifCond .eq 8, 3) := by decide +kernel
theorem dX9_edge_22 : decode cX9_edge 22 = .ok (.iload_n 1, 1) := by decide +kernel
theorem dX9_edge_23 : decode cX9_edge 23 = .ok (.iload_n 2, 1) := by decide +kernel
theorem dX9_edge_24 : decode cX9_edge 24 = .ok (.if_icmp .ne 6, 3) := by decide +kernel
theorem dX9_edge_27 : decode cX9_edge 27 = .ok (.bipush (-2), 2) := by decide +kernel
theorem dX9_edge_29 : decode cX9_edge 29 = .ok (.ireturn, 1) := by decide +kernel
theorem dX9_edge_30 : decode cX9_edge 30 = .ok (.iload_n 3, 1) := by decide +kernel
theorem dX9_edge_31 : decode cX9_edge 31 = .ok (.iconst 1, 1) := by decide +kernel
theorem dX9_edge_32 : decode cX9_edge 32 = .ok (.if_icmp .lt 9, 3) := by decide +kernel
theorem dX9_edge_35 : decode cX9_edge 35 = .ok (.iload_n 3, 1) := by decide +kernel
theorem dX9_edge_36 : decode cX9_edge 36 = .ok (.bipush 99, 2) := by decide +kernel
theorem dX9_edge_38 : decode cX9_edge 38 = .ok (.if_icmp .le 6, 3) := by decide +kernel
theorem dX9_edge_41 : decode cX9_edge 41 = .ok (.bipush (-3), 2) := by decide +kernel
theorem dX9_edge_43 : decode cX9_edge 43 = .ok (.ireturn, 1) := by decide +kernel
theorem dX9_edge_44 : decode cX9_edge 44 = .ok (.aload_n 0, 1) := by decide +kernel
theorem dX9_edge_45 : decode cX9_edge 45 = .ok (.getfield 44, 3) := by decide +kernel
theorem dX9_edge_48 : decode cX9_edge 48 = .ok (.iload_n 1, 1) := by decide +kernel
theorem dX9_edge_49 : decode cX9_edge 49 = .ok (.iload_n 2, 1) := by decide +kernel
theorem dX9_edge_50 : decode cX9_edge 50 = .ok (.iload_n 3, 1) := by decide +kernel
theorem dX9_edge_51 : decode cX9_edge 51 = .ok (.invokevirtual 193, 3) := by decide +kernel
theorem dX9_edge_54 : decode cX9_edge 54 = .ok (.ireturn, 1) := by decide +kernel
set_option maxRecDepth 20000 in
theorem ggX9_cord_X8_hasKnotsOf : GoodIn wsX9_cord wsX8_hasKnotsOf := goodIn_r _ [6, 7, 31, 32, 33, 34, 35, 36, 37, 38, 39] (by decide +kernel) (by decide +kernel)
set_option maxRecDepth 20000 in
theorem gX9_cord_X8_hasKnotsOf : GoodIn wsX9_cord (wsV RX9 196 RX8 yX8_hasKnotsOf wsX8_hasKnotsOf) := goodIn_app (goodIn_of _ (by decide +kernel)) ggX9_cord_X8_hasKnotsOf
set_option maxRecDepth 20000 in
theorem ggX9_cord_J6_bitCount_0f7a4 : GoodIn wsX9_cord wsJ6_bitCount_0f7a4 := goodIn_r _ [11, 12, 13, 14] (by decide +kernel) (by decide +kernel)
set_option maxRecDepth 20000 in
theorem gX9_cord_J6_bitCount_0f7a4 : GoodIn wsX9_cord (va_wsS RX9 199 yJ6_bitCount_0f7a4 wsJ6_bitCount_0f7a4) := goodIn_app (goodIn_of _ (by decide +kernel)) ggX9_cord_J6_bitCount_0f7a4
set_option maxRecDepth 20000 in
theorem ggX9_cord_X8_addCord : GoodIn wsX9_cord wsX8_addCord := goodIn_r _ [18, 19, 20, 31, 32, 33, 34, 35, 36, 37, 38, 39] (by decide +kernel) (by decide +kernel)
set_option maxRecDepth 20000 in
theorem gX9_cord_X8_addCord : GoodIn wsX9_cord (wsV RX9 204 RX8 yX8_addCord wsX8_addCord) := goodIn_app (goodIn_of _ (by decide +kernel)) ggX9_cord_X8_addCord
theorem dX9_cord_0 : decode cX9_cord 0 = .ok (.aload_n 0, 1) := by decide +kernel
theorem dX9_cord_1 : decode cX9_cord 1 = .ok (.getfield 44, 3) := by decide +kernel
theorem dX9_cord_4 : decode cX9_cord 4 = .ok (.iload_n 1, 1) := by decide +kernel
theorem dX9_cord_5 : decode cX9_cord 5 = .ok (.invokevirtual 196, 3) := by decide +kernel
theorem dX9_cord_8 : decode cX9_cord 8 = .ok (.ifCond .eq 11, 3) := by decide +kernel
theorem dX9_cord_11 : decode cX9_cord 11 = .ok (.iload_n 1, 1) := by decide +kernel
theorem dX9_cord_12 : decode cX9_cord 12 = .ok (.invokestatic 199, 3) := by decide +kernel
theorem dX9_cord_15 : decode cX9_cord 15 = .ok (.iconst 2, 1) := by decide +kernel
theorem dX9_cord_16 : decode cX9_cord 16 = .ok (.if_icmp .ge 6, 3) := by decide +kernel
theorem dX9_cord_19 : decode cX9_cord 19 = .ok (.bipush (-3), 2) := by decide +kernel
theorem dX9_cord_21 : decode cX9_cord 21 = .ok (.ireturn, 1) := by decide +kernel
theorem dX9_cord_22 : decode cX9_cord 22 = .ok (.aload_n 0, 1) := by decide +kernel
theorem dX9_cord_23 : decode cX9_cord 23 = .ok (.getfield 44, 3) := by decide +kernel
theorem dX9_cord_26 : decode cX9_cord 26 = .ok (.iload_n 1, 1) := by decide +kernel
theorem dX9_cord_27 : decode cX9_cord 27 = .ok (.invokevirtual 204, 3) := by decide +kernel
theorem dX9_cord_30 : decode cX9_cord 30 = .ok (.ireturn, 1) := by decide +kernel
set_option maxRecDepth 20000 in
theorem ggX9_measure_X9_isChoice : GoodIn wsX9_measure wsX9_isChoice := goodIn_r _ [5] (by decide +kernel) (by decide +kernel)
set_option maxRecDepth 20000 in
theorem gX9_measure_X9_isChoice : GoodIn wsX9_measure (va_wsS RX9 157 yX9_isChoice wsX9_isChoice) := goodIn_app (goodIn_of _ (by decide +kernel)) ggX9_measure_X9_isChoice
set_option maxRecDepth 20000 in
theorem ggX9_measure_X8_hasKnotsOf : GoodIn wsX9_measure wsX8_hasKnotsOf := goodIn_r _ [10, 11, 40, 41, 42, 43, 44, 45, 46, 47, 48] (by decide +kernel) (by decide +kernel)
set_option maxRecDepth 20000 in
theorem gX9_measure_X8_hasKnotsOf : GoodIn wsX9_measure (wsV RX9 196 RX8 yX8_hasKnotsOf wsX8_hasKnotsOf) := goodIn_app (goodIn_of _ (by decide +kernel)) ggX9_measure_X8_hasKnotsOf
set_option maxRecDepth 20000 in
theorem ggX9_measure_X8_measureOf : GoodIn wsX9_measure wsX8_measureOf := goodIn_r _ [15, 16, 17, 18, 9, 19, 20, 21, 22, 23, 24, 25, 26, 27, 28, 29, 40, 41, 42, 43, 44, 45, 46, 47, 48] (by decide +kernel) (by decide +kernel)
set_option maxRecDepth 20000 in
theorem gX9_measure_X8_measureOf : GoodIn wsX9_measure (wsV RX9 207 RX8 yX8_measureOf wsX8_measureOf) := goodIn_app (goodIn_of _ (by decide +kernel)) ggX9_measure_X8_measureOf
theorem dX9_measure_0 : decode cX9_measure 0 = .ok (.iload_n 1, 1) := by decide +kernel
theorem dX9_measure_1 : decode cX9_measure 1 = .ok (.invokestatic 157, 3) := by decide +kernel
theorem dX9_measure_4 : decode cX9_measure 4 = .ok (.ifCond .eq 26, 3) := by decide +kernel
theorem dX9_measure_7 : decode cX9_measure 7 = .ok (.aload_n 0, 1) := by decide +kernel
theorem dX9_measure_8 : decode cX9_measure 8 = .ok (.getfield 44, 3) := by decide +kernel
theorem dX9_measure_11 : decode cX9_measure 11 = .ok (.iload_n 2, 1) := by decide +kernel
theorem dX9_measure_12 : decode cX9_measure 12 = .ok (.invokevirtual 196, 3) := by decide +kernel
theorem dX9_measure_15 : decode cX9_measure 15 = .ok (.ifCond .eq 15, 3) := by decide +kernel
theorem dX9_measure_18 : decode cX9_measure 18 = .ok (.aload_n 0, 1) := by decide +kernel
theorem dX9_measure_19 : decode cX9_measure 19 = .ok (.getfield 44, 3) := by decide +kernel
theorem dX9_measure_22 : decode cX9_measure 22 = .ok (.iload_n 1, 1) := by decide +kernel
theorem dX9_measure_23 : decode cX9_measure 23 = .ok (.iload_n 2, 1) := by decide +kernel
theorem dX9_measure_24 : decode cX9_measure 24 = .ok (.invokevirtual 207, 3) := by decide +kernel
theorem dX9_measure_27 : decode cX9_measure 27 = .ok (.goto 5, 3) := by decide +kernel
theorem dX9_measure_30 : decode cX9_measure 30 = .ok (.bipush (-3), 2) := by decide +kernel
theorem dX9_measure_32 : decode cX9_measure 32 = .ok (.ireturn, 1) := by decide +kernel
set_option maxRecDepth 20000 in
theorem ggX9_expect_X9_isChoice : GoodIn wsX9_expect wsX9_isChoice := goodIn_r _ [5] (by decide +kernel) (by decide +kernel)
set_option maxRecDepth 20000 in
theorem gX9_expect_X9_isChoice : GoodIn wsX9_expect (va_wsS RX9 157 yX9_isChoice wsX9_isChoice) := goodIn_app (goodIn_of _ (by decide +kernel)) ggX9_expect_X9_isChoice
set_option maxRecDepth 20000 in
theorem ggX9_expect_X9_isPart : GoodIn wsX9_expect wsX9_isPart := goodIn_r _ [8] (by decide +kernel) (by decide +kernel)
set_option maxRecDepth 20000 in
theorem gX9_expect_X9_isPart : GoodIn wsX9_expect (va_wsS RX9 133 yX9_isPart wsX9_isPart) := goodIn_app (goodIn_of _ (by decide +kernel)) ggX9_expect_X9_isPart
set_option maxRecDepth 20000 in
theorem ggX9_expect_X8_hasKnotsOf : GoodIn wsX9_expect wsX8_hasKnotsOf := goodIn_r _ [13, 14, 56, 57, 58, 59, 60, 61, 62, 63, 64] (by decide +kernel) (by decide +kernel)
set_option maxRecDepth 20000 in
theorem gX9_expect_X8_hasKnotsOf : GoodIn wsX9_expect (wsV RX9 196 RX8 yX8_hasKnotsOf wsX8_hasKnotsOf) := goodIn_app (goodIn_of _ (by decide +kernel)) ggX9_expect_X8_hasKnotsOf
set_option maxRecDepth 20000 in
theorem ggX9_expect_X8_meanAbove : GoodIn wsX9_expect wsX8_meanAbove := goodIn_r _ [18, 19, 20, 21, 12, 22, 23, 24, 25, 26, 27, 28, 29, 30, 31, 32, 33, 34, 35, 36, 37, 38, 39, 56, 57, 58, 59, 60, 61, 62, 63, 64] (by decide +kernel) (by decide +kernel)
set_option maxRecDepth 20000 in
theorem gX9_expect_X8_meanAbove : GoodIn wsX9_expect (wsV RX9 210 RX8 yX8_meanAbove wsX8_meanAbove) := goodIn_app (goodIn_of _ (by decide +kernel)) ggX9_expect_X8_meanAbove
set_option maxRecDepth 20000 in
theorem ggX9_expect_X8_meanBelow : GoodIn wsX9_expect wsX8_meanBelow := goodIn_r _ [42] (by decide +kernel) (by decide +kernel)
set_option maxRecDepth 20000 in
theorem gX9_expect_X8_meanBelow : GoodIn wsX9_expect (va_wsS RX9 213 yX8_meanBelow wsX8_meanBelow) := goodIn_app (goodIn_of _ (by decide +kernel)) ggX9_expect_X8_meanBelow
set_option maxRecDepth 20000 in
theorem ggX9_expect_X9_lowest : GoodIn wsX9_expect wsX9_lowest := goodIn_r _ [45] (by decide +kernel) (by decide +kernel)
set_option maxRecDepth 20000 in
theorem gX9_expect_X9_lowest : GoodIn wsX9_expect (va_wsS RX9 144 yX9_lowest wsX9_lowest) := goodIn_app (goodIn_of _ (by decide +kernel)) ggX9_expect_X9_lowest
theorem dX9_expect_0 : decode cX9_expect 0 = .ok (.iload_n 1, 1) := by decide +kernel
theorem dX9_expect_1 : decode cX9_expect 1 = .ok (.invokestatic 157, 3) := by decide +kernel
theorem dX9_expect_4 : decode cX9_expect 4 = .ok (.ifCond .eq 30, 3) := by decide +kernel
theorem dX9_expect_7 : decode cX9_expect 7 = .ok (.iload 4, 2) := by decide +kernel
theorem dX9_expect_9 : decode cX9_expect 9 = .ok (.invokestatic 133, 3) := by decide +kernel
theorem dX9_expect_12 : decode cX9_expect 12 = .ok (.ifCond .eq 22, 3) := by decide +kernel
theorem dX9_expect_15 : decode cX9_expect 15 = .ok (.aload_n 0, 1) := by decide +kernel
theorem dX9_expect_16 : decode cX9_expect 16 = .ok (.getfield 44, 3) := by decide +kernel
theorem dX9_expect_19 : decode cX9_expect 19 = .ok (.iload_n 2, 1) := by decide +kernel
theorem dX9_expect_20 : decode cX9_expect 20 = .ok (.invokevirtual 196, 3) := by decide +kernel
theorem dX9_expect_23 : decode cX9_expect 23 = .ok (.ifCond .eq 11, 3) := by decide +kernel
theorem dX9_expect_26 : decode cX9_expect 26 = .ok (.iload_n 3, 1) := by decide +kernel
theorem dX9_expect_27 : decode cX9_expect 27 = .ok (.iload_n 2, 1) := by decide +kernel
theorem dX9_expect_28 : decode cX9_expect 28 = .ok (.iconst (-1), 1) := by decide +kernel
theorem dX9_expect_29 : decode cX9_expect 29 = .ok (.ixor, 1) := by decide +kernel
theorem dX9_expect_30 : decode cX9_expect 30 = .ok (.iand, 1) := by decide +kernel
theorem dX9_expect_31 : decode cX9_expect 31 = .ok (.ifCond .eq 6, 3) := by decide +kernel
theorem dX9_expect_34 : decode cX9_expect 34 = .ok (.bipush (-3), 2) := by decide +kernel
theorem dX9_expect_36 : decode cX9_expect 36 = .ok (.ireturn, 1) := by decide +kernel
theorem dX9_expect_37 : decode cX9_expect 37 = .ok (.aload_n 0, 1) := by decide +kernel
theorem dX9_expect_38 : decode cX9_expect 38 = .ok (.getfield 44, 3) := by decide +kernel
theorem dX9_expect_41 : decode cX9_expect 41 = .ok (.iload_n 1, 1) := by decide +kernel
theorem dX9_expect_42 : decode cX9_expect 42 = .ok (.iload_n 2, 1) := by decide +kernel
theorem dX9_expect_43 : decode cX9_expect 43 = .ok (.iload_n 3, 1) := by decide +kernel
theorem dX9_expect_44 : decode cX9_expect 44 = .ok (.invokevirtual 210, 3) := by decide +kernel
theorem dX9_expect_47 : decode cX9_expect 47 = .ok (.iload_n 1, 1) := by decide +kernel
theorem dX9_expect_48 : decode cX9_expect 48 = .ok (.invokestatic 213, 3) := by decide +kernel
theorem dX9_expect_51 : decode cX9_expect 51 = .ok (.iload 4, 2) := by decide +kernel
theorem dX9_expect_53 : decode cX9_expect 53 = .ok (.invokestatic 144, 3) := by decide +kernel
theorem dX9_expect_56 : decode cX9_expect 56 = .ok (.ireturn, 1) := by decide +kernel
set_option maxRecDepth 20000 in
theorem ggX9_byMeans_X9_isChoice : GoodIn wsX9_byMeans wsX9_isChoice := goodIn_r _ [5] (by decide +kernel) (by decide +kernel)
set_option maxRecDepth 20000 in
theorem gX9_byMeans_X9_isChoice : GoodIn wsX9_byMeans (va_wsS RX9 157 yX9_isChoice wsX9_isChoice) := goodIn_app (goodIn_of _ (by decide +kernel)) ggX9_byMeans_X9_isChoice
set_option maxRecDepth 20000 in
theorem ggX9_byMeans_X8_sidesByMeans : GoodIn wsX9_byMeans wsX8_sidesByMeans := goodIn_r _ [10, 11, 12, 13, 14, 9, 15, 16, 17, 18, 19, 20, 21, 22, 23, 24, 25, 26, 27, 28, 29, 30, 31, 32, 33, 34, 35, 36, 37, 38, 39, 50, 51, 52, 53, 54, 55, 56, 57, 58] (by decide +kernel) (by decide +kernel)
set_option maxRecDepth 20000 in
theorem gX9_byMeans_X8_sidesByMeans : GoodIn wsX9_byMeans (wsV RX9 216 RX8 yX8_sidesByMeans wsX8_sidesByMeans) := goodIn_app (goodIn_of _ (by decide +kernel)) ggX9_byMeans_X8_sidesByMeans
theorem dX9_byMeans_0 : decode cX9_byMeans 0 = .ok (.iload_n 1, 1) := by decide +kernel
theorem dX9_byMeans_1 : decode cX9_byMeans 1 = .ok (.invokestatic 157, 3) := by decide +kernel
theorem dX9_byMeans_4 : decode cX9_byMeans 4 = .ok (.ifCond .eq 14, 3) := by decide +kernel
theorem dX9_byMeans_7 : decode cX9_byMeans 7 = .ok (.aload_n 0, 1) := by decide +kernel
theorem dX9_byMeans_8 : decode cX9_byMeans 8 = .ok (.getfield 44, 3) := by decide +kernel
theorem dX9_byMeans_11 : decode cX9_byMeans 11 = .ok (.iload_n 1, 1) := by decide +kernel
theorem dX9_byMeans_12 : decode cX9_byMeans 12 = .ok (.invokevirtual 216, 3) := by decide +kernel
theorem dX9_byMeans_15 : decode cX9_byMeans 15 = .ok (.goto 5, 3) := by decide +kernel
theorem dX9_byMeans_18 : decode cX9_byMeans 18 = .ok (.bipush (-3), 2) := by decide +kernel
theorem dX9_byMeans_20 : decode cX9_byMeans 20 = .ok (.ireturn, 1) := by decide +kernel
set_option maxRecDepth 20000 in
theorem ggX9_best_X9_isChoice : GoodIn wsX9_best wsX9_isChoice := goodIn_r _ [5] (by decide +kernel) (by decide +kernel)
set_option maxRecDepth 20000 in
theorem gX9_best_X9_isChoice : GoodIn wsX9_best (va_wsS RX9 157 yX9_isChoice wsX9_isChoice) := goodIn_app (goodIn_of _ (by decide +kernel)) ggX9_best_X9_isChoice
set_option maxRecDepth 20000 in
theorem ggX9_best_X8_bestSides : GoodIn wsX9_best wsX8_bestSides := goodIn_r _ [10, 11, 12, 13, 14, 9, 15, 16, 17, 18, 19, 20, 21, 22, 23, 24, 25, 26, 27, 28, 29, 30, 31, 32, 43, 44, 45, 46, 47, 48, 49, 50, 51] (by decide +kernel) (by decide +kernel)
set_option maxRecDepth 20000 in
theorem gX9_best_X8_bestSides : GoodIn wsX9_best (wsV RX9 219 RX8 yX8_bestSides wsX8_bestSides) := goodIn_app (goodIn_of _ (by decide +kernel)) ggX9_best_X8_bestSides
theorem dX9_best_0 : decode cX9_best 0 = .ok (.iload_n 1, 1) := by decide +kernel
theorem dX9_best_1 : decode cX9_best 1 = .ok (.invokestatic 157, 3) := by decide +kernel
theorem dX9_best_4 : decode cX9_best 4 = .ok (.ifCond .eq 14, 3) := by decide +kernel
theorem dX9_best_7 : decode cX9_best 7 = .ok (.aload_n 0, 1) := by decide +kernel
theorem dX9_best_8 : decode cX9_best 8 = .ok (.getfield 44, 3) := by decide +kernel
theorem dX9_best_11 : decode cX9_best 11 = .ok (.iload_n 1, 1) := by decide +kernel
theorem dX9_best_12 : decode cX9_best 12 = .ok (.invokevirtual 219, 3) := by decide +kernel
theorem dX9_best_15 : decode cX9_best 15 = .ok (.goto 5, 3) := by decide +kernel
theorem dX9_best_18 : decode cX9_best 18 = .ok (.bipush (-3), 2) := by decide +kernel
theorem dX9_best_20 : decode cX9_best 20 = .ok (.ireturn, 1) := by decide +kernel
set_option maxRecDepth 20000 in
theorem ggX9_heap_X8_hasKnotsOf : GoodIn wsX9_heap wsX8_hasKnotsOf := goodIn_r _ [7, 8, 26, 27, 28, 29, 30, 31, 32, 33, 34] (by decide +kernel) (by decide +kernel)
set_option maxRecDepth 20000 in
theorem gX9_heap_X8_hasKnotsOf : GoodIn wsX9_heap (wsV RX9 196 RX8 yX8_hasKnotsOf wsX8_hasKnotsOf) := goodIn_app (goodIn_of _ (by decide +kernel)) ggX9_heap_X8_hasKnotsOf
set_option maxRecDepth 20000 in
theorem ggX9_heap_X0_add : GoodIn wsX9_heap wsX0_add := goodIn_r _ [13, 14, 15, 35, 36] (by decide +kernel) (by decide +kernel)
set_option maxRecDepth 20000 in
theorem gX9_heap_X0_add : GoodIn wsX9_heap (wsV RX9 222 RX0 yX0_add wsX0_add) := goodIn_app (goodIn_of _ (by decide +kernel)) ggX9_heap_X0_add
theorem dX9_heap_0 : decode cX9_heap 0 = .ok (.aload_n 0, 1) := by decide +kernel
theorem dX9_heap_1 : decode cX9_heap 1 = .ok (.getfield 44, 3) := by decide +kernel
theorem dX9_heap_4 : decode cX9_heap 4 = .ok (.iload_n 1, 1) := by decide +kernel
theorem dX9_heap_5 : decode cX9_heap 5 = .ok (.invokevirtual 196, 3) := by decide +kernel
theorem dX9_heap_8 : decode cX9_heap 8 = .ok (.ifCond .eq 14, 3) := by decide +kernel
theorem dX9_heap_11 : decode cX9_heap 11 = .ok (.aload_n 0, 1) := by decide +kernel
theorem dX9_heap_12 : decode cX9_heap 12 = .ok (.getfield 51, 3) := by decide +kernel
theorem dX9_heap_15 : decode cX9_heap 15 = .ok (.iload_n 1, 1) := by decide +kernel
theorem dX9_heap_16 : decode cX9_heap 16 = .ok (.invokevirtual 222, 3) := by decide +kernel
theorem dX9_heap_19 : decode cX9_heap 19 = .ok (.goto 5, 3) := by decide +kernel
theorem dX9_heap_22 : decode cX9_heap 22 = .ok (.bipush (-3), 2) := by decide +kernel
theorem dX9_heap_24 : decode cX9_heap 24 = .ok (.ireturn, 1) := by decide +kernel
set_option maxRecDepth 20000 in
theorem ggX9_made_X0_make : GoodIn wsX9_made wsX0_make := goodIn_r _ [9, 10, 11, 12, 8, 13, 14, 15, 16, 17, 18, 19, 20, 21, 22, 23, 24, 25, 45, 46] (by decide +kernel) (by decide +kernel)
set_option maxRecDepth 20000 in
theorem gX9_made_X0_make : GoodIn wsX9_made (wsV RX9 225 RX0 yX0_make wsX0_make) := goodIn_app (goodIn_of _ (by decide +kernel)) ggX9_made_X0_make
theorem dX9_made_0 : decode cX9_made 0 = .ok (.iload_n 1, 1) := by decide +kernel
theorem dX9_made_1 : decode cX9_made 1 = .ok (.iconst 2, 1) := by decide +kernel
theorem dX9_made_2 : decode cX9_made 2 = .ok (.if_icmp .eq 11, 3) := by decide +kernel
theorem dX9_made_5 : decode cX9_made 5 = .ok (.iload_n 1, 1) := by decide +kernel
theorem dX9_made_6 : decode cX9_made 6 = .ok (.iconst 3, 1) := by decide +kernel
theorem dX9_made_7 : decode cX9_made 7 = .ok (.if_icmp .eq 6, 3) := by decide +kernel
theorem dX9_made_10 : decode cX9_made 10 = .ok (.bipush (-3), 2) := by decide +kernel
theorem dX9_made_12 : decode cX9_made 12 = .ok (.ireturn, 1) := by decide +kernel
theorem dX9_made_13 : decode cX9_made 13 = .ok (.aload_n 0, 1) := by decide +kernel
theorem dX9_made_14 : decode cX9_made 14 = .ok (.getfield 51, 3) := by decide +kernel
theorem dX9_made_17 : decode cX9_made 17 = .ok (.aload_n 0, 1) := by decide +kernel
theorem dX9_made_18 : decode cX9_made 18 = .ok (.getfield 44, 3) := by decide +kernel
theorem dX9_made_21 : decode cX9_made 21 = .ok (.getfield 224, 3) := by decide +kernel
theorem dX9_made_24 : decode cX9_made 24 = .ok (.iload_n 1, 1) := by decide +kernel
theorem dX9_made_25 : decode cX9_made 25 = .ok (.iconst 3, 1) := by decide +kernel
theorem dX9_made_26 : decode cX9_made 26 = .ok (.if_icmp .ne 7, 3) := by decide +kernel
theorem dX9_made_29 : decode cX9_made 29 = .ok (.iconst 1, 1) := by decide +kernel
theorem dX9_made_30 : decode cX9_made 30 = .ok (.goto 4, 3) := by decide +kernel
theorem dX9_made_33 : decode cX9_made 33 = .ok (.iconst 0, 1) := by decide +kernel
theorem dX9_made_34 : decode cX9_made 34 = .ok (.invokevirtual 225, 3) := by decide +kernel
theorem dX9_made_37 : decode cX9_made 37 = .ok (.aload_n 0, 1) := by decide +kernel
theorem dX9_made_38 : decode cX9_made 38 = .ok (.getfield 51, 3) := by decide +kernel
theorem dX9_made_41 : decode cX9_made 41 = .ok (.getfield 187, 3) := by decide +kernel
theorem dX9_made_44 : decode cX9_made 44 = .ok (.ireturn, 1) := by decide +kernel
set_option maxRecDepth 20000 in
theorem ggX9_of_X9_isChoice : GoodIn wsX9_of wsX9_isChoice := goodIn_r _ [6] (by decide +kernel) (by decide +kernel)
set_option maxRecDepth 20000 in
theorem gX9_of_X9_isChoice : GoodIn wsX9_of (va_wsS RX9 157 yX9_isChoice wsX9_isChoice) := goodIn_app (goodIn_of _ (by decide +kernel)) ggX9_of_X9_isChoice
set_option maxRecDepth 20000 in
theorem ggX9_of_X0_bestBy : GoodIn wsX9_of wsX0_bestBy := goodIn_r _ [11, 12, 13, 14, 15, 16, 17, 18, 19, 20, 21, 22, 23, 24, 25, 26, 27, 28, 29, 30, 31, 32, 33, 34, 35, 46, 47, 48, 49, 50, 51, 52, 53, 54, 55, 56] (by decide +kernel) (by decide +kernel)
set_option maxRecDepth 20000 in
theorem gX9_of_X0_bestBy : GoodIn wsX9_of (wsV RX9 229 RX0 yX0_bestBy wsX0_bestBy) := goodIn_app (goodIn_of _ (by decide +kernel)) ggX9_of_X0_bestBy
theorem dX9_of_0 : decode cX9_of 0 = .ok (.iload_n 1, 1) := by decide +kernel
theorem dX9_of_1 : decode cX9_of 1 = .ok (.invokestatic 157, 3) := by decide +kernel
theorem dX9_of_4 : decode cX9_of 4 = .ok (.ifCond .eq 18, 3) := by decide +kernel
theorem dX9_of_7 : decode cX9_of 7 = .ok (.aload_n 0, 1) := by decide +kernel
theorem dX9_of_8 : decode cX9_of 8 = .ok (.getfield 51, 3) := by decide +kernel
theorem dX9_of_11 : decode cX9_of 11 = .ok (.aload_n 0, 1) := by decide +kernel
theorem dX9_of_12 : decode cX9_of 12 = .ok (.getfield 44, 3) := by decide +kernel
theorem dX9_of_15 : decode cX9_of 15 = .ok (.iload_n 1, 1) := by decide +kernel
theorem dX9_of_16 : decode cX9_of 16 = .ok (.invokevirtual 229, 3) := by decide +kernel
theorem dX9_of_19 : decode cX9_of 19 = .ok (.goto 5, 3) := by decide +kernel
theorem dX9_of_22 : decode cX9_of 22 = .ok (.bipush (-3), 2) := by decide +kernel
theorem dX9_of_24 : decode cX9_of 24 = .ok (.ireturn, 1) := by decide +kernel
set_option maxRecDepth 20000 in
theorem ggX9_even_X0_greatestLean : GoodIn wsX9_even wsX0_greatestLean := goodIn_r _ [9, 10, 11, 12, 13, 14, 15, 16, 17, 18, 19, 20, 21, 22, 23, 8, 24, 25, 26, 27, 28, 29, 49, 50] (by decide +kernel) (by decide +kernel)
set_option maxRecDepth 20000 in
theorem gX9_even_X0_greatestLean : GoodIn wsX9_even (wsV RX9 233 RX0 yX0_greatestLean wsX0_greatestLean) := goodIn_app (goodIn_of _ (by decide +kernel)) ggX9_even_X0_greatestLean
theorem dX9_even_0 : decode cX9_even 0 = .ok (.iload_n 1, 1) := by decide +kernel
theorem dX9_even_1 : decode cX9_even 1 = .ok (.iconst 1, 1) := by decide +kernel
theorem dX9_even_2 : decode cX9_even 2 = .ok (.if_icmp .lt 19, 3) := by decide +kernel
theorem dX9_even_5 : decode cX9_even 5 = .ok (.iload_n 1, 1) := by decide +kernel
theorem dX9_even_6 : decode cX9_even 6 = .ok (.iconst 3, 1) := by decide +kernel
theorem dX9_even_7 : decode cX9_even 7 = .ok (.if_icmp .gt 14, 3) := by decide +kernel
theorem dX9_even_10 : decode cX9_even 10 = .ok (.iload_n 1, 1) := by decide +kernel
theorem dX9_even_11 : decode cX9_even 11 = .ok (.aload_n 0, 1) := by decide +kernel
theorem dX9_even_12 : decode cX9_even 12 = .ok (.getfield 44, 3) := by decide +kernel
theorem dX9_even_15 : decode cX9_even 15 = .ok (.getfield 224, 3) := by decide +kernel
theorem dX9_even_18 : decode cX9_even 18 = .ok (.if_icmp .le 6, 3) := by decide +kernel
theorem dX9_even_21 : decode cX9_even 21 = .ok (.bipush (-3), 2) := by decide +kernel
theorem dX9_even_23 : decode cX9_even 23 = .ok (.ireturn, 1) := by decide +kernel
theorem dX9_even_24 : decode cX9_even 24 = .ok (.aload_n 0, 1) := by decide +kernel
theorem dX9_even_25 : decode cX9_even 25 = .ok (.getfield 51, 3) := by decide +kernel
theorem dX9_even_28 : decode cX9_even 28 = .ok (.getfield 187, 3) := by decide +kernel
theorem dX9_even_31 : decode cX9_even 31 = .ok (.ifCond .ne 6, 3) := by decide +kernel
theorem dX9_even_34 : decode cX9_even 34 = .ok (.bipush (-4), 2) := by decide +kernel
theorem dX9_even_36 : decode cX9_even 36 = .ok (.ireturn, 1) := by decide +kernel
theorem dX9_even_37 : decode cX9_even 37 = .ok (.aload_n 0, 1) := by decide +kernel
theorem dX9_even_38 : decode cX9_even 38 = .ok (.getfield 51, 3) := by decide +kernel
theorem dX9_even_41 : decode cX9_even 41 = .ok (.aload_n 0, 1) := by decide +kernel
theorem dX9_even_42 : decode cX9_even 42 = .ok (.getfield 44, 3) := by decide +kernel
theorem dX9_even_45 : decode cX9_even 45 = .ok (.getfield 224, 3) := by decide +kernel
theorem dX9_even_48 : decode cX9_even 48 = .ok (.iload_n 1, 1) := by decide +kernel
theorem dX9_even_49 : decode cX9_even 49 = .ok (.invokevirtual 233, 3) := by decide +kernel
theorem dX9_even_52 : decode cX9_even 52 = .ok (.ifCond .ne 7, 3) := by decide +kernel
theorem dX9_even_55 : decode cX9_even 55 = .ok (.iconst 1, 1) := by decide +kernel
theorem dX9_even_56 : decode cX9_even 56 = .ok (.goto 4, 3) := by decide +kernel
theorem dX9_even_59 : decode cX9_even 59 = .ok (.iconst 0, 1) := by decide +kernel
theorem dX9_even_60 : decode cX9_even 60 = .ok (.ireturn, 1) := by decide +kernel
set_option maxRecDepth 20000 in
theorem ggX9_error_X9_isPart : GoodIn wsX9_error wsX9_isPart := goodIn_r _ [8] (by decide +kernel) (by decide +kernel)
set_option maxRecDepth 20000 in
theorem gX9_error_X9_isPart : GoodIn wsX9_error (va_wsS RX9 133 yX9_isPart wsX9_isPart) := goodIn_app (goodIn_of _ (by decide +kernel)) ggX9_error_X9_isPart
set_option maxRecDepth 20000 in
theorem ggX9_error_X0_greatestLean : GoodIn wsX9_error wsX0_greatestLean := goodIn_r _ [13, 14, 15, 16, 17, 18, 19, 20, 21, 22, 23, 24, 25, 26, 27, 12, 28, 29, 30, 31, 32, 33, 47, 48] (by decide +kernel) (by decide +kernel)
set_option maxRecDepth 20000 in
theorem gX9_error_X0_greatestLean : GoodIn wsX9_error (wsV RX9 233 RX0 yX0_greatestLean wsX0_greatestLean) := goodIn_app (goodIn_of _ (by decide +kernel)) ggX9_error_X0_greatestLean
set_option maxRecDepth 20000 in
theorem ggX9_error_X9_lowest : GoodIn wsX9_error wsX9_lowest := goodIn_r _ [36] (by decide +kernel) (by decide +kernel)
set_option maxRecDepth 20000 in
theorem gX9_error_X9_lowest : GoodIn wsX9_error (va_wsS RX9 144 yX9_lowest wsX9_lowest) := goodIn_app (goodIn_of _ (by decide +kernel)) ggX9_error_X9_lowest
theorem dX9_error_0 : decode cX9_error 0 = .ok (.iload_n 1, 1) := by decide +kernel
theorem dX9_error_1 : decode cX9_error 1 = .ok (.iconst 1, 1) := by decide +kernel
theorem dX9_error_2 : decode cX9_error 2 = .ok (.if_icmp .lt 16, 3) := by decide +kernel
theorem dX9_error_5 : decode cX9_error 5 = .ok (.iload_n 1, 1) := by decide +kernel
theorem dX9_error_6 : decode cX9_error 6 = .ok (.bipush 8, 2) := by decide +kernel
theorem dX9_error_8 : decode cX9_error 8 = .ok (.if_icmp .gt 10, 3) := by decide +kernel
theorem dX9_error_11 : decode cX9_error 11 = .ok (.iload_n 2, 1) := by decide +kernel
theorem dX9_error_12 : decode cX9_error 12 = .ok (.invokestatic 133, 3) := by decide +kernel
theorem dX9_error_15 : decode cX9_error 15 = .ok (.ifCond .ne 6, 3) := by decide +kernel
theorem dX9_error_18 : decode cX9_error 18 = .ok (.bipush (-3), 2) := by decide +kernel
theorem dX9_error_20 : decode cX9_error 20 = .ok (.ireturn, 1) := by decide +kernel
theorem dX9_error_21 : decode cX9_error 21 = .ok (.aload_n 0, 1) := by decide +kernel
theorem dX9_error_22 : decode cX9_error 22 = .ok (.getfield 51, 3) := by decide +kernel
theorem dX9_error_25 : decode cX9_error 25 = .ok (.getfield 187, 3) := by decide +kernel
theorem dX9_error_28 : decode cX9_error 28 = .ok (.ifCond .ne 6, 3) := by decide +kernel
theorem dX9_error_31 : decode cX9_error 31 = .ok (.bipush (-4), 2) := by decide +kernel
theorem dX9_error_33 : decode cX9_error 33 = .ok (.ireturn, 1) := by decide +kernel
theorem dX9_error_34 : decode cX9_error 34 = .ok (.aload_n 0, 1) := by decide +kernel
theorem dX9_error_35 : decode cX9_error 35 = .ok (.getfield 51, 3) := by decide +kernel
theorem dX9_error_38 : decode cX9_error 38 = .ok (.aload_n 0, 1) := by decide +kernel
theorem dX9_error_39 : decode cX9_error 39 = .ok (.getfield 44, 3) := by decide +kernel
theorem dX9_error_42 : decode cX9_error 42 = .ok (.getfield 224, 3) := by decide +kernel
theorem dX9_error_45 : decode cX9_error 45 = .ok (.iload_n 1, 1) := by decide +kernel
theorem dX9_error_46 : decode cX9_error 46 = .ok (.invokevirtual 233, 3) := by decide +kernel
theorem dX9_error_49 : decode cX9_error 49 = .ok (.aload_n 0, 1) := by decide +kernel
theorem dX9_error_50 : decode cX9_error 50 = .ok (.getfield 51, 3) := by decide +kernel
theorem dX9_error_53 : decode cX9_error 53 = .ok (.getfield 187, 3) := by decide +kernel
theorem dX9_error_56 : decode cX9_error 56 = .ok (.iload_n 2, 1) := by decide +kernel
theorem dX9_error_57 : decode cX9_error 57 = .ok (.invokestatic 144, 3) := by decide +kernel
theorem dX9_error_60 : decode cX9_error 60 = .ok (.ireturn, 1) := by decide +kernel
set_option maxRecDepth 20000 in
theorem ggX9_least_X9_isRatio : GoodIn wsX9_least wsX9_isRatio := goodIn_r _ [5] (by decide +kernel) (by decide +kernel)
set_option maxRecDepth 20000 in
theorem gX9_least_X9_isRatio : GoodIn wsX9_least (va_wsS RX9 175 yX9_isRatio wsX9_isRatio) := goodIn_app (goodIn_of _ (by decide +kernel)) ggX9_least_X9_isRatio
set_option maxRecDepth 20000 in
theorem ggX9_least_X4_leastHeap : GoodIn wsX9_least wsX4_leastHeap := goodIn_r _ [10, 11, 12, 9, 13, 14, 15, 16, 17, 18, 19, 20, 21, 22, 23, 24, 25, 26, 27, 28, 29, 30, 31, 32, 33, 34, 35, 36, 37, 38, 39, 40, 41, 42, 53] (by decide +kernel) (by decide +kernel)
set_option maxRecDepth 20000 in
theorem gX9_least_X4_leastHeap : GoodIn wsX9_least (wsV RX9 236 RX4 yX4_leastHeap wsX4_leastHeap) := goodIn_app (goodIn_of _ (by decide +kernel)) ggX9_least_X4_leastHeap
theorem dX9_least_0 : decode cX9_least 0 = .ok (.iload_n 1, 1) := by decide +kernel
theorem dX9_least_1 : decode cX9_least 1 = .ok (.iconst 1, 1) := by decide +kernel
theorem dX9_least_2 : decode cX9_least 2 = .ok (.if_icmp .lt 27, 3) := by decide +kernel
theorem dX9_least_5 : decode cX9_least 5 = .ok (.iload_n 1, 1) := by decide +kernel
theorem dX9_least_6 : decode cX9_least 6 = .ok (.iconst 4, 1) := by decide +kernel
theorem dX9_least_7 : decode cX9_least 7 = .ok (.if_icmp .gt 22, 3) := by decide +kernel
theorem dX9_least_10 : decode cX9_least 10 = .ok (.iload_n 2, 1) := by decide +kernel
theorem dX9_least_11 : decode cX9_least 11 = .ok (.iconst 1, 1) := by decide +kernel
theorem dX9_least_12 : decode cX9_least 12 = .ok (.if_icmp .lt 17, 3) := by decide +kernel
theorem dX9_least_15 : decode cX9_least 15 = .ok (.iload_n 2, 1) := by decide +kernel
theorem dX9_least_16 : decode cX9_least 16 = .ok (.iconst 4, 1) := by decide +kernel
theorem dX9_least_17 : decode cX9_least 17 = .ok (.if_icmp .gt 12, 3) := by decide +kernel
theorem dX9_least_20 : decode cX9_least 20 = .ok (.iload_n 3, 1) := by decide +kernel
theorem dX9_least_21 : decode cX9_least 21 = .ok (.iload 4, 2) := by decide +kernel
theorem dX9_least_23 : decode cX9_least 23 = .ok (.invokestatic 175, 3) := by decide +kernel
theorem dX9_least_26 : decode cX9_least 26 = .ok (.ifCond .ne 6, 3) := by decide +kernel
theorem dX9_least_29 : decode cX9_least 29 = .ok (.bipush (-3), 2) := by decide +kernel
theorem dX9_least_31 : decode cX9_least 31 = .ok (.ireturn, 1) := by decide +kernel
theorem dX9_least_32 : decode cX9_least 32 = .ok (.aload_n 0, 1) := by decide +kernel
theorem dX9_least_33 : decode cX9_least 33 = .ok (.getfield 58, 3) := by decide +kernel
theorem dX9_least_36 : decode cX9_least 36 = .ok (.iload_n 1, 1) := by decide +kernel
theorem dX9_least_37 : decode cX9_least 37 = .ok (.iload_n 2, 1) := by decide +kernel
theorem dX9_least_38 : decode cX9_least 38 = .ok (.iload_n 3, 1) := by decide +kernel
theorem dX9_least_39 : decode cX9_least 39 = .ok (.iload 4, 2) := by decide +kernel
theorem dX9_least_41 : decode cX9_least 41 = .ok (.invokevirtual 236, 3) := by decide +kernel
theorem dX9_least_44 : decode cX9_least 44 = .ok (.ireturn, 1) := by decide +kernel
set_option maxRecDepth 20000 in
theorem ggX9_walks_X8_hasKnotsOf : GoodIn wsX9_walks wsX8_hasKnotsOf := goodIn_r _ [6, 7, 40, 41, 42, 43, 44, 45, 46, 47, 48] (by decide +kernel) (by decide +kernel)
set_option maxRecDepth 20000 in
theorem gX9_walks_X8_hasKnotsOf : GoodIn wsX9_walks (wsV RX9 196 RX8 yX8_hasKnotsOf wsX8_hasKnotsOf) := goodIn_app (goodIn_of _ (by decide +kernel)) ggX9_walks_X8_hasKnotsOf
set_option maxRecDepth 20000 in
theorem ggX9_walks_X8_walkCount : GoodIn wsX9_walks wsX8_walkCount := goodIn_r _ [11, 12, 13, 14, 15, 16, 17, 18, 19, 20, 5, 21, 22, 23, 24, 25, 26, 27, 28, 29, 40, 41, 42, 43, 44, 45, 46, 47, 48] (by decide +kernel) (by decide +kernel)
set_option maxRecDepth 20000 in
theorem gX9_walks_X8_walkCount : GoodIn wsX9_walks (wsV RX9 240 RX8 yX8_walkCount wsX8_walkCount) := goodIn_app (goodIn_of _ (by decide +kernel)) ggX9_walks_X8_walkCount
theorem dX9_walks_0 : decode cX9_walks 0 = .ok (.aload_n 0, 1) := by decide +kernel
theorem dX9_walks_1 : decode cX9_walks 1 = .ok (.getfield 44, 3) := by decide +kernel
theorem dX9_walks_4 : decode cX9_walks 4 = .ok (.iload_n 1, 1) := by decide +kernel
theorem dX9_walks_5 : decode cX9_walks 5 = .ok (.invokevirtual 196, 3) := by decide +kernel
theorem dX9_walks_8 : decode cX9_walks 8 = .ok (.ifCond .eq 25, 3) := by decide +kernel
theorem dX9_walks_11 : decode cX9_walks 11 = .ok (.iload_n 2, 1) := by decide +kernel
theorem dX9_walks_12 : decode cX9_walks 12 = .ok (.ifCond .lt 21, 3) := by decide +kernel
theorem dX9_walks_15 : decode cX9_walks 15 = .ok (.iload_n 2, 1) := by decide +kernel
theorem dX9_walks_16 : decode cX9_walks 16 = .ok (.bipush 8, 2) := by decide +kernel
theorem dX9_walks_18 : decode cX9_walks 18 = .ok (.if_icmp .gt 15, 3) := by decide +kernel
theorem dX9_walks_21 : decode cX9_walks 21 = .ok (.aload_n 0, 1) := by decide +kernel
theorem dX9_walks_22 : decode cX9_walks 22 = .ok (.getfield 44, 3) := by decide +kernel
theorem dX9_walks_25 : decode cX9_walks 25 = .ok (.iload_n 1, 1) := by decide +kernel
theorem dX9_walks_26 : decode cX9_walks 26 = .ok (.iload_n 2, 1) := by decide +kernel
theorem dX9_walks_27 : decode cX9_walks 27 = .ok (.invokevirtual 240, 3) := by decide +kernel
theorem dX9_walks_30 : decode cX9_walks 30 = .ok (.goto 5, 3) := by decide +kernel
theorem dX9_walks_33 : decode cX9_walks 33 = .ok (.bipush (-3), 2) := by decide +kernel
theorem dX9_walks_35 : decode cX9_walks 35 = .ok (.ireturn, 1) := by decide +kernel
set_option maxRecDepth 20000 in
theorem ggX9_term_X9_isChoice : GoodIn wsX9_term wsX9_isChoice := goodIn_r _ [4] (by decide +kernel) (by decide +kernel)
set_option maxRecDepth 20000 in
theorem gX9_term_X9_isChoice : GoodIn wsX9_term (va_wsS RX9 157 yX9_isChoice wsX9_isChoice) := goodIn_app (goodIn_of _ (by decide +kernel)) ggX9_term_X9_isChoice
set_option maxRecDepth 20000 in
theorem ggX9_term_X5_isPower : GoodIn wsX9_term wsX5_isPower := goodIn_r _ [8] (by decide +kernel) (by decide +kernel)
set_option maxRecDepth 20000 in
theorem gX9_term_X5_isPower : GoodIn wsX9_term (va_wsS RX9 243 yX5_isPower wsX5_isPower) := goodIn_app (goodIn_of _ (by decide +kernel)) ggX9_term_X5_isPower
set_option maxRecDepth 20000 in
theorem ggX9_term_X9_sumNumbered : GoodIn wsX9_term wsX9_sumNumbered := goodIn_r _ [12, 13, 14, 21, 22, 23, 24, 25, 26, 27, 28, 29, 30] (by decide +kernel) (by decide +kernel)
set_option maxRecDepth 20000 in
theorem gX9_term_X9_sumNumbered : GoodIn wsX9_term (wsV RX9 246 RX9 yX9_sumNumbered wsX9_sumNumbered) := goodIn_app (goodIn_of _ (by decide +kernel)) ggX9_term_X9_sumNumbered
set_option maxRecDepth 20000 in
theorem ggX9_term_X5_add : GoodIn wsX9_term wsX5_add := goodIn_r _ [18, 19, 20, 31, 32] (by decide +kernel) (by decide +kernel)
set_option maxRecDepth 20000 in
theorem gX9_term_X5_add : GoodIn wsX9_term (wsV RX9 250 RX5 yX5_add wsX5_add) := goodIn_app (goodIn_of _ (by decide +kernel)) ggX9_term_X5_add
theorem dX9_term_0 : decode cX9_term 0 = .ok (.iload_n 1, 1) := by decide +kernel
theorem dX9_term_1 : decode cX9_term 1 = .ok (.invokestatic 157, 3) := by decide +kernel
theorem dX9_term_4 : decode cX9_term 4 = .ok (.ifCond .ne 6, 3) := by decide +kernel
theorem dX9_term_7 : decode cX9_term 7 = .ok (.bipush (-2), 2) := by decide +kernel
theorem dX9_term_9 : decode cX9_term 9 = .ok (.ireturn, 1) := by decide +kernel
theorem dX9_term_10 : decode cX9_term 10 = .ok (.iload_n 2, 1) := by decide +kernel
theorem dX9_term_11 : decode cX9_term 11 = .ok (.bipush (-9), 2) := by decide +kernel
theorem dX9_term_13 : decode cX9_term 13 = .ok (.if_icmp .lt 32, 3) := by decide +kernel
theorem dX9_term_16 : decode cX9_term 16 = .ok (.iload_n 2, 1) := by decide +kernel
theorem dX9_term_17 : decode cX9_term 17 = .ok (.bipush 9, 2) := by decide +kernel
theorem dX9_term_19 : decode cX9_term 19 = .ok (.if_icmp .gt 26, 3) := by decide +kernel
theorem dX9_term_22 : decode cX9_term 22 = .ok (.iload_n 3, 1) := by decide +kernel
theorem dX9_term_23 : decode cX9_term 23 = .ok (.invokestatic 243, 3) := by decide +kernel
theorem dX9_term_26 : decode cX9_term 26 = .ok (.ifCond .eq 19, 3) := by decide +kernel
theorem dX9_term_29 : decode cX9_term 29 = .ok (.iload 4, 2) := by decide +kernel
theorem dX9_term_31 : decode cX9_term 31 = .ok (.invokestatic 243, 3) := by decide +kernel
theorem dX9_term_34 : decode cX9_term 34 = .ok (.ifCond .eq 11, 3) := by decide +kernel
theorem dX9_term_37 : decode cX9_term 37 = .ok (.iload 5, 2) := by decide +kernel
theorem dX9_term_39 : decode cX9_term 39 = .ok (.invokestatic 243, 3) := by decide +kernel
theorem dX9_term_42 : decode cX9_term 42 = .ok (.ifCond .ne 6, 3) := by decide +kernel
theorem dX9_term_45 : decode cX9_term 45 = .ok (.bipush (-3), 2) := by decide +kernel
theorem dX9_term_47 : decode cX9_term 47 = .ok (.ireturn, 1) := by decide +kernel
theorem dX9_term_48 : decode cX9_term 48 = .ok (.aload_n 0, 1) := by decide +kernel
theorem dX9_term_49 : decode cX9_term 49 = .ok (.iload_n 1, 1) := by decide +kernel
theorem dX9_term_50 : decode cX9_term 50 = .ok (.invokevirtual 246, 3) := by decide +kernel
theorem dX9_term_53 : decode cX9_term 53 = .ok (.iload_n 2, 1) := by decide +kernel
theorem dX9_term_54 : decode cX9_term 54 = .ok (.iload_n 3, 1) := by decide +kernel
theorem dX9_term_55 : decode cX9_term 55 = .ok (.iload 4, 2) := by decide +kernel
theorem dX9_term_57 : decode cX9_term 57 = .ok (.iload 5, 2) := by decide +kernel
theorem dX9_term_59 : decode cX9_term 59 = .ok (.invokevirtual 250, 3) := by decide +kernel
theorem dX9_term_62 : decode cX9_term 62 = .ok (.ireturn, 1) := by decide +kernel
set_option maxRecDepth 20000 in
theorem ggX9_value_X9_isChoice : GoodIn wsX9_value wsX9_isChoice := goodIn_r _ [6] (by decide +kernel) (by decide +kernel)
set_option maxRecDepth 20000 in
theorem gX9_value_X9_isChoice : GoodIn wsX9_value (va_wsS RX9 157 yX9_isChoice wsX9_isChoice) := goodIn_app (goodIn_of _ (by decide +kernel)) ggX9_value_X9_isChoice
set_option maxRecDepth 20000 in
theorem ggX9_value_X1_isPlace : GoodIn wsX9_value wsX1_isPlace := goodIn_r _ [10] (by decide +kernel) (by decide +kernel)
set_option maxRecDepth 20000 in
theorem gX9_value_X1_isPlace : GoodIn wsX9_value (va_wsS RX9 252 yX1_isPlace wsX1_isPlace) := goodIn_app (goodIn_of _ (by decide +kernel)) ggX9_value_X1_isPlace
set_option maxRecDepth 20000 in
theorem ggX9_value_X9_sumNumbered : GoodIn wsX9_value wsX9_sumNumbered := goodIn_r _ [14, 15, 16, 28, 29, 30, 31, 32, 33, 34, 35, 36, 37] (by decide +kernel) (by decide +kernel)
set_option maxRecDepth 20000 in
theorem gX9_value_X9_sumNumbered : GoodIn wsX9_value (wsV RX9 246 RX9 yX9_sumNumbered wsX9_sumNumbered) := goodIn_app (goodIn_of _ (by decide +kernel)) ggX9_value_X9_sumNumbered
set_option maxRecDepth 20000 in
theorem ggX9_value_X1_valueAt : GoodIn wsX9_value wsX1_valueAt := goodIn_r _ [20, 21, 22, 23, 24, 25, 26, 9, 27, 38, 39, 40, 41, 42, 43, 44, 45] (by decide +kernel) (by decide +kernel)
set_option maxRecDepth 20000 in
theorem gX9_value_X1_valueAt : GoodIn wsX9_value (wsV RX9 257 RX1 yX1_valueAt wsX1_valueAt) := goodIn_app (goodIn_of _ (by decide +kernel)) ggX9_value_X1_valueAt
theorem dX9_value_0 : decode cX9_value 0 = .ok (.iload_n 1, 1) := by decide +kernel
theorem dX9_value_1 : decode cX9_value 1 = .ok (.invokestatic 157, 3) := by decide +kernel
theorem dX9_value_4 : decode cX9_value 4 = .ok (.ifCond .eq 25, 3) := by decide +kernel
theorem dX9_value_7 : decode cX9_value 7 = .ok (.iload_n 2, 1) := by decide +kernel
theorem dX9_value_8 : decode cX9_value 8 = .ok (.invokestatic 252, 3) := by decide +kernel
theorem dX9_value_11 : decode cX9_value 11 = .ok (.ifCond .eq 18, 3) := by decide +kernel
theorem dX9_value_14 : decode cX9_value 14 = .ok (.iload_n 3, 1) := by decide +kernel
theorem dX9_value_15 : decode cX9_value 15 = .ok (.invokestatic 252, 3) := by decide +kernel
theorem dX9_value_18 : decode cX9_value 18 = .ok (.ifCond .eq 11, 3) := by decide +kernel
theorem dX9_value_21 : decode cX9_value 21 = .ok (.iload 4, 2) := by decide +kernel
theorem dX9_value_23 : decode cX9_value 23 = .ok (.invokestatic 252, 3) := by decide +kernel
theorem dX9_value_26 : decode cX9_value 26 = .ok (.ifCond .ne 7, 3) := by decide +kernel
theorem dX9_value_29 : decode cX9_value 29 = .ok (.ldc2_w 255, 3) := by decide +kernel
theorem dX9_value_32 : decode cX9_value 32 = .ok (.lreturn, 1) := by decide +kernel
theorem dX9_value_33 : decode cX9_value 33 = .ok (.aload_n 0, 1) := by decide +kernel
theorem dX9_value_34 : decode cX9_value 34 = .ok (.getfield 75, 3) := by decide +kernel
theorem dX9_value_37 : decode cX9_value 37 = .ok (.aload_n 0, 1) := by decide +kernel
theorem dX9_value_38 : decode cX9_value 38 = .ok (.iload_n 1, 1) := by decide +kernel
theorem dX9_value_39 : decode cX9_value 39 = .ok (.invokevirtual 246, 3) := by decide +kernel
theorem dX9_value_42 : decode cX9_value 42 = .ok (.iload_n 2, 1) := by decide +kernel
theorem dX9_value_43 : decode cX9_value 43 = .ok (.iload_n 3, 1) := by decide +kernel
theorem dX9_value_44 : decode cX9_value 44 = .ok (.iload 4, 2) := by decide +kernel
theorem dX9_value_46 : decode cX9_value 46 = .ok (.invokevirtual 257, 3) := by decide +kernel
theorem dX9_value_49 : decode cX9_value 49 = .ok (.lreturn, 1) := by decide +kernel
set_option maxRecDepth 20000 in
theorem ggX9_degree_X9_isChoice : GoodIn wsX9_degree wsX9_isChoice := goodIn_r _ [4] (by decide +kernel) (by decide +kernel)
set_option maxRecDepth 20000 in
theorem gX9_degree_X9_isChoice : GoodIn wsX9_degree (va_wsS RX9 157 yX9_isChoice wsX9_isChoice) := goodIn_app (goodIn_of _ (by decide +kernel)) ggX9_degree_X9_isChoice
set_option maxRecDepth 20000 in
theorem ggX9_degree_X9_sumNumbered : GoodIn wsX9_degree wsX9_sumNumbered := goodIn_r _ [8, 9, 10, 21, 22, 23, 24, 25, 26, 27, 28, 29, 30] (by decide +kernel) (by decide +kernel)
set_option maxRecDepth 20000 in
theorem gX9_degree_X9_sumNumbered : GoodIn wsX9_degree (wsV RX9 246 RX9 yX9_sumNumbered wsX9_sumNumbered) := goodIn_app (goodIn_of _ (by decide +kernel)) ggX9_degree_X9_sumNumbered
set_option maxRecDepth 20000 in
theorem ggX9_degree_X5_greatestPower : GoodIn wsX9_degree wsX5_greatestPower := goodIn_r _ [15, 16, 17, 18, 19, 20, 31, 32] (by decide +kernel) (by decide +kernel)
set_option maxRecDepth 20000 in
theorem gX9_degree_X5_greatestPower : GoodIn wsX9_degree (wsV RX9 261 RX5 yX5_greatestPower wsX5_greatestPower) := goodIn_app (goodIn_of _ (by decide +kernel)) ggX9_degree_X5_greatestPower
theorem dX9_degree_0 : decode cX9_degree 0 = .ok (.iload_n 1, 1) := by decide +kernel
theorem dX9_degree_1 : decode cX9_degree 1 = .ok (.invokestatic 157, 3) := by decide +kernel
theorem dX9_degree_4 : decode cX9_degree 4 = .ok (.ifCond .eq 14, 3) := by decide +kernel
theorem dX9_degree_7 : decode cX9_degree 7 = .ok (.aload_n 0, 1) := by decide +kernel
theorem dX9_degree_8 : decode cX9_degree 8 = .ok (.iload_n 1, 1) := by decide +kernel
theorem dX9_degree_9 : decode cX9_degree 9 = .ok (.invokevirtual 246, 3) := by decide +kernel
theorem dX9_degree_12 : decode cX9_degree 12 = .ok (.invokevirtual 261, 3) := by decide +kernel
theorem dX9_degree_15 : decode cX9_degree 15 = .ok (.goto 5, 3) := by decide +kernel
theorem dX9_degree_18 : decode cX9_degree 18 = .ok (.bipush (-2), 2) := by decide +kernel
theorem dX9_degree_20 : decode cX9_degree 20 = .ok (.ireturn, 1) := by decide +kernel
set_option maxRecDepth 20000 in
theorem ggX9_same_X9_isChoice : GoodIn wsX9_same wsX9_isChoice := goodIn_r _ [9] (by decide +kernel) (by decide +kernel)
set_option maxRecDepth 20000 in
theorem gX9_same_X9_isChoice : GoodIn wsX9_same (va_wsS RX9 157 yX9_isChoice wsX9_isChoice) := goodIn_app (goodIn_of _ (by decide +kernel)) ggX9_same_X9_isChoice
set_option maxRecDepth 20000 in
theorem ggX9_same_X1_compare : GoodIn wsX9_same wsX1_compare := goodIn_r _ [14, 15, 16, 17, 18, 19, 20, 21, 22, 13, 23, 24, 25, 26, 27, 28, 39, 40, 41, 42, 43, 44, 45, 46] (by decide +kernel) (by decide +kernel)
set_option maxRecDepth 20000 in
theorem gX9_same_X1_compare : GoodIn wsX9_same (wsV RX9 264 RX1 yX1_compare wsX1_compare) := goodIn_app (goodIn_of _ (by decide +kernel)) ggX9_same_X1_compare
theorem dX9_same_0 : decode cX9_same 0 = .ok (.iload_n 1, 1) := by decide +kernel
theorem dX9_same_1 : decode cX9_same 1 = .ok (.iconst 1, 1) := by decide +kernel
theorem dX9_same_2 : decode cX9_same 2 = .ok (.if_icmp .lt 16, 3) := by decide +kernel
theorem dX9_same_5 : decode cX9_same 5 = .ok (.iload_n 1, 1) := by decide +kernel
theorem dX9_same_6 : decode cX9_same 6 = .ok (.bipush 12, 2) := by decide +kernel
theorem dX9_same_8 : decode cX9_same 8 = .ok (.if_icmp .gt 10, 3) := by decide +kernel
theorem dX9_same_11 : decode cX9_same 11 = .ok (.iload_n 2, 1) := by decide +kernel
theorem dX9_same_12 : decode cX9_same 12 = .ok (.invokestatic 157, 3) := by decide +kernel
theorem dX9_same_15 : decode cX9_same 15 = .ok (.ifCond .ne 6, 3) := by decide +kernel
theorem dX9_same_18 : decode cX9_same 18 = .ok (.bipush (-3), 2) := by decide +kernel
theorem dX9_same_20 : decode cX9_same 20 = .ok (.ireturn, 1) := by decide +kernel
theorem dX9_same_21 : decode cX9_same 21 = .ok (.aload_n 0, 1) := by decide +kernel
theorem dX9_same_22 : decode cX9_same 22 = .ok (.getfield 75, 3) := by decide +kernel
theorem dX9_same_25 : decode cX9_same 25 = .ok (.aload_n 0, 1) := by decide +kernel
theorem dX9_same_26 : decode cX9_same 26 = .ok (.getfield 65, 3) := by decide +kernel
theorem dX9_same_29 : decode cX9_same 29 = .ok (.aload_n 0, 1) := by decide +kernel
theorem dX9_same_30 : decode cX9_same 30 = .ok (.getfield 69, 3) := by decide +kernel
theorem dX9_same_33 : decode cX9_same 33 = .ok (.iload_n 1, 1) := by decide +kernel
theorem dX9_same_34 : decode cX9_same 34 = .ok (.invokevirtual 264, 3) := by decide +kernel
theorem dX9_same_37 : decode cX9_same 37 = .ok (.iload_n 2, 1) := by decide +kernel
theorem dX9_same_38 : decode cX9_same 38 = .ok (.ifCond .ne 13, 3) := by decide +kernel
theorem dX9_same_41 : decode cX9_same 41 = .ok (.aload_n 0, 1) := by decide +kernel
theorem dX9_same_42 : decode cX9_same 42 = .ok (.getfield 75, 3) := by decide +kernel
theorem dX9_same_45 : decode cX9_same 45 = .ok (.getfield 268, 3) := by decide +kernel
theorem dX9_same_48 : decode cX9_same 48 = .ok (.goto 10, 3) := by decide +kernel
theorem dX9_same_51 : decode cX9_same 51 = .ok (.aload_n 0, 1) := by decide +kernel
theorem dX9_same_52 : decode cX9_same 52 = .ok (.getfield 75, 3) := by decide +kernel
theorem dX9_same_55 : decode cX9_same 55 = .ok (.getfield 271, 3) := by decide +kernel
theorem dX9_same_58 : decode cX9_same 58 = .ok (.ireturn, 1) := by decide +kernel
theorem dX9_pressed_0 : decode cX9_pressed 0 = .ok (.iload_n 3, 1) := by decide +kernel
theorem dX9_pressed_1 : decode cX9_pressed 1 = .ok (.ifCond .lt 15, 3) := by decide +kernel
theorem dX9_pressed_4 : decode cX9_pressed 4 = .ok (.iload_n 3, 1) := by decide +kernel
theorem dX9_pressed_5 : decode cX9_pressed 5 = .ok (.bipush 32, 2) := by decide +kernel
theorem dX9_pressed_7 : decode cX9_pressed 7 = .ok (.if_icmp .gt 9, 3) := by decide +kernel
theorem dX9_pressed_10 : decode cX9_pressed 10 = .ok (.iload 4, 2) := by decide +kernel
theorem dX9_pressed_12 : decode cX9_pressed 12 = .ok (.iconst (-1), 1) := by decide +kernel
theorem dX9_pressed_13 : decode cX9_pressed 13 = .ok (.if_icmp .ge 6, 3) := by decide +kernel
theorem dX9_pressed_16 : decode cX9_pressed 16 = .ok (.bipush (-3), 2) := by decide +kernel
theorem dX9_pressed_18 : decode cX9_pressed 18 = .ok (.ireturn, 1) := by decide +kernel
theorem dX9_pressed_19 : decode cX9_pressed 19 = .ok (.iconst 0, 1) := by decide +kernel
theorem dX9_pressed_20 : decode cX9_pressed 20 = .ok (.istore 5, 2) := by decide +kernel
theorem dX9_pressed_22 : decode cX9_pressed 22 = .ok (.iconst 0, 1) := by decide +kernel
theorem dX9_pressed_23 : decode cX9_pressed 23 = .ok (.istore 6, 2) := by decide +kernel
theorem dX9_pressed_25 : decode cX9_pressed 25 = .ok (.iload 6, 2) := by decide +kernel
theorem dX9_pressed_27 : decode cX9_pressed 27 = .ok (.iconst 1, 1) := by decide +kernel
theorem dX9_pressed_28 : decode cX9_pressed 28 = .ok (.iadd, 1) := by decide +kernel
theorem dX9_pressed_29 : decode cX9_pressed 29 = .ok (.iload_n 3, 1) := by decide +kernel
theorem dX9_pressed_30 : decode cX9_pressed 30 = .ok (.if_icmp .ge 49, 3) := by decide +kernel
theorem dX9_pressed_33 : decode cX9_pressed 33 = .ok (.lload_n 1, 1) := by decide +kernel
theorem dX9_pressed_34 : decode cX9_pressed 34 = .ok (.iload 6, 2) := by decide +kernel
theorem dX9_pressed_36 : decode cX9_pressed 36 = .ok (.lshr, 1) := by decide +kernel
theorem dX9_pressed_37 : decode cX9_pressed 37 = .ok (.lconst 1, 1) := by decide +kernel
theorem dX9_pressed_38 : decode cX9_pressed 38 = .ok (.land, 1) := by decide +kernel
theorem dX9_pressed_39 : decode cX9_pressed 39 = .ok (.l2i, 1) := by decide +kernel
theorem dX9_pressed_40 : decode cX9_pressed 40 = .ok (.istore 7, 2) := by decide +kernel
theorem dX9_pressed_42 : decode cX9_pressed 42 = .ok (.lload_n 1, 1) := by decide +kernel
theorem dX9_pressed_43 : decode cX9_pressed 43 = .ok (.iload 6, 2) := by decide +kernel
theorem dX9_pressed_45 : decode cX9_pressed 45 = .ok (.iconst 1, 1) := by decide +kernel
theorem dX9_pressed_46 : decode cX9_pressed 46 = .ok (.iadd, 1) := by decide +kernel
theorem dX9_pressed_47 : decode cX9_pressed 47 = .ok (.lshr, 1) := by decide +kernel
theorem dX9_pressed_48 : decode cX9_pressed 48 = .ok (.lconst 1, 1) := by decide +kernel
theorem dX9_pressed_49 : decode cX9_pressed 49 = .ok (.land, 1) := by decide +kernel
theorem dX9_pressed_50 : decode cX9_pressed 50 = .ok (.l2i, 1) := by decide +kernel
theorem dX9_pressed_51 : decode cX9_pressed 51 = .ok (.istore 8, 2) := by decide +kernel
theorem dX9_pressed_53 : decode cX9_pressed 53 = .ok (.iload 7, 2) := by decide +kernel
theorem dX9_pressed_55 : decode cX9_pressed 55 = .ok (.iload 8, 2) := by decide +kernel
theorem dX9_pressed_57 : decode cX9_pressed 57 = .ok (.if_icmp .eq 16, 3) := by decide +kernel
theorem dX9_pressed_60 : decode cX9_pressed 60 = .ok (.iload 5, 2) := by decide +kernel
theorem dX9_pressed_62 : decode cX9_pressed 62 = .ok (.iload 4, 2) := by decide +kernel
theorem dX9_pressed_64 : decode cX9_pressed 64 = .ok (.if_icmp .ne 6, 3) := by decide +kernel
theorem dX9_pressed_67 : decode cX9_pressed 67 = .ok (.iload 7, 2) := by decide +kernel
theorem dX9_pressed_69 : decode cX9_pressed 69 = .ok (.ireturn, 1) := by decide +kernel
theorem dX9_pressed_70 : decode cX9_pressed 70 = .ok (.iinc 5 1, 3) := by decide +kernel
theorem dX9_pressed_73 : decode cX9_pressed 73 = .ok (.iinc 6 2, 3) := by decide +kernel
theorem dX9_pressed_76 : decode cX9_pressed 76 = .ok (.goto (-51), 3) := by decide +kernel
theorem dX9_pressed_79 : decode cX9_pressed 79 = .ok (.iload 4, 2) := by decide +kernel
theorem dX9_pressed_81 : decode cX9_pressed 81 = .ok (.iconst (-1), 1) := by decide +kernel
theorem dX9_pressed_82 : decode cX9_pressed 82 = .ok (.if_icmp .ne 8, 3) := by decide +kernel
theorem dX9_pressed_85 : decode cX9_pressed 85 = .ok (.iload 5, 2) := by decide +kernel
theorem dX9_pressed_87 : decode cX9_pressed 87 = .ok (.goto 4, 3) := by decide +kernel
theorem dX9_pressed_90 : decode cX9_pressed 90 = .ok (.iconst (-1), 1) := by decide +kernel
theorem dX9_pressed_91 : decode cX9_pressed 91 = .ok (.ireturn, 1) := by decide +kernel
set_option maxRecDepth 20000 in
theorem ggX9_mixed_X4_isSet : GoodIn wsX9_mixed wsX4_isSet := goodIn_r _ [9, 10] (by decide +kernel) (by decide +kernel)
set_option maxRecDepth 20000 in
theorem gX9_mixed_X4_isSet : GoodIn wsX9_mixed (va_wsS RX9 274 yX4_isSet wsX4_isSet) := goodIn_app (goodIn_of _ (by decide +kernel)) ggX9_mixed_X4_isSet
set_option maxRecDepth 20000 in
theorem ggX9_mixed_X9_isPart : GoodIn wsX9_mixed wsX9_isPart := goodIn_r _ [14] (by decide +kernel) (by decide +kernel)
set_option maxRecDepth 20000 in
theorem gX9_mixed_X9_isPart : GoodIn wsX9_mixed (va_wsS RX9 133 yX9_isPart wsX9_isPart) := goodIn_app (goodIn_of _ (by decide +kernel)) ggX9_mixed_X9_isPart
set_option maxRecDepth 20000 in
theorem ggX9_mixed_J6_bitCount_0f7a4 : GoodIn wsX9_mixed wsJ6_bitCount_0f7a4 := goodIn_r _ [18, 19, 20, 21] (by decide +kernel) (by decide +kernel)
set_option maxRecDepth 20000 in
theorem gX9_mixed_J6_bitCount_0f7a4 : GoodIn wsX9_mixed (va_wsS RX9 199 yJ6_bitCount_0f7a4 wsJ6_bitCount_0f7a4) := goodIn_app (goodIn_of _ (by decide +kernel)) ggX9_mixed_J6_bitCount_0f7a4
set_option maxRecDepth 20000 in
theorem ggX9_mixed_X4_oddPairs : GoodIn wsX9_mixed wsX4_oddPairs := goodIn_r _ [25, 26, 27, 16, 17, 18, 19, 20, 21, 41] (by decide +kernel) (by decide +kernel)
set_option maxRecDepth 20000 in
theorem gX9_mixed_X4_oddPairs : GoodIn wsX9_mixed (wsV RX9 277 RX4 yX4_oddPairs wsX4_oddPairs) := goodIn_app (goodIn_of _ (by decide +kernel)) ggX9_mixed_X4_oddPairs
set_option maxRecDepth 20000 in
theorem ggX9_mixed_X9_lowest : GoodIn wsX9_mixed wsX9_lowest := goodIn_r _ [30] (by decide +kernel) (by decide +kernel)
set_option maxRecDepth 20000 in
theorem gX9_mixed_X9_lowest : GoodIn wsX9_mixed (va_wsS RX9 144 yX9_lowest wsX9_lowest) := goodIn_app (goodIn_of _ (by decide +kernel)) ggX9_mixed_X9_lowest
theorem dX9_mixed_0 : decode cX9_mixed 0 = .ok (.iload_n 1, 1) := by decide +kernel
theorem dX9_mixed_1 : decode cX9_mixed 1 = .ok (.invokestatic 274, 3) := by decide +kernel
theorem dX9_mixed_4 : decode cX9_mixed 4 = .ok (.ifCond .eq 17, 3) := by decide +kernel
theorem dX9_mixed_7 : decode cX9_mixed 7 = .ok (.iload_n 2, 1) := by decide +kernel
theorem dX9_mixed_8 : decode cX9_mixed 8 = .ok (.invokestatic 274, 3) := by decide +kernel
theorem dX9_mixed_11 : decode cX9_mixed 11 = .ok (.ifCond .eq 10, 3) := by decide +kernel
theorem dX9_mixed_14 : decode cX9_mixed 14 = .ok (.iload_n 3, 1) := by decide +kernel
theorem dX9_mixed_15 : decode cX9_mixed 15 = .ok (.invokestatic 133, 3) := by decide +kernel
theorem dX9_mixed_18 : decode cX9_mixed 18 = .ok (.ifCond .ne 6, 3) := by decide +kernel
theorem dX9_mixed_21 : decode cX9_mixed 21 = .ok (.bipush (-3), 2) := by decide +kernel
theorem dX9_mixed_23 : decode cX9_mixed 23 = .ok (.ireturn, 1) := by decide +kernel
theorem dX9_mixed_24 : decode cX9_mixed 24 = .ok (.iload_n 1, 1) := by decide +kernel
theorem dX9_mixed_25 : decode cX9_mixed 25 = .ok (.invokestatic 199, 3) := by decide +kernel
theorem dX9_mixed_28 : decode cX9_mixed 28 = .ok (.iload_n 2, 1) := by decide +kernel
theorem dX9_mixed_29 : decode cX9_mixed 29 = .ok (.invokestatic 199, 3) := by decide +kernel
theorem dX9_mixed_32 : decode cX9_mixed 32 = .ok (.imul, 1) := by decide +kernel
theorem dX9_mixed_33 : decode cX9_mixed 33 = .ok (.istore 4, 2) := by decide +kernel
theorem dX9_mixed_35 : decode cX9_mixed 35 = .ok (.iload 4, 2) := by decide +kernel
theorem dX9_mixed_37 : decode cX9_mixed 37 = .ok (.iconst 2, 1) := by decide +kernel
theorem dX9_mixed_38 : decode cX9_mixed 38 = .ok (.aload_n 0, 1) := by decide +kernel
theorem dX9_mixed_39 : decode cX9_mixed 39 = .ok (.getfield 58, 3) := by decide +kernel
theorem dX9_mixed_42 : decode cX9_mixed 42 = .ok (.iload_n 1, 1) := by decide +kernel
theorem dX9_mixed_43 : decode cX9_mixed 43 = .ok (.iload_n 2, 1) := by decide +kernel
theorem dX9_mixed_44 : decode cX9_mixed 44 = .ok (.invokevirtual 277, 3) := by decide +kernel
theorem dX9_mixed_47 : decode cX9_mixed 47 = .ok (.imul, 1) := by decide +kernel
theorem dX9_mixed_48 : decode cX9_mixed 48 = .ok (.isub, 1) := by decide +kernel
theorem dX9_mixed_49 : decode cX9_mixed 49 = .ok (.invokestatic 280, 3) := by decide +kernel
theorem dX9_mixed_52 : decode cX9_mixed 52 = .ok (.iload 4, 2) := by decide +kernel
theorem dX9_mixed_54 : decode cX9_mixed 54 = .ok (.iload_n 3, 1) := by decide +kernel
theorem dX9_mixed_55 : decode cX9_mixed 55 = .ok (.invokestatic 144, 3) := by decide +kernel
theorem dX9_mixed_58 : decode cX9_mixed 58 = .ok (.ireturn, 1) := by decide +kernel
set_option maxRecDepth 20000 in
theorem ggX9_count_X7_inputCount : GoodIn wsX9_count wsX7_inputCount := goodIn_r _ [17, 18, 31, 32, 33, 34, 35, 36, 37, 38] (by decide +kernel) (by decide +kernel)
set_option maxRecDepth 20000 in
theorem gX9_count_X7_inputCount : GoodIn wsX9_count (wsV RX9 114 RX7 yX7_inputCount wsX7_inputCount) := goodIn_app (goodIn_of _ (by decide +kernel)) ggX9_count_X7_inputCount
theorem dX9_count_0 : decode cX9_count 0 = .ok (.iload_n 1, 1) := by decide +kernel
theorem dX9_count_1 : decode cX9_count 1 = .ok (.tableswitch 120 0 7 #[47, 55, 66, 77, 88, 96, 104, 112], 47) := by decide +kernel
theorem dX9_count_48 : decode cX9_count 48 = .ok (.aload_n 0, 1) := by decide +kernel
theorem dX9_count_49 : decode cX9_count 49 = .ok (.getfield 10, 3) := by decide +kernel
theorem dX9_count_52 : decode cX9_count 52 = .ok (.getfield 79, 3) := by decide +kernel
theorem dX9_count_55 : decode cX9_count 55 = .ok (.ireturn, 1) := by decide +kernel
theorem dX9_count_56 : decode cX9_count 56 = .ok (.aload_n 0, 1) := by decide +kernel
theorem dX9_count_57 : decode cX9_count 57 = .ok (.getfield 33, 3) := by decide +kernel
theorem dX9_count_60 : decode cX9_count 60 = .ok (.getfield 97, 3) := by decide +kernel
theorem dX9_count_63 : decode cX9_count 63 = .ok (.getfield 285, 3) := by decide +kernel
theorem dX9_count_66 : decode cX9_count 66 = .ok (.ireturn, 1) := by decide +kernel
theorem dX9_count_67 : decode cX9_count 67 = .ok (.aload_n 0, 1) := by decide +kernel
theorem dX9_count_68 : decode cX9_count 68 = .ok (.getfield 33, 3) := by decide +kernel
theorem dX9_count_71 : decode cX9_count 71 = .ok (.getfield 97, 3) := by decide +kernel
theorem dX9_count_74 : decode cX9_count 74 = .ok (.getfield 103, 3) := by decide +kernel
theorem dX9_count_77 : decode cX9_count 77 = .ok (.ireturn, 1) := by decide +kernel
theorem dX9_count_78 : decode cX9_count 78 = .ok (.aload_n 0, 1) := by decide +kernel
theorem dX9_count_79 : decode cX9_count 79 = .ok (.getfield 33, 3) := by decide +kernel
theorem dX9_count_82 : decode cX9_count 82 = .ok (.getfield 97, 3) := by decide +kernel
theorem dX9_count_85 : decode cX9_count 85 = .ok (.getfield 100, 3) := by decide +kernel
theorem dX9_count_88 : decode cX9_count 88 = .ok (.ireturn, 1) := by decide +kernel
theorem dX9_count_89 : decode cX9_count 89 = .ok (.aload_n 0, 1) := by decide +kernel
theorem dX9_count_90 : decode cX9_count 90 = .ok (.getfield 33, 3) := by decide +kernel
theorem dX9_count_93 : decode cX9_count 93 = .ok (.invokevirtual 114, 3) := by decide +kernel
theorem dX9_count_96 : decode cX9_count 96 = .ok (.ireturn, 1) := by decide +kernel
theorem dX9_count_97 : decode cX9_count 97 = .ok (.aload_n 0, 1) := by decide +kernel
theorem dX9_count_98 : decode cX9_count 98 = .ok (.getfield 44, 3) := by decide +kernel
theorem dX9_count_101 : decode cX9_count 101 = .ok (.getfield 288, 3) := by decide +kernel
theorem dX9_count_104 : decode cX9_count 104 = .ok (.ireturn, 1) := by decide +kernel
theorem dX9_count_105 : decode cX9_count 105 = .ok (.aload_n 0, 1) := by decide +kernel
theorem dX9_count_106 : decode cX9_count 106 = .ok (.getfield 44, 3) := by decide +kernel
theorem dX9_count_109 : decode cX9_count 109 = .ok (.getfield 291, 3) := by decide +kernel
theorem dX9_count_112 : decode cX9_count 112 = .ok (.ireturn, 1) := by decide +kernel
theorem dX9_count_113 : decode cX9_count 113 = .ok (.aload_n 0, 1) := by decide +kernel
theorem dX9_count_114 : decode cX9_count 114 = .ok (.getfield 51, 3) := by decide +kernel
theorem dX9_count_117 : decode cX9_count 117 = .ok (.getfield 187, 3) := by decide +kernel
theorem dX9_count_120 : decode cX9_count 120 = .ok (.ireturn, 1) := by decide +kernel
theorem dX9_count_121 : decode cX9_count 121 = .ok (.bipush (-3), 2) := by decide +kernel
theorem dX9_count_123 : decode cX9_count 123 = .ok (.ireturn, 1) := by decide +kernel
set_option maxRecDepth 20000 in
theorem ggX9_fresh_X7_refresh : GoodIn wsX9_fresh wsX7_refresh := goodIn_r _ [6, 7, 8, 9, 10, 11, 12, 13, 14, 15, 16, 17, 18, 5, 19, 20, 21, 22, 23, 24, 25, 26, 27, 28, 29, 30, 31, 32, 33, 34, 35, 36, 37, 38, 39, 40, 41, 42, 43, 44, 45, 46, 47, 48, 49, 50, 51, 52, 53, 54, 55, 56, 57, 58, 59, 60, 61, 62, 73, 74, 75, 76, 77, 78, 79, 80, 81, 82, 83, 84, 85, 86, 87, 88, 89, 90, 91] (by decide +kernel) (by decide +kernel)
set_option maxRecDepth 20000 in
theorem gX9_fresh_X7_refresh : GoodIn wsX9_fresh (wsV RX9 294 RX7 yX7_refresh wsX7_refresh) := goodIn_app (goodIn_of _ (by decide +kernel)) ggX9_fresh_X7_refresh
theorem dX9_fresh_0 : decode cX9_fresh 0 = .ok (.aload_n 0, 1) := by decide +kernel
theorem dX9_fresh_1 : decode cX9_fresh 1 = .ok (.getfield 33, 3) := by decide +kernel
theorem dX9_fresh_4 : decode cX9_fresh 4 = .ok (.invokevirtual 294, 3) := by decide +kernel
theorem dX9_fresh_7 : decode cX9_fresh 7 = .ok (.aload_n 0, 1) := by decide +kernel
theorem dX9_fresh_8 : decode cX9_fresh 8 = .ok (.getfield 33, 3) := by decide +kernel
theorem dX9_fresh_11 : decode cX9_fresh 11 = .ok (.areturn, 1) := by decide +kernel
theorem dX9_sumNumbered_0 : decode cX9_sumNumbered 0 = .ok (.iload_n 1, 1) := by decide +kernel
theorem dX9_sumNumbered_1 : decode cX9_sumNumbered 1 = .ok (.ifCond .ne 10, 3) := by decide +kernel
theorem dX9_sumNumbered_4 : decode cX9_sumNumbered 4 = .ok (.aload_n 0, 1) := by decide +kernel
theorem dX9_sumNumbered_5 : decode cX9_sumNumbered 5 = .ok (.getfield 65, 3) := by decide +kernel
theorem dX9_sumNumbered_8 : decode cX9_sumNumbered 8 = .ok (.goto 7, 3) := by decide +kernel
theorem dX9_sumNumbered_11 : decode cX9_sumNumbered 11 = .ok (.aload_n 0, 1) := by decide +kernel
theorem dX9_sumNumbered_12 : decode cX9_sumNumbered 12 = .ok (.getfield 69, 3) := by decide +kernel
theorem dX9_sumNumbered_15 : decode cX9_sumNumbered 15 = .ok (.areturn, 1) := by decide +kernel
theorem dX9_isPart_0 : decode cX9_isPart 0 = .ok (.iload_n 0, 1) := by decide +kernel
theorem dX9_isPart_1 : decode cX9_isPart 1 = .ok (.ifCond .eq 8, 3) := by decide +kernel
theorem dX9_isPart_4 : decode cX9_isPart 4 = .ok (.iload_n 0, 1) := by decide +kernel
theorem dX9_isPart_5 : decode cX9_isPart 5 = .ok (.iconst 1, 1) := by decide +kernel
theorem dX9_isPart_6 : decode cX9_isPart 6 = .ok (.if_icmp .ne 7, 3) := by decide +kernel
theorem dX9_isPart_9 : decode cX9_isPart 9 = .ok (.iconst 1, 1) := by decide +kernel
theorem dX9_isPart_10 : decode cX9_isPart 10 = .ok (.goto 4, 3) := by decide +kernel
theorem dX9_isPart_13 : decode cX9_isPart 13 = .ok (.iconst 0, 1) := by decide +kernel
theorem dX9_isPart_14 : decode cX9_isPart 14 = .ok (.ireturn, 1) := by decide +kernel
theorem dX9_isChoice_0 : decode cX9_isChoice 0 = .ok (.iload_n 0, 1) := by decide +kernel
theorem dX9_isChoice_1 : decode cX9_isChoice 1 = .ok (.ifCond .eq 8, 3) := by decide +kernel
theorem dX9_isChoice_4 : decode cX9_isChoice 4 = .ok (.iload_n 0, 1) := by decide +kernel
theorem dX9_isChoice_5 : decode cX9_isChoice 5 = .ok (.iconst 1, 1) := by decide +kernel
theorem dX9_isChoice_6 : decode cX9_isChoice 6 = .ok (.if_icmp .ne 7, 3) := by decide +kernel
theorem dX9_isChoice_9 : decode cX9_isChoice 9 = .ok (.iconst 1, 1) := by decide +kernel
theorem dX9_isChoice_10 : decode cX9_isChoice 10 = .ok (.goto 4, 3) := by decide +kernel
theorem dX9_isChoice_13 : decode cX9_isChoice 13 = .ok (.iconst 0, 1) := by decide +kernel
theorem dX9_isChoice_14 : decode cX9_isChoice 14 = .ok (.ireturn, 1) := by decide +kernel
theorem dX9_isRatio_0 : decode cX9_isRatio 0 = .ok (.iload_n 0, 1) := by decide +kernel
theorem dX9_isRatio_1 : decode cX9_isRatio 1 = .ok (.ifCond .lt 24, 3) := by decide +kernel
theorem dX9_isRatio_4 : decode cX9_isRatio 4 = .ok (.iload_n 0, 1) := by decide +kernel
theorem dX9_isRatio_5 : decode cX9_isRatio 5 = .ok (.bipush 100, 2) := by decide +kernel
theorem dX9_isRatio_7 : decode cX9_isRatio 7 = .ok (.if_icmp .gt 18, 3) := by decide +kernel
theorem dX9_isRatio_10 : decode cX9_isRatio 10 = .ok (.iload_n 1, 1) := by decide +kernel
theorem dX9_isRatio_11 : decode cX9_isRatio 11 = .ok (.iconst 1, 1) := by decide +kernel
theorem dX9_isRatio_12 : decode cX9_isRatio 12 = .ok (.if_icmp .lt 13, 3) := by decide +kernel
theorem dX9_isRatio_15 : decode cX9_isRatio 15 = .ok (.iload_n 1, 1) := by decide +kernel
theorem dX9_isRatio_16 : decode cX9_isRatio 16 = .ok (.bipush 100, 2) := by decide +kernel
theorem dX9_isRatio_18 : decode cX9_isRatio 18 = .ok (.if_icmp .gt 7, 3) := by decide +kernel
theorem dX9_isRatio_21 : decode cX9_isRatio 21 = .ok (.iconst 1, 1) := by decide +kernel
theorem dX9_isRatio_22 : decode cX9_isRatio 22 = .ok (.goto 4, 3) := by decide +kernel
theorem dX9_isRatio_25 : decode cX9_isRatio 25 = .ok (.iconst 0, 1) := by decide +kernel
theorem dX9_isRatio_26 : decode cX9_isRatio 26 = .ok (.ireturn, 1) := by decide +kernel
theorem dX9_lowest_0 : decode cX9_lowest 0 = .ok (.iload_n 1, 1) := by decide +kernel
theorem dX9_lowest_1 : decode cX9_lowest 1 = .ok (.istore_n 3, 1) := by decide +kernel
theorem dX9_lowest_2 : decode cX9_lowest 2 = .ok (.iload_n 0, 1) := by decide +kernel
theorem dX9_lowest_3 : decode cX9_lowest 3 = .ok (.istore 4, 2) := by decide +kernel
theorem dX9_lowest_5 : decode cX9_lowest 5 = .ok (.iconst 0, 1) := by decide +kernel
theorem dX9_lowest_6 : decode cX9_lowest 6 = .ok (.istore 5, 2) := by decide +kernel
theorem dX9_lowest_8 : decode cX9_lowest 8 = .ok (.iload 5, 2) := by decide +kernel
theorem dX9_lowest_10 : decode cX9_lowest 10 = .ok (.bipush 100, 2) := by decide +kernel
theorem dX9_lowest_12 : decode cX9_lowest 12 = .ok (.if_icmp .ge 27, 3) := by decide +kernel
theorem dX9_lowest_15 : decode cX9_lowest 15 = .ok (.iload 4, 2) := by decide +kernel
theorem dX9_lowest_17 : decode cX9_lowest 17 = .ok (.ifCond .eq 22, 3) := by decide +kernel
theorem dX9_lowest_20 : decode cX9_lowest 20 = .ok (.iload_n 3, 1) := by decide +kernel
theorem dX9_lowest_21 : decode cX9_lowest 21 = .ok (.iload 4, 2) := by decide +kernel
theorem dX9_lowest_23 : decode cX9_lowest 23 = .ok (.irem, 1) := by decide +kernel
theorem dX9_lowest_24 : decode cX9_lowest 24 = .ok (.istore 6, 2) := by decide +kernel
theorem dX9_lowest_26 : decode cX9_lowest 26 = .ok (.iload 4, 2) := by decide +kernel
theorem dX9_lowest_28 : decode cX9_lowest 28 = .ok (.istore_n 3, 1) := by decide +kernel
theorem dX9_lowest_29 : decode cX9_lowest 29 = .ok (.iload 6, 2) := by decide +kernel
theorem dX9_lowest_31 : decode cX9_lowest 31 = .ok (.istore 4, 2) := by decide +kernel
theorem dX9_lowest_33 : decode cX9_lowest 33 = .ok (.iinc 5 1, 3) := by decide +kernel
theorem dX9_lowest_36 : decode cX9_lowest 36 = .ok (.goto (-28), 3) := by decide +kernel
theorem dX9_lowest_39 : decode cX9_lowest 39 = .ok (.iload_n 3, 1) := by decide +kernel
theorem dX9_lowest_40 : decode cX9_lowest 40 = .ok (.ifCond .ne 5, 3) := by decide +kernel
theorem dX9_lowest_43 : decode cX9_lowest 43 = .ok (.iconst (-1), 1) := by decide +kernel
theorem dX9_lowest_44 : decode cX9_lowest 44 = .ok (.ireturn, 1) := by decide +kernel
theorem dX9_lowest_45 : decode cX9_lowest 45 = .ok (.iload_n 2, 1) := by decide +kernel
theorem dX9_lowest_46 : decode cX9_lowest 46 = .ok (.ifCond .ne 9, 3) := by decide +kernel
theorem dX9_lowest_49 : decode cX9_lowest 49 = .ok (.iload_n 0, 1) := by decide +kernel
theorem dX9_lowest_50 : decode cX9_lowest 50 = .ok (.iload_n 3, 1) := by decide +kernel
theorem dX9_lowest_51 : decode cX9_lowest 51 = .ok (.idiv, 1) := by decide +kernel
theorem dX9_lowest_52 : decode cX9_lowest 52 = .ok (.goto 6, 3) := by decide +kernel
theorem dX9_lowest_55 : decode cX9_lowest 55 = .ok (.iload_n 1, 1) := by decide +kernel
theorem dX9_lowest_56 : decode cX9_lowest 56 = .ok (.iload_n 3, 1) := by decide +kernel
theorem dX9_lowest_57 : decode cX9_lowest 57 = .ok (.idiv, 1) := by decide +kernel
theorem dX9_lowest_58 : decode cX9_lowest 58 = .ok (.ireturn, 1) := by decide +kernel
