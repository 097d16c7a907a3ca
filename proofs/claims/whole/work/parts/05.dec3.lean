theorem dX10_init_0 : decode cX10_init 0 = .ok (.aload_n 0, 1) := by decide +kernel
theorem dX10_init_1 : decode cX10_init 1 = .ok (.invokespecial 1, 3) := by decide +kernel
theorem dX10_init_4 : decode cX10_init 4 = .ok (.aload_n 0, 1) := by decide +kernel
theorem dX10_init_5 : decode cX10_init 5 = .ok (.sipush 200, 3) := by decide +kernel
theorem dX10_init_8 : decode cX10_init 8 = .ok (.newarray .int, 2) := by decide +kernel
theorem dX10_init_10 : decode cX10_init 10 = .ok (.putfield 7, 3) := by decide +kernel
theorem dX10_init_13 : decode cX10_init 13 = .ok (.aload_n 0, 1) := by decide +kernel
theorem dX10_init_14 : decode cX10_init 14 = .ok (.bipush 40, 2) := by decide +kernel
theorem dX10_init_16 : decode cX10_init 16 = .ok (.newarray .int, 2) := by decide +kernel
theorem dX10_init_18 : decode cX10_init 18 = .ok (.putfield 13, 3) := by decide +kernel
theorem dX10_init_21 : decode cX10_init 21 = .ok (.aload_n 0, 1) := by decide +kernel
theorem dX10_init_22 : decode cX10_init 22 = .ok (.bipush 40, 2) := by decide +kernel
theorem dX10_init_24 : decode cX10_init 24 = .ok (.newarray .int, 2) := by decide +kernel
theorem dX10_init_26 : decode cX10_init 26 = .ok (.putfield 16, 3) := by decide +kernel
theorem dX10_init_29 : decode cX10_init 29 = .ok (.aload_n 0, 1) := by decide +kernel
theorem dX10_init_30 : decode cX10_init 30 = .ok (.bipush 40, 2) := by decide +kernel
theorem dX10_init_32 : decode cX10_init 32 = .ok (.newarray .int, 2) := by decide +kernel
theorem dX10_init_34 : decode cX10_init 34 = .ok (.putfield 19, 3) := by decide +kernel
theorem dX10_init_37 : decode cX10_init 37 = .ok (.aload_n 0, 1) := by decide +kernel
theorem dX10_init_38 : decode cX10_init 38 = .ok (.bipush 40, 2) := by decide +kernel
theorem dX10_init_40 : decode cX10_init 40 = .ok (.newarray .int, 2) := by decide +kernel
theorem dX10_init_42 : decode cX10_init 42 = .ok (.putfield 22, 3) := by decide +kernel
theorem dX10_init_45 : decode cX10_init 45 = .ok (.aload_n 0, 1) := by decide +kernel
theorem dX10_init_46 : decode cX10_init 46 = .ok (.bipush 40, 2) := by decide +kernel
theorem dX10_init_48 : decode cX10_init 48 = .ok (.newarray .int, 2) := by decide +kernel
theorem dX10_init_50 : decode cX10_init 50 = .ok (.putfield 25, 3) := by decide +kernel
theorem dX10_init_53 : decode cX10_init 53 = .ok (.aload_n 0, 1) := by decide +kernel
theorem dX10_init_54 : decode cX10_init 54 = .ok (.bipush 20, 2) := by decide +kernel
theorem dX10_init_56 : decode cX10_init 56 = .ok (.newarray .int, 2) := by decide +kernel
theorem dX10_init_58 : decode cX10_init 58 = .ok (.putfield 28, 3) := by decide +kernel
theorem dX10_init_61 : decode cX10_init 61 = .ok (.aload_n 0, 1) := by decide +kernel
theorem dX10_init_62 : decode cX10_init 62 = .ok (.iconst 1, 1) := by decide +kernel
theorem dX10_init_63 : decode cX10_init 63 = .ok (.putfield 31, 3) := by decide +kernel
theorem dX10_init_66 : decode cX10_init 66 = .ok (.aload_n 0, 1) := by decide +kernel
theorem dX10_init_67 : decode cX10_init 67 = .ok (.iconst 4, 1) := by decide +kernel
theorem dX10_init_68 : decode cX10_init 68 = .ok (.putfield 35, 3) := by decide +kernel
theorem dX10_init_71 : decode cX10_init 71 = .ok (.aload_n 0, 1) := by decide +kernel
theorem dX10_init_72 : decode cX10_init 72 = .ok (.bipush 16, 2) := by decide +kernel
theorem dX10_init_74 : decode cX10_init 74 = .ok (.newarray .int, 2) := by decide +kernel
theorem dX10_init_76 : decode cX10_init 76 = .ok (.putfield 38, 3) := by decide +kernel
theorem dX10_init_79 : decode cX10_init 79 = .ok (.aload_n 0, 1) := by decide +kernel
theorem dX10_init_80 : decode cX10_init 80 = .ok (.bipush 16, 2) := by decide +kernel
theorem dX10_init_82 : decode cX10_init 82 = .ok (.newarray .int, 2) := by decide +kernel
theorem dX10_init_84 : decode cX10_init 84 = .ok (.putfield 41, 3) := by decide +kernel
theorem dX10_init_87 : decode cX10_init 87 = .ok (.aload_n 0, 1) := by decide +kernel
theorem dX10_init_88 : decode cX10_init 88 = .ok (.bipush 16, 2) := by decide +kernel
theorem dX10_init_90 : decode cX10_init 90 = .ok (.newarray .int, 2) := by decide +kernel
theorem dX10_init_92 : decode cX10_init 92 = .ok (.putfield 44, 3) := by decide +kernel
theorem dX10_init_95 : decode cX10_init 95 = .ok (.aload_n 0, 1) := by decide +kernel
theorem dX10_init_96 : decode cX10_init 96 = .ok (.bipush 10, 2) := by decide +kernel
theorem dX10_init_98 : decode cX10_init 98 = .ok (.newarray .int, 2) := by decide +kernel
theorem dX10_init_100 : decode cX10_init 100 = .ok (.putfield 47, 3) := by decide +kernel
theorem dX10_init_103 : decode cX10_init 103 = .ok (.aload_n 0, 1) := by decide +kernel
theorem dX10_init_104 : decode cX10_init 104 = .ok (.bipush 32, 2) := by decide +kernel
theorem dX10_init_106 : decode cX10_init 106 = .ok (.newarray .int, 2) := by decide +kernel
theorem dX10_init_108 : decode cX10_init 108 = .ok (.putfield 50, 3) := by decide +kernel
theorem dX10_init_111 : decode cX10_init 111 = .ok (.aload_n 0, 1) := by decide +kernel
theorem dX10_init_112 : decode cX10_init 112 = .ok (.iconst 2, 1) := by decide +kernel
theorem dX10_init_113 : decode cX10_init 113 = .ok (.newarray .int, 2) := by decide +kernel
theorem dX10_init_115 : decode cX10_init 115 = .ok (.putfield 53, 3) := by decide +kernel
theorem dX10_init_118 : decode cX10_init 118 = .ok (.aload_n 0, 1) := by decide +kernel
theorem dX10_init_119 : decode cX10_init 119 = .ok (.bipush 12, 2) := by decide +kernel
theorem dX10_init_121 : decode cX10_init 121 = .ok (.newarray .int, 2) := by decide +kernel
theorem dX10_init_123 : decode cX10_init 123 = .ok (.putfield 56, 3) := by decide +kernel
theorem dX10_init_126 : decode cX10_init 126 = .ok (.aload_n 0, 1) := by decide +kernel
theorem dX10_init_127 : decode cX10_init 127 = .ok (.bipush 12, 2) := by decide +kernel
theorem dX10_init_129 : decode cX10_init 129 = .ok (.newarray .int, 2) := by decide +kernel
theorem dX10_init_131 : decode cX10_init 131 = .ok (.putfield 59, 3) := by decide +kernel
theorem dX10_init_134 : decode cX10_init 134 = .ok (.aload_n 0, 1) := by decide +kernel
theorem dX10_init_135 : decode cX10_init 135 = .ok (.bipush 12, 2) := by decide +kernel
theorem dX10_init_137 : decode cX10_init 137 = .ok (.newarray .int, 2) := by decide +kernel
theorem dX10_init_139 : decode cX10_init 139 = .ok (.putfield 62, 3) := by decide +kernel
theorem dX10_init_142 : decode cX10_init 142 = .ok (.aload_n 0, 1) := by decide +kernel
theorem dX10_init_143 : decode cX10_init 143 = .ok (.bipush 12, 2) := by decide +kernel
theorem dX10_init_145 : decode cX10_init 145 = .ok (.newarray .int, 2) := by decide +kernel
theorem dX10_init_147 : decode cX10_init 147 = .ok (.putfield 65, 3) := by decide +kernel
theorem dX10_init_150 : decode cX10_init 150 = .ok (.aload_n 0, 1) := by decide +kernel
theorem dX10_init_151 : decode cX10_init 151 = .ok (.bipush 8, 2) := by decide +kernel
theorem dX10_init_153 : decode cX10_init 153 = .ok (.newarray .int, 2) := by decide +kernel
theorem dX10_init_155 : decode cX10_init 155 = .ok (.putfield 68, 3) := by decide +kernel
theorem dX10_init_158 : decode cX10_init 158 = .ok (.aload_n 0, 1) := by decide +kernel
theorem dX10_init_159 : decode cX10_init 159 = .ok (.sipush 2048, 3) := by decide +kernel
theorem dX10_init_162 : decode cX10_init 162 = .ok (.newarray .int, 2) := by decide +kernel
theorem dX10_init_164 : decode cX10_init 164 = .ok (.putfield 71, 3) := by decide +kernel
theorem dX10_init_167 : decode cX10_init 167 = .ok (.aload_n 0, 1) := by decide +kernel
theorem dX10_init_168 : decode cX10_init 168 = .ok (.bipush 32, 2) := by decide +kernel
theorem dX10_init_170 : decode cX10_init 170 = .ok (.newarray .boolean, 2) := by decide +kernel
theorem dX10_init_172 : decode cX10_init 172 = .ok (.putfield 74, 3) := by decide +kernel
theorem dX10_init_175 : decode cX10_init 175 = .ok (.aload_n 0, 1) := by decide +kernel
theorem dX10_init_176 : decode cX10_init 176 = .ok (.bipush 32, 2) := by decide +kernel
theorem dX10_init_178 : decode cX10_init 178 = .ok (.newarray .int, 2) := by decide +kernel
theorem dX10_init_180 : decode cX10_init 180 = .ok (.putfield 78, 3) := by decide +kernel
theorem dX10_init_183 : decode cX10_init 183 = .ok (.aload_n 0, 1) := by decide +kernel
theorem dX10_init_184 : decode cX10_init 184 = .ok (.bipush 8, 2) := by decide +kernel
theorem dX10_init_186 : decode cX10_init 186 = .ok (.newarray .long, 2) := by decide +kernel
theorem dX10_init_188 : decode cX10_init 188 = .ok (.putfield 81, 3) := by decide +kernel
theorem dX10_init_191 : decode cX10_init 191 = .ok (.aload_n 0, 1) := by decide +kernel
theorem dX10_init_192 : decode cX10_init 192 = .ok (.bipush 8, 2) := by decide +kernel
theorem dX10_init_194 : decode cX10_init 194 = .ok (.newarray .long, 2) := by decide +kernel
theorem dX10_init_196 : decode cX10_init 196 = .ok (.putfield 85, 3) := by decide +kernel
theorem dX10_init_199 : decode cX10_init 199 = .ok (.return_, 1) := by decide +kernel
theorem dX10_in_0 : decode cX10_in 0 = .ok (.lload_n 0, 1) := by decide +kernel
theorem dX10_in_1 : decode cX10_in 1 = .ok (.lload_n 2, 1) := by decide +kernel
theorem dX10_in_2 : decode cX10_in 2 = .ok (.lcmp, 1) := by decide +kernel
theorem dX10_in_3 : decode cX10_in 3 = .ok (.ifCond .lt 14, 3) := by decide +kernel
theorem dX10_in_6 : decode cX10_in 6 = .ok (.lload_n 0, 1) := by decide +kernel
theorem dX10_in_7 : decode cX10_in 7 = .ok (.lload 4, 2) := by decide +kernel
theorem dX10_in_9 : decode cX10_in 9 = .ok (.lcmp, 1) := by decide +kernel
theorem dX10_in_10 : decode cX10_in 10 = .ok (.ifCond .gt 7, 3) := by decide +kernel
theorem dX10_in_13 : decode cX10_in 13 = .ok (.iconst 1, 1) := by decide +kernel
theorem dX10_in_14 : decode cX10_in 14 = .ok (.goto 4, 3) := by decide +kernel
theorem dX10_in_17 : decode cX10_in 17 = .ok (.iconst 0, 1) := by decide +kernel
theorem dX10_in_18 : decode cX10_in 18 = .ok (.ireturn, 1) := by decide +kernel
theorem dX10_divisor_0 : decode cX10_divisor 0 = .ok (.lload_n 0, 1) := by decide +kernel
theorem dX10_divisor_1 : decode cX10_divisor 1 = .ok (.lstore 4, 2) := by decide +kernel
theorem dX10_divisor_3 : decode cX10_divisor 3 = .ok (.lload_n 2, 1) := by decide +kernel
theorem dX10_divisor_4 : decode cX10_divisor 4 = .ok (.lstore 6, 2) := by decide +kernel
theorem dX10_divisor_6 : decode cX10_divisor 6 = .ok (.lload 6, 2) := by decide +kernel
theorem dX10_divisor_8 : decode cX10_divisor 8 = .ok (.lconst 0, 1) := by decide +kernel
theorem dX10_divisor_9 : decode cX10_divisor 9 = .ok (.lcmp, 1) := by decide +kernel
theorem dX10_divisor_10 : decode cX10_divisor 10 = .ok (.ifCond .eq 21, 3) := by decide +kernel
theorem dX10_divisor_13 : decode cX10_divisor 13 = .ok (.lload 4, 2) := by decide +kernel
theorem dX10_divisor_15 : decode cX10_divisor 15 = .ok (.lload 6, 2) := by decide +kernel
theorem dX10_divisor_17 : decode cX10_divisor 17 = .ok (.lrem, 1) := by decide +kernel
theorem dX10_divisor_18 : decode cX10_divisor 18 = .ok (.lstore 8, 2) := by decide +kernel
theorem dX10_divisor_20 : decode cX10_divisor 20 = .ok (.lload 6, 2) := by decide +kernel
theorem dX10_divisor_22 : decode cX10_divisor 22 = .ok (.lstore 4, 2) := by decide +kernel
theorem dX10_divisor_24 : decode cX10_divisor 24 = .ok (.lload 8, 2) := by decide +kernel
theorem dX10_divisor_26 : decode cX10_divisor 26 = .ok (.lstore 6, 2) := by decide +kernel
theorem dX10_divisor_28 : decode cX10_divisor 28 = .ok (.goto (-22), 3) := by decide +kernel
theorem dX10_divisor_31 : decode cX10_divisor 31 = .ok (.lload 4, 2) := by decide +kernel
theorem dX10_divisor_33 : decode cX10_divisor 33 = .ok (.lreturn, 1) := by decide +kernel
set_option maxRecDepth 20000 in
theorem ggX10_partOf_X10_divisor : GoodIn wsX10_partOf wsX10_divisor := goodIn_r _ [4] (by decide +kernel) (by decide +kernel)
set_option maxRecDepth 20000 in
theorem gX10_partOf_X10_divisor : GoodIn wsX10_partOf (va_wsS RX10 88 yX10_divisor wsX10_divisor) := goodIn_app (goodIn_of _ (by decide +kernel)) ggX10_partOf_X10_divisor
theorem dX10_partOf_0 : decode cX10_partOf 0 = .ok (.lload_n 0, 1) := by decide +kernel
theorem dX10_partOf_1 : decode cX10_partOf 1 = .ok (.lload_n 2, 1) := by decide +kernel
theorem dX10_partOf_2 : decode cX10_partOf 2 = .ok (.invokestatic 88, 3) := by decide +kernel
theorem dX10_partOf_5 : decode cX10_partOf 5 = .ok (.lstore 5, 2) := by decide +kernel
theorem dX10_partOf_7 : decode cX10_partOf 7 = .ok (.iload 4, 2) := by decide +kernel
theorem dX10_partOf_9 : decode cX10_partOf 9 = .ok (.ifCond .ne 10, 3) := by decide +kernel
theorem dX10_partOf_12 : decode cX10_partOf 12 = .ok (.lload_n 0, 1) := by decide +kernel
theorem dX10_partOf_13 : decode cX10_partOf 13 = .ok (.lload 5, 2) := by decide +kernel
theorem dX10_partOf_15 : decode cX10_partOf 15 = .ok (.ldiv, 1) := by decide +kernel
theorem dX10_partOf_16 : decode cX10_partOf 16 = .ok (.goto 7, 3) := by decide +kernel
theorem dX10_partOf_19 : decode cX10_partOf 19 = .ok (.lload_n 2, 1) := by decide +kernel
theorem dX10_partOf_20 : decode cX10_partOf 20 = .ok (.lload 5, 2) := by decide +kernel
theorem dX10_partOf_22 : decode cX10_partOf 22 = .ok (.ldiv, 1) := by decide +kernel
theorem dX10_partOf_23 : decode cX10_partOf 23 = .ok (.l2i, 1) := by decide +kernel
theorem dX10_partOf_24 : decode cX10_partOf 24 = .ok (.ireturn, 1) := by decide +kernel
theorem dX10_bits_0 : decode cX10_bits 0 = .ok (.iconst 0, 1) := by decide +kernel
theorem dX10_bits_1 : decode cX10_bits 1 = .ok (.istore_n 1, 1) := by decide +kernel
theorem dX10_bits_2 : decode cX10_bits 2 = .ok (.iconst 0, 1) := by decide +kernel
theorem dX10_bits_3 : decode cX10_bits 3 = .ok (.istore_n 2, 1) := by decide +kernel
theorem dX10_bits_4 : decode cX10_bits 4 = .ok (.iload_n 2, 1) := by decide +kernel
theorem dX10_bits_5 : decode cX10_bits 5 = .ok (.bipush 32, 2) := by decide +kernel
theorem dX10_bits_7 : decode cX10_bits 7 = .ok (.if_icmp .ge 17, 3) := by decide +kernel
theorem dX10_bits_10 : decode cX10_bits 10 = .ok (.iload_n 1, 1) := by decide +kernel
theorem dX10_bits_11 : decode cX10_bits 11 = .ok (.iload_n 0, 1) := by decide +kernel
theorem dX10_bits_12 : decode cX10_bits 12 = .ok (.iload_n 2, 1) := by decide +kernel
theorem dX10_bits_13 : decode cX10_bits 13 = .ok (.ishr, 1) := by decide +kernel
theorem dX10_bits_14 : decode cX10_bits 14 = .ok (.iconst 1, 1) := by decide +kernel
theorem dX10_bits_15 : decode cX10_bits 15 = .ok (.iand, 1) := by decide +kernel
theorem dX10_bits_16 : decode cX10_bits 16 = .ok (.iadd, 1) := by decide +kernel
theorem dX10_bits_17 : decode cX10_bits 17 = .ok (.istore_n 1, 1) := by decide +kernel
theorem dX10_bits_18 : decode cX10_bits 18 = .ok (.iinc 2 1, 3) := by decide +kernel
theorem dX10_bits_21 : decode cX10_bits 21 = .ok (.goto (-17), 3) := by decide +kernel
theorem dX10_bits_24 : decode cX10_bits 24 = .ok (.iload_n 1, 1) := by decide +kernel
theorem dX10_bits_25 : decode cX10_bits 25 = .ok (.ireturn, 1) := by decide +kernel
set_option maxRecDepth 20000 in
theorem ggX10_write_X10_in : GoodIn wsX10_write wsX10_in := goodIn_r _ [8] (by decide +kernel) (by decide +kernel)
set_option maxRecDepth 20000 in
theorem gX10_write_X10_in : GoodIn wsX10_write (va_wsS RX10 94 yX10_in wsX10_in) := goodIn_app (goodIn_of _ (by decide +kernel)) ggX10_write_X10_in
theorem dX10_write_0 : decode cX10_write 0 = .ok (.iload_n 3, 1) := by decide +kernel
theorem dX10_write_1 : decode cX10_write 1 = .ok (.i2l, 1) := by decide +kernel
theorem dX10_write_2 : decode cX10_write 2 = .ok (.lconst 1, 1) := by decide +kernel
theorem dX10_write_3 : decode cX10_write 3 = .ok (.ldc2_w 92, 3) := by decide +kernel
theorem dX10_write_6 : decode cX10_write 6 = .ok (.invokestatic 94, 3) := by decide +kernel
theorem dX10_write_9 : decode cX10_write 9 = .ok (.ifCond .ne 6, 3) := by decide +kernel
theorem dX10_write_12 : decode cX10_write 12 = .ok (.bipush (-3), 2) := by decide +kernel
theorem dX10_write_14 : decode cX10_write 14 = .ok (.ireturn, 1) := by decide +kernel
theorem dX10_write_15 : decode cX10_write 15 = .ok (.aload_n 0, 1) := by decide +kernel
theorem dX10_write_16 : decode cX10_write 16 = .ok (.getfield 98, 3) := by decide +kernel
theorem dX10_write_19 : decode cX10_write 19 = .ok (.iload_n 3, 1) := by decide +kernel
theorem dX10_write_20 : decode cX10_write 20 = .ok (.iadd, 1) := by decide +kernel
theorem dX10_write_21 : decode cX10_write 21 = .ok (.sipush 200, 3) := by decide +kernel
theorem dX10_write_24 : decode cX10_write 24 = .ok (.if_icmp .le 6, 3) := by decide +kernel
theorem dX10_write_27 : decode cX10_write 27 = .ok (.bipush (-5), 2) := by decide +kernel
theorem dX10_write_29 : decode cX10_write 29 = .ok (.ireturn, 1) := by decide +kernel
theorem dX10_write_30 : decode cX10_write 30 = .ok (.iconst 0, 1) := by decide +kernel
theorem dX10_write_31 : decode cX10_write 31 = .ok (.istore 4, 2) := by decide +kernel
theorem dX10_write_33 : decode cX10_write 33 = .ok (.iload 4, 2) := by decide +kernel
theorem dX10_write_35 : decode cX10_write 35 = .ok (.iload_n 3, 1) := by decide +kernel
theorem dX10_write_36 : decode cX10_write 36 = .ok (.if_icmp .ge 40, 3) := by decide +kernel
theorem dX10_write_39 : decode cX10_write 39 = .ok (.aload_n 0, 1) := by decide +kernel
theorem dX10_write_40 : decode cX10_write 40 = .ok (.getfield 7, 3) := by decide +kernel
theorem dX10_write_43 : decode cX10_write 43 = .ok (.aload_n 0, 1) := by decide +kernel
theorem dX10_write_44 : decode cX10_write 44 = .ok (.getfield 98, 3) := by decide +kernel
theorem dX10_write_47 : decode cX10_write 47 = .ok (.lload_n 1, 1) := by decide +kernel
theorem dX10_write_48 : decode cX10_write 48 = .ok (.bipush 8, 2) := by decide +kernel
theorem dX10_write_50 : decode cX10_write 50 = .ok (.iload 4, 2) := by decide +kernel
theorem dX10_write_52 : decode cX10_write 52 = .ok (.imul, 1) := by decide +kernel
theorem dX10_write_53 : decode cX10_write 53 = .ok (.lshr, 1) := by decide +kernel
theorem dX10_write_54 : decode cX10_write 54 = .ok (.ldc2_w 101, 3) := by decide +kernel
theorem dX10_write_57 : decode cX10_write 57 = .ok (.land, 1) := by decide +kernel
theorem dX10_write_58 : decode cX10_write 58 = .ok (.l2i, 1) := by decide +kernel
theorem dX10_write_59 : decode cX10_write 59 = .ok (.iastore, 1) := by decide +kernel
theorem dX10_write_60 : decode cX10_write 60 = .ok (.aload_n 0, 1) := by decide +kernel
theorem dX10_write_61 : decode cX10_write 61 = .ok (.dup, 1) := by decide +kernel
theorem dX10_write_62 : decode cX10_write 62 = .ok (.getfield 98, 3) := by decide +kernel
theorem dX10_write_65 : decode cX10_write 65 = .ok (.iconst 1, 1) := by decide +kernel
theorem dX10_write_66 : decode cX10_write 66 = .ok (.iadd, 1) := by decide +kernel
theorem dX10_write_67 : decode cX10_write 67 = .ok (.putfield 98, 3) := by decide +kernel
theorem dX10_write_70 : decode cX10_write 70 = .ok (.iinc 4 1, 3) := by decide +kernel
theorem dX10_write_73 : decode cX10_write 73 = .ok (.goto (-40), 3) := by decide +kernel
theorem dX10_write_76 : decode cX10_write 76 = .ok (.aload_n 0, 1) := by decide +kernel
theorem dX10_write_77 : decode cX10_write 77 = .ok (.getfield 98, 3) := by decide +kernel
theorem dX10_write_80 : decode cX10_write 80 = .ok (.ireturn, 1) := by decide +kernel
theorem dX10_erase_0 : decode cX10_erase 0 = .ok (.aload_n 0, 1) := by decide +kernel
theorem dX10_erase_1 : decode cX10_erase 1 = .ok (.getfield 98, 3) := by decide +kernel
theorem dX10_erase_4 : decode cX10_erase 4 = .ok (.istore_n 1, 1) := by decide +kernel
theorem dX10_erase_5 : decode cX10_erase 5 = .ok (.aload_n 0, 1) := by decide +kernel
theorem dX10_erase_6 : decode cX10_erase 6 = .ok (.iconst 0, 1) := by decide +kernel
theorem dX10_erase_7 : decode cX10_erase 7 = .ok (.putfield 98, 3) := by decide +kernel
theorem dX10_erase_10 : decode cX10_erase 10 = .ok (.iload_n 1, 1) := by decide +kernel
theorem dX10_erase_11 : decode cX10_erase 11 = .ok (.ireturn, 1) := by decide +kernel
theorem dX10_sort_0 : decode cX10_sort 0 = .ok (.iload_n 0, 1) := by decide +kernel
theorem dX10_sort_1 : decode cX10_sort 1 = .ok (.bipush 97, 2) := by decide +kernel
theorem dX10_sort_3 : decode cX10_sort 3 = .ok (.if_icmp .lt 13, 3) := by decide +kernel
theorem dX10_sort_6 : decode cX10_sort 6 = .ok (.iload_n 0, 1) := by decide +kernel
theorem dX10_sort_7 : decode cX10_sort 7 = .ok (.bipush 122, 2) := by decide +kernel
theorem dX10_sort_9 : decode cX10_sort 9 = .ok (.if_icmp .gt 7, 3) := by decide +kernel
theorem dX10_sort_12 : decode cX10_sort 12 = .ok (.iconst 1, 1) := by decide +kernel
theorem dX10_sort_13 : decode cX10_sort 13 = .ok (.goto 20, 3) := by decide +kernel
theorem dX10_sort_16 : decode cX10_sort 16 = .ok (.iload_n 0, 1) := by decide +kernel
theorem dX10_sort_17 : decode cX10_sort 17 = .ok (.bipush 48, 2) := by decide +kernel
theorem dX10_sort_19 : decode cX10_sort 19 = .ok (.if_icmp .lt 13, 3) := by decide +kernel
theorem dX10_sort_22 : decode cX10_sort 22 = .ok (.iload_n 0, 1) := by decide +kernel
theorem dX10_sort_23 : decode cX10_sort 23 = .ok (.bipush 57, 2) := by decide +kernel
theorem dX10_sort_25 : decode cX10_sort 25 = .ok (.if_icmp .gt 7, 3) := by decide +kernel
theorem dX10_sort_28 : decode cX10_sort 28 = .ok (.iconst 2, 1) := by decide +kernel
theorem dX10_sort_29 : decode cX10_sort 29 = .ok (.goto 4, 3) := by decide +kernel
theorem dX10_sort_32 : decode cX10_sort 32 = .ok (.iconst 0, 1) := by decide +kernel
theorem dX10_sort_33 : decode cX10_sort 33 = .ok (.ireturn, 1) := by decide +kernel
set_option maxRecDepth 20000 in
theorem ggX10_token_X10_sort : GoodIn wsX10_token wsX10_sort := goodIn_r _ [9] (by decide +kernel) (by decide +kernel)
set_option maxRecDepth 20000 in
theorem gX10_token_X10_sort : GoodIn wsX10_token (va_wsS RX10 109 yX10_sort wsX10_sort) := goodIn_app (goodIn_of _ (by decide +kernel)) ggX10_token_X10_sort
theorem dX10_token_0 : decode cX10_token 0 = .ok (.aload_n 0, 1) := by decide +kernel
theorem dX10_token_1 : decode cX10_token 1 = .ok (.getfield 103, 3) := by decide +kernel
theorem dX10_token_4 : decode cX10_token 4 = .ok (.aload_n 0, 1) := by decide +kernel
theorem dX10_token_5 : decode cX10_token 5 = .ok (.getfield 98, 3) := by decide +kernel
theorem dX10_token_8 : decode cX10_token 8 = .ok (.if_icmp .ge 30, 3) := by decide +kernel
theorem dX10_token_11 : decode cX10_token 11 = .ok (.aload_n 0, 1) := by decide +kernel
theorem dX10_token_12 : decode cX10_token 12 = .ok (.getfield 7, 3) := by decide +kernel
theorem dX10_token_15 : decode cX10_token 15 = .ok (.aload_n 0, 1) := by decide +kernel
theorem dX10_token_16 : decode cX10_token 16 = .ok (.getfield 103, 3) := by decide +kernel
theorem dX10_token_19 : decode cX10_token 19 = .ok (.iaload, 1) := by decide +kernel
theorem dX10_token_20 : decode cX10_token 20 = .ok (.bipush 32, 2) := by decide +kernel
theorem dX10_token_22 : decode cX10_token 22 = .ok (.if_icmp .ne 16, 3) := by decide +kernel
theorem dX10_token_25 : decode cX10_token 25 = .ok (.aload_n 0, 1) := by decide +kernel
theorem dX10_token_26 : decode cX10_token 26 = .ok (.dup, 1) := by decide +kernel
theorem dX10_token_27 : decode cX10_token 27 = .ok (.getfield 103, 3) := by decide +kernel
theorem dX10_token_30 : decode cX10_token 30 = .ok (.iconst 1, 1) := by decide +kernel
theorem dX10_token_31 : decode cX10_token 31 = .ok (.iadd, 1) := by decide +kernel
theorem dX10_token_32 : decode cX10_token 32 = .ok (.putfield 103, 3) := by decide +kernel
theorem dX10_token_35 : decode cX10_token 35 = .ok (.goto (-35), 3) := by decide +kernel
theorem dX10_token_38 : decode cX10_token 38 = .ok (.aload_n 0, 1) := by decide +kernel
theorem dX10_token_39 : decode cX10_token 39 = .ok (.aload_n 0, 1) := by decide +kernel
theorem dX10_token_40 : decode cX10_token 40 = .ok (.getfield 103, 3) := by decide +kernel
theorem dX10_token_43 : decode cX10_token 43 = .ok (.putfield 106, 3) := by decide +kernel
theorem dX10_token_46 : decode cX10_token 46 = .ok (.aload_n 0, 1) := by decide +kernel
theorem dX10_token_47 : decode cX10_token 47 = .ok (.dup, 1) := by decide +kernel
theorem dX10_token_48 : decode cX10_token 48 = .ok (.getfield 103, 3) := by decide +kernel
theorem dX10_token_51 : decode cX10_token 51 = .ok (.aload_n 0, 1) := by decide +kernel
theorem dX10_token_52 : decode cX10_token 52 = .ok (.getfield 103, 3) := by decide +kernel
theorem dX10_token_55 : decode cX10_token 55 = .ok (.aload_n 0, 1) := by decide +kernel
theorem dX10_token_56 : decode cX10_token 56 = .ok (.getfield 98, 3) := by decide +kernel
theorem dX10_token_59 : decode cX10_token 59 = .ok (.if_icmp .ge 7, 3) := by decide +kernel
theorem dX10_token_62 : decode cX10_token 62 = .ok (.iconst 1, 1) := by decide +kernel
theorem dX10_token_63 : decode cX10_token 63 = .ok (.goto 4, 3) := by decide +kernel
theorem dX10_token_66 : decode cX10_token 66 = .ok (.iconst 0, 1) := by decide +kernel
theorem dX10_token_67 : decode cX10_token 67 = .ok (.iadd, 1) := by decide +kernel
theorem dX10_token_68 : decode cX10_token 68 = .ok (.putfield 103, 3) := by decide +kernel
theorem dX10_token_71 : decode cX10_token 71 = .ok (.aload_n 0, 1) := by decide +kernel
theorem dX10_token_72 : decode cX10_token 72 = .ok (.getfield 103, 3) := by decide +kernel
theorem dX10_token_75 : decode cX10_token 75 = .ok (.aload_n 0, 1) := by decide +kernel
theorem dX10_token_76 : decode cX10_token 76 = .ok (.getfield 98, 3) := by decide +kernel
theorem dX10_token_79 : decode cX10_token 79 = .ok (.if_icmp .ge 58, 3) := by decide +kernel
theorem dX10_token_82 : decode cX10_token 82 = .ok (.aload_n 0, 1) := by decide +kernel
theorem dX10_token_83 : decode cX10_token 83 = .ok (.getfield 7, 3) := by decide +kernel
theorem dX10_token_86 : decode cX10_token 86 = .ok (.aload_n 0, 1) := by decide +kernel
theorem dX10_token_87 : decode cX10_token 87 = .ok (.getfield 106, 3) := by decide +kernel
theorem dX10_token_90 : decode cX10_token 90 = .ok (.iaload, 1) := by decide +kernel
theorem dX10_token_91 : decode cX10_token 91 = .ok (.invokestatic 109, 3) := by decide +kernel
theorem dX10_token_94 : decode cX10_token 94 = .ok (.ifCond .le 43, 3) := by decide +kernel
theorem dX10_token_97 : decode cX10_token 97 = .ok (.aload_n 0, 1) := by decide +kernel
theorem dX10_token_98 : decode cX10_token 98 = .ok (.getfield 7, 3) := by decide +kernel
theorem dX10_token_101 : decode cX10_token 101 = .ok (.aload_n 0, 1) := by decide +kernel
theorem dX10_token_102 : decode cX10_token 102 = .ok (.getfield 103, 3) := by decide +kernel
theorem dX10_token_105 : decode cX10_token 105 = .ok (.iaload, 1) := by decide +kernel
theorem dX10_token_106 : decode cX10_token 106 = .ok (.invokestatic 109, 3) := by decide +kernel
theorem dX10_token_109 : decode cX10_token 109 = .ok (.aload_n 0, 1) := by decide +kernel
theorem dX10_token_110 : decode cX10_token 110 = .ok (.getfield 7, 3) := by decide +kernel
theorem dX10_token_113 : decode cX10_token 113 = .ok (.aload_n 0, 1) := by decide +kernel
theorem dX10_token_114 : decode cX10_token 114 = .ok (.getfield 106, 3) := by decide +kernel
theorem dX10_token_117 : decode cX10_token 117 = .ok (.iaload, 1) := by decide +kernel
theorem dX10_token_118 : decode cX10_token 118 = .ok (.invokestatic 109, 3) := by decide +kernel
theorem dX10_token_121 : decode cX10_token 121 = .ok (.if_icmp .ne 16, 3) := by decide +kernel
theorem dX10_token_124 : decode cX10_token 124 = .ok (.aload_n 0, 1) := by decide +kernel
theorem dX10_token_125 : decode cX10_token 125 = .ok (.dup, 1) := by decide +kernel
theorem dX10_token_126 : decode cX10_token 126 = .ok (.getfield 103, 3) := by decide +kernel
theorem dX10_token_129 : decode cX10_token 129 = .ok (.iconst 1, 1) := by decide +kernel
theorem dX10_token_130 : decode cX10_token 130 = .ok (.iadd, 1) := by decide +kernel
theorem dX10_token_131 : decode cX10_token 131 = .ok (.putfield 103, 3) := by decide +kernel
theorem dX10_token_134 : decode cX10_token 134 = .ok (.goto (-63), 3) := by decide +kernel
theorem dX10_token_137 : decode cX10_token 137 = .ok (.aload_n 0, 1) := by decide +kernel
theorem dX10_token_138 : decode cX10_token 138 = .ok (.aload_n 0, 1) := by decide +kernel
theorem dX10_token_139 : decode cX10_token 139 = .ok (.getfield 103, 3) := by decide +kernel
theorem dX10_token_142 : decode cX10_token 142 = .ok (.putfield 113, 3) := by decide +kernel
theorem dX10_token_145 : decode cX10_token 145 = .ok (.return_, 1) := by decide +kernel
theorem dX10_isWord_0 : decode cX10_isWord 0 = .ok (.aload_n 0, 1) := by decide +kernel
theorem dX10_isWord_1 : decode cX10_isWord 1 = .ok (.getfield 113, 3) := by decide +kernel
theorem dX10_isWord_4 : decode cX10_isWord 4 = .ok (.aload_n 0, 1) := by decide +kernel
theorem dX10_isWord_5 : decode cX10_isWord 5 = .ok (.getfield 106, 3) := by decide +kernel
theorem dX10_isWord_8 : decode cX10_isWord 8 = .ok (.isub, 1) := by decide +kernel
theorem dX10_isWord_9 : decode cX10_isWord 9 = .ok (.iload_n 2, 1) := by decide +kernel
theorem dX10_isWord_10 : decode cX10_isWord 10 = .ok (.if_icmp .ne 7, 3) := by decide +kernel
theorem dX10_isWord_13 : decode cX10_isWord 13 = .ok (.iconst 1, 1) := by decide +kernel
theorem dX10_isWord_14 : decode cX10_isWord 14 = .ok (.goto 4, 3) := by decide +kernel
theorem dX10_isWord_17 : decode cX10_isWord 17 = .ok (.iconst 0, 1) := by decide +kernel
theorem dX10_isWord_18 : decode cX10_isWord 18 = .ok (.istore_n 3, 1) := by decide +kernel
theorem dX10_isWord_19 : decode cX10_isWord 19 = .ok (.iconst 0, 1) := by decide +kernel
theorem dX10_isWord_20 : decode cX10_isWord 20 = .ok (.istore 4, 2) := by decide +kernel
theorem dX10_isWord_22 : decode cX10_isWord 22 = .ok (.iload_n 3, 1) := by decide +kernel
theorem dX10_isWord_23 : decode cX10_isWord 23 = .ok (.ifCond .eq 48, 3) := by decide +kernel
theorem dX10_isWord_26 : decode cX10_isWord 26 = .ok (.iload 4, 2) := by decide +kernel
theorem dX10_isWord_28 : decode cX10_isWord 28 = .ok (.iload_n 2, 1) := by decide +kernel
theorem dX10_isWord_29 : decode cX10_isWord 29 = .ok (.if_icmp .ge 42, 3) := by decide +kernel
theorem dX10_isWord_32 : decode cX10_isWord 32 = .ok (.aload_n 0, 1) := by decide +kernel
theorem dX10_isWord_33 : decode cX10_isWord 33 = .ok (.getfield 7, 3) := by decide +kernel
theorem dX10_isWord_36 : decode cX10_isWord 36 = .ok (.aload_n 0, 1) := by decide +kernel
theorem dX10_isWord_37 : decode cX10_isWord 37 = .ok (.getfield 106, 3) := by decide +kernel
theorem dX10_isWord_40 : decode cX10_isWord 40 = .ok (.iload 4, 2) := by decide +kernel
theorem dX10_isWord_42 : decode cX10_isWord 42 = .ok (.iadd, 1) := by decide +kernel
theorem dX10_isWord_43 : decode cX10_isWord 43 = .ok (.iaload, 1) := by decide +kernel
theorem dX10_isWord_44 : decode cX10_isWord 44 = .ok (.bipush 96, 2) := by decide +kernel
theorem dX10_isWord_46 : decode cX10_isWord 46 = .ok (.iload_n 1, 1) := by decide +kernel
theorem dX10_isWord_47 : decode cX10_isWord 47 = .ok (.iconst 5, 1) := by decide +kernel
theorem dX10_isWord_48 : decode cX10_isWord 48 = .ok (.iload 4, 2) := by decide +kernel
theorem dX10_isWord_50 : decode cX10_isWord 50 = .ok (.imul, 1) := by decide +kernel
theorem dX10_isWord_51 : decode cX10_isWord 51 = .ok (.ishr, 1) := by decide +kernel
theorem dX10_isWord_52 : decode cX10_isWord 52 = .ok (.bipush 31, 2) := by decide +kernel
theorem dX10_isWord_54 : decode cX10_isWord 54 = .ok (.iand, 1) := by decide +kernel
theorem dX10_isWord_55 : decode cX10_isWord 55 = .ok (.iadd, 1) := by decide +kernel
theorem dX10_isWord_56 : decode cX10_isWord 56 = .ok (.if_icmp .ne 7, 3) := by decide +kernel
theorem dX10_isWord_59 : decode cX10_isWord 59 = .ok (.iconst 1, 1) := by decide +kernel
theorem dX10_isWord_60 : decode cX10_isWord 60 = .ok (.goto 4, 3) := by decide +kernel
theorem dX10_isWord_63 : decode cX10_isWord 63 = .ok (.iconst 0, 1) := by decide +kernel
theorem dX10_isWord_64 : decode cX10_isWord 64 = .ok (.istore_n 3, 1) := by decide +kernel
theorem dX10_isWord_65 : decode cX10_isWord 65 = .ok (.iinc 4 1, 3) := by decide +kernel
theorem dX10_isWord_68 : decode cX10_isWord 68 = .ok (.goto (-46), 3) := by decide +kernel
theorem dX10_isWord_71 : decode cX10_isWord 71 = .ok (.iload_n 3, 1) := by decide +kernel
theorem dX10_isWord_72 : decode cX10_isWord 72 = .ok (.ireturn, 1) := by decide +kernel
set_option maxRecDepth 20000 in
theorem ggX10_isNumber_X10_sort : GoodIn wsX10_isNumber wsX10_sort := goodIn_r _ [9] (by decide +kernel) (by decide +kernel)
set_option maxRecDepth 20000 in
theorem gX10_isNumber_X10_sort : GoodIn wsX10_isNumber (va_wsS RX10 109 yX10_sort wsX10_sort) := goodIn_app (goodIn_of _ (by decide +kernel)) ggX10_isNumber_X10_sort
set_option maxRecDepth 20000 in
theorem ggX10_isNumber_X10_in : GoodIn wsX10_isNumber wsX10_in := goodIn_r _ [12] (by decide +kernel) (by decide +kernel)
set_option maxRecDepth 20000 in
theorem gX10_isNumber_X10_in : GoodIn wsX10_isNumber (va_wsS RX10 94 yX10_in wsX10_in) := goodIn_app (goodIn_of _ (by decide +kernel)) ggX10_isNumber_X10_in
theorem dX10_isNumber_0 : decode cX10_isNumber 0 = .ok (.aload_n 0, 1) := by decide +kernel
theorem dX10_isNumber_1 : decode cX10_isNumber 1 = .ok (.getfield 106, 3) := by decide +kernel
theorem dX10_isNumber_4 : decode cX10_isNumber 4 = .ok (.aload_n 0, 1) := by decide +kernel
theorem dX10_isNumber_5 : decode cX10_isNumber 5 = .ok (.getfield 98, 3) := by decide +kernel
theorem dX10_isNumber_8 : decode cX10_isNumber 8 = .ok (.if_icmp .ge 36, 3) := by decide +kernel
theorem dX10_isNumber_11 : decode cX10_isNumber 11 = .ok (.aload_n 0, 1) := by decide +kernel
theorem dX10_isNumber_12 : decode cX10_isNumber 12 = .ok (.getfield 7, 3) := by decide +kernel
theorem dX10_isNumber_15 : decode cX10_isNumber 15 = .ok (.aload_n 0, 1) := by decide +kernel
theorem dX10_isNumber_16 : decode cX10_isNumber 16 = .ok (.getfield 106, 3) := by decide +kernel
theorem dX10_isNumber_19 : decode cX10_isNumber 19 = .ok (.iaload, 1) := by decide +kernel
theorem dX10_isNumber_20 : decode cX10_isNumber 20 = .ok (.invokestatic 109, 3) := by decide +kernel
theorem dX10_isNumber_23 : decode cX10_isNumber 23 = .ok (.iconst 2, 1) := by decide +kernel
theorem dX10_isNumber_24 : decode cX10_isNumber 24 = .ok (.if_icmp .ne 20, 3) := by decide +kernel
theorem dX10_isNumber_27 : decode cX10_isNumber 27 = .ok (.aload_n 0, 1) := by decide +kernel
theorem dX10_isNumber_28 : decode cX10_isNumber 28 = .ok (.getfield 113, 3) := by decide +kernel
theorem dX10_isNumber_31 : decode cX10_isNumber 31 = .ok (.aload_n 0, 1) := by decide +kernel
theorem dX10_isNumber_32 : decode cX10_isNumber 32 = .ok (.getfield 106, 3) := by decide +kernel
theorem dX10_isNumber_35 : decode cX10_isNumber 35 = .ok (.isub, 1) := by decide +kernel
theorem dX10_isNumber_36 : decode cX10_isNumber 36 = .ok (.iconst 2, 1) := by decide +kernel
theorem dX10_isNumber_37 : decode cX10_isNumber 37 = .ok (.if_icmp .gt 7, 3) := by decide +kernel
theorem dX10_isNumber_40 : decode cX10_isNumber 40 = .ok (.iconst 1, 1) := by decide +kernel
theorem dX10_isNumber_41 : decode cX10_isNumber 41 = .ok (.goto 4, 3) := by decide +kernel
theorem dX10_isNumber_44 : decode cX10_isNumber 44 = .ok (.iconst 0, 1) := by decide +kernel
theorem dX10_isNumber_45 : decode cX10_isNumber 45 = .ok (.istore_n 3, 1) := by decide +kernel
theorem dX10_isNumber_46 : decode cX10_isNumber 46 = .ok (.aload_n 0, 1) := by decide +kernel
theorem dX10_isNumber_47 : decode cX10_isNumber 47 = .ok (.iconst 0, 1) := by decide +kernel
theorem dX10_isNumber_48 : decode cX10_isNumber 48 = .ok (.putfield 116, 3) := by decide +kernel
theorem dX10_isNumber_51 : decode cX10_isNumber 51 = .ok (.aload_n 0, 1) := by decide +kernel
theorem dX10_isNumber_52 : decode cX10_isNumber 52 = .ok (.getfield 106, 3) := by decide +kernel
theorem dX10_isNumber_55 : decode cX10_isNumber 55 = .ok (.istore 4, 2) := by decide +kernel
theorem dX10_isNumber_57 : decode cX10_isNumber 57 = .ok (.iload_n 3, 1) := by decide +kernel
theorem dX10_isNumber_58 : decode cX10_isNumber 58 = .ok (.ifCond .eq 40, 3) := by decide +kernel
theorem dX10_isNumber_61 : decode cX10_isNumber 61 = .ok (.iload 4, 2) := by decide +kernel
theorem dX10_isNumber_63 : decode cX10_isNumber 63 = .ok (.aload_n 0, 1) := by decide +kernel
theorem dX10_isNumber_64 : decode cX10_isNumber 64 = .ok (.getfield 113, 3) := by decide +kernel
theorem dX10_isNumber_67 : decode cX10_isNumber 67 = .ok (.if_icmp .ge 31, 3) := by decide +kernel
theorem dX10_isNumber_70 : decode cX10_isNumber 70 = .ok (.aload_n 0, 1) := by decide +kernel
theorem dX10_isNumber_71 : decode cX10_isNumber 71 = .ok (.bipush 10, 2) := by decide +kernel
theorem dX10_isNumber_73 : decode cX10_isNumber 73 = .ok (.aload_n 0, 1) := by decide +kernel
theorem dX10_isNumber_74 : decode cX10_isNumber 74 = .ok (.getfield 116, 3) := by decide +kernel
theorem dX10_isNumber_77 : decode cX10_isNumber 77 = .ok (.imul, 1) := by decide +kernel
theorem dX10_isNumber_78 : decode cX10_isNumber 78 = .ok (.aload_n 0, 1) := by decide +kernel
theorem dX10_isNumber_79 : decode cX10_isNumber 79 = .ok (.getfield 7, 3) := by decide +kernel
theorem dX10_isNumber_82 : decode cX10_isNumber 82 = .ok (.iload 4, 2) := by decide +kernel
theorem dX10_isNumber_84 : decode cX10_isNumber 84 = .ok (.iaload, 1) := by decide +kernel
theorem dX10_isNumber_85 : decode cX10_isNumber 85 = .ok (.iadd, 1) := by decide +kernel
theorem dX10_isNumber_86 : decode cX10_isNumber 86 = .ok (.bipush 48, 2) := by decide +kernel
theorem dX10_isNumber_88 : decode cX10_isNumber 88 = .ok (.isub, 1) := by decide +kernel
theorem dX10_isNumber_89 : decode cX10_isNumber 89 = .ok (.putfield 116, 3) := by decide +kernel
theorem dX10_isNumber_92 : decode cX10_isNumber 92 = .ok (.iinc 4 1, 3) := by decide +kernel
theorem dX10_isNumber_95 : decode cX10_isNumber 95 = .ok (.goto (-38), 3) := by decide +kernel
theorem dX10_isNumber_98 : decode cX10_isNumber 98 = .ok (.iload_n 3, 1) := by decide +kernel
theorem dX10_isNumber_99 : decode cX10_isNumber 99 = .ok (.ifCond .eq 22, 3) := by decide +kernel
theorem dX10_isNumber_102 : decode cX10_isNumber 102 = .ok (.aload_n 0, 1) := by decide +kernel
theorem dX10_isNumber_103 : decode cX10_isNumber 103 = .ok (.getfield 116, 3) := by decide +kernel
theorem dX10_isNumber_106 : decode cX10_isNumber 106 = .ok (.i2l, 1) := by decide +kernel
theorem dX10_isNumber_107 : decode cX10_isNumber 107 = .ok (.iload_n 1, 1) := by decide +kernel
theorem dX10_isNumber_108 : decode cX10_isNumber 108 = .ok (.i2l, 1) := by decide +kernel
theorem dX10_isNumber_109 : decode cX10_isNumber 109 = .ok (.iload_n 2, 1) := by decide +kernel
theorem dX10_isNumber_110 : decode cX10_isNumber 110 = .ok (.i2l, 1) := by decide +kernel
theorem dX10_isNumber_111 : decode cX10_isNumber 111 = .ok (.invokestatic 94, 3) := by decide +kernel
theorem dX10_isNumber_114 : decode cX10_isNumber 114 = .ok (.ifCond .eq 7, 3) := by decide +kernel
theorem dX10_isNumber_117 : decode cX10_isNumber 117 = .ok (.iconst 1, 1) := by decide +kernel
theorem dX10_isNumber_118 : decode cX10_isNumber 118 = .ok (.goto 4, 3) := by decide +kernel
theorem dX10_isNumber_121 : decode cX10_isNumber 121 = .ok (.iconst 0, 1) := by decide +kernel
theorem dX10_isNumber_122 : decode cX10_isNumber 122 = .ok (.ireturn, 1) := by decide +kernel
set_option maxRecDepth 20000 in
theorem ggX10_skipsNumber_X10_isNumber : GoodIn wsX10_skipsNumber wsX10_isNumber := goodIn_r _ [5, 6, 7, 8, 9, 10, 11, 12, 4, 13, 14, 15, 16, 22, 23, 24, 25, 26, 27, 28, 29, 30, 31, 32, 33, 34, 35, 36, 37, 38, 39, 40, 41, 42, 43, 44, 45, 46, 47, 48, 49, 50, 51, 52, 53, 54, 55, 56, 57, 58, 59, 60] (by decide +kernel) (by decide +kernel)
set_option maxRecDepth 20000 in
theorem gX10_skipsNumber_X10_isNumber : GoodIn wsX10_skipsNumber (wsV RX10 119 RX10 yX10_isNumber wsX10_isNumber) := goodIn_app (goodIn_of _ (by decide +kernel)) ggX10_skipsNumber_X10_isNumber
set_option maxRecDepth 20000 in
theorem ggX10_skipsNumber_X10_token : GoodIn wsX10_skipsNumber wsX10_token := goodIn_r _ [20, 21, 7, 8, 6, 9, 11, 12, 4, 13, 22, 23, 24, 25, 26, 27, 28, 29, 30, 31, 32, 33, 34, 35, 36, 37, 38, 39, 40, 41, 42, 43, 44, 45, 46, 47, 48, 49, 50, 51, 52, 53, 54, 55, 56, 57, 58, 59, 60] (by decide +kernel) (by decide +kernel)
set_option maxRecDepth 20000 in
theorem gX10_skipsNumber_X10_token : GoodIn wsX10_skipsNumber (wsV RX10 123 RX10 yX10_token wsX10_token) := goodIn_app (goodIn_of _ (by decide +kernel)) ggX10_skipsNumber_X10_token
theorem dX10_skipsNumber_0 : decode cX10_skipsNumber 0 = .ok (.aload_n 0, 1) := by decide +kernel
theorem dX10_skipsNumber_1 : decode cX10_skipsNumber 1 = .ok (.iload_n 1, 1) := by decide +kernel
theorem dX10_skipsNumber_2 : decode cX10_skipsNumber 2 = .ok (.iload_n 2, 1) := by decide +kernel
theorem dX10_skipsNumber_3 : decode cX10_skipsNumber 3 = .ok (.invokevirtual 119, 3) := by decide +kernel
theorem dX10_skipsNumber_6 : decode cX10_skipsNumber 6 = .ok (.istore_n 3, 1) := by decide +kernel
theorem dX10_skipsNumber_7 : decode cX10_skipsNumber 7 = .ok (.iload_n 3, 1) := by decide +kernel
theorem dX10_skipsNumber_8 : decode cX10_skipsNumber 8 = .ok (.ifCond .eq 7, 3) := by decide +kernel
theorem dX10_skipsNumber_11 : decode cX10_skipsNumber 11 = .ok (.aload_n 0, 1) := by decide +kernel
theorem dX10_skipsNumber_12 : decode cX10_skipsNumber 12 = .ok (.invokevirtual 123, 3) := by decide +kernel
theorem dX10_skipsNumber_15 : decode cX10_skipsNumber 15 = .ok (.iload_n 3, 1) := by decide +kernel
theorem dX10_skipsNumber_16 : decode cX10_skipsNumber 16 = .ok (.ireturn, 1) := by decide +kernel
set_option maxRecDepth 20000 in
theorem ggX10_wordNow_X10_isWord : GoodIn wsX10_wordNow wsX10_isWord := goodIn_r _ [8, 9, 10, 11, 12, 13, 14, 15, 16, 17, 18, 19, 20, 21, 22, 23, 24, 25, 26, 27, 28, 29, 30, 31, 32, 33, 34, 35, 36, 37, 38, 39, 40, 41, 42, 43, 44, 45, 46, 47, 48, 49, 50] (by decide +kernel) (by decide +kernel)
set_option maxRecDepth 20000 in
theorem gX10_wordNow_X10_isWord : GoodIn wsX10_wordNow (wsV RX10 127 RX10 yX10_isWord wsX10_isWord) := goodIn_app (goodIn_of _ (by decide +kernel)) ggX10_wordNow_X10_isWord
theorem dX10_wordNow_0 : decode cX10_wordNow 0 = .ok (.aload_n 0, 1) := by decide +kernel
theorem dX10_wordNow_1 : decode cX10_wordNow 1 = .ok (.ldc 126, 2) := by decide +kernel
theorem dX10_wordNow_3 : decode cX10_wordNow 3 = .ok (.iconst 4, 1) := by decide +kernel
theorem dX10_wordNow_4 : decode cX10_wordNow 4 = .ok (.invokevirtual 127, 3) := by decide +kernel
theorem dX10_wordNow_7 : decode cX10_wordNow 7 = .ok (.ifCond .eq 7, 3) := by decide +kernel
theorem dX10_wordNow_10 : decode cX10_wordNow 10 = .ok (.iconst 0, 1) := by decide +kernel
theorem dX10_wordNow_11 : decode cX10_wordNow 11 = .ok (.goto 109, 3) := by decide +kernel
theorem dX10_wordNow_14 : decode cX10_wordNow 14 = .ok (.aload_n 0, 1) := by decide +kernel
theorem dX10_wordNow_15 : decode cX10_wordNow 15 = .ok (.sipush 457, 3) := by decide +kernel
theorem dX10_wordNow_18 : decode cX10_wordNow 18 = .ok (.iconst 2, 1) := by decide +kernel
theorem dX10_wordNow_19 : decode cX10_wordNow 19 = .ok (.invokevirtual 127, 3) := by decide +kernel
theorem dX10_wordNow_22 : decode cX10_wordNow 22 = .ok (.ifCond .eq 7, 3) := by decide +kernel
theorem dX10_wordNow_25 : decode cX10_wordNow 25 = .ok (.iconst 1, 1) := by decide +kernel
theorem dX10_wordNow_26 : decode cX10_wordNow 26 = .ok (.goto 94, 3) := by decide +kernel
theorem dX10_wordNow_29 : decode cX10_wordNow 29 = .ok (.aload_n 0, 1) := by decide +kernel
theorem dX10_wordNow_30 : decode cX10_wordNow 30 = .ok (.sipush 617, 3) := by decide +kernel
theorem dX10_wordNow_33 : decode cX10_wordNow 33 = .ok (.iconst 2, 1) := by decide +kernel
theorem dX10_wordNow_34 : decode cX10_wordNow 34 = .ok (.invokevirtual 127, 3) := by decide +kernel
theorem dX10_wordNow_37 : decode cX10_wordNow 37 = .ok (.ifCond .eq 7, 3) := by decide +kernel
theorem dX10_wordNow_40 : decode cX10_wordNow 40 = .ok (.iconst 2, 1) := by decide +kernel
theorem dX10_wordNow_41 : decode cX10_wordNow 41 = .ok (.goto 79, 3) := by decide +kernel
theorem dX10_wordNow_44 : decode cX10_wordNow 44 = .ok (.aload_n 0, 1) := by decide +kernel
theorem dX10_wordNow_45 : decode cX10_wordNow 45 = .ok (.sipush 4225, 3) := by decide +kernel
theorem dX10_wordNow_48 : decode cX10_wordNow 48 = .ok (.iconst 3, 1) := by decide +kernel
theorem dX10_wordNow_49 : decode cX10_wordNow 49 = .ok (.invokevirtual 127, 3) := by decide +kernel
theorem dX10_wordNow_52 : decode cX10_wordNow 52 = .ok (.ifCond .eq 7, 3) := by decide +kernel
theorem dX10_wordNow_55 : decode cX10_wordNow 55 = .ok (.iconst 3, 1) := by decide +kernel
theorem dX10_wordNow_56 : decode cX10_wordNow 56 = .ok (.goto 64, 3) := by decide +kernel
theorem dX10_wordNow_59 : decode cX10_wordNow 59 = .ok (.aload_n 0, 1) := by decide +kernel
theorem dX10_wordNow_60 : decode cX10_wordNow 60 = .ok (.sipush 12973, 3) := by decide +kernel
theorem dX10_wordNow_63 : decode cX10_wordNow 63 = .ok (.iconst 3, 1) := by decide +kernel
theorem dX10_wordNow_64 : decode cX10_wordNow 64 = .ok (.invokevirtual 127, 3) := by decide +kernel
theorem dX10_wordNow_67 : decode cX10_wordNow 67 = .ok (.ifCond .eq 7, 3) := by decide +kernel
theorem dX10_wordNow_70 : decode cX10_wordNow 70 = .ok (.iconst 4, 1) := by decide +kernel
theorem dX10_wordNow_71 : decode cX10_wordNow 71 = .ok (.goto 49, 3) := by decide +kernel
theorem dX10_wordNow_74 : decode cX10_wordNow 74 = .ok (.aload_n 0, 1) := by decide +kernel
theorem dX10_wordNow_75 : decode cX10_wordNow 75 = .ok (.sipush 18936, 3) := by decide +kernel
theorem dX10_wordNow_78 : decode cX10_wordNow 78 = .ok (.iconst 3, 1) := by decide +kernel
theorem dX10_wordNow_79 : decode cX10_wordNow 79 = .ok (.invokevirtual 127, 3) := by decide +kernel
theorem dX10_wordNow_82 : decode cX10_wordNow 82 = .ok (.ifCond .eq 7, 3) := by decide +kernel
theorem dX10_wordNow_85 : decode cX10_wordNow 85 = .ok (.iconst 5, 1) := by decide +kernel
theorem dX10_wordNow_86 : decode cX10_wordNow 86 = .ok (.goto 34, 3) := by decide +kernel
theorem dX10_wordNow_89 : decode cX10_wordNow 89 = .ok (.aload_n 0, 1) := by decide +kernel
theorem dX10_wordNow_90 : decode cX10_wordNow 90 = .ok (.ldc 130, 2) := by decide +kernel
theorem dX10_wordNow_92 : decode cX10_wordNow 92 = .ok (.iconst 4, 1) := by decide +kernel
theorem dX10_wordNow_93 : decode cX10_wordNow 93 = .ok (.invokevirtual 127, 3) := by decide +kernel
theorem dX10_wordNow_96 : decode cX10_wordNow 96 = .ok (.ifCond .eq 8, 3) := by decide +kernel
theorem dX10_wordNow_99 : decode cX10_wordNow 99 = .ok (.bipush 6, 2) := by decide +kernel
theorem dX10_wordNow_101 : decode cX10_wordNow 101 = .ok (.goto 19, 3) := by decide +kernel
theorem dX10_wordNow_104 : decode cX10_wordNow 104 = .ok (.aload_n 0, 1) := by decide +kernel
theorem dX10_wordNow_105 : decode cX10_wordNow 105 = .ok (.ldc 131, 2) := by decide +kernel
theorem dX10_wordNow_107 : decode cX10_wordNow 107 = .ok (.iconst 4, 1) := by decide +kernel
theorem dX10_wordNow_108 : decode cX10_wordNow 108 = .ok (.invokevirtual 127, 3) := by decide +kernel
theorem dX10_wordNow_111 : decode cX10_wordNow 111 = .ok (.ifCond .eq 8, 3) := by decide +kernel
theorem dX10_wordNow_114 : decode cX10_wordNow 114 = .ok (.bipush 7, 2) := by decide +kernel
theorem dX10_wordNow_116 : decode cX10_wordNow 116 = .ok (.goto 4, 3) := by decide +kernel
theorem dX10_wordNow_119 : decode cX10_wordNow 119 = .ok (.iconst (-1), 1) := by decide +kernel
theorem dX10_wordNow_120 : decode cX10_wordNow 120 = .ok (.ireturn, 1) := by decide +kernel
set_option maxRecDepth 20000 in
theorem ggX10_readsLine_X10_isWord : GoodIn wsX10_readsLine wsX10_isWord := goodIn_r _ [9, 10, 11, 12, 48, 49, 50, 51, 52, 53, 54, 55, 56, 57, 58, 59, 60, 61, 62, 63, 64, 65, 66, 67, 68, 69, 70, 71, 72, 73, 74, 75, 76, 77, 78, 79, 80, 81, 82, 83, 84, 85, 86] (by decide +kernel) (by decide +kernel)
set_option maxRecDepth 20000 in
theorem gX10_readsLine_X10_isWord : GoodIn wsX10_readsLine (wsV RX10 127 RX10 yX10_isWord wsX10_isWord) := goodIn_app (goodIn_of _ (by decide +kernel)) ggX10_readsLine_X10_isWord
set_option maxRecDepth 20000 in
theorem ggX10_readsLine_X10_token : GoodIn wsX10_readsLine wsX10_token := goodIn_r _ [16, 17, 18, 12, 11, 10, 19, 20, 8, 21, 48, 49, 50, 51, 52, 53, 54, 55, 56, 57, 58, 59, 60, 61, 62, 63, 64, 65, 66, 67, 68, 69, 70, 71, 72, 73, 74, 75, 76, 77, 78, 79, 80, 81, 82, 83, 84, 85, 86] (by decide +kernel) (by decide +kernel)
set_option maxRecDepth 20000 in
theorem gX10_readsLine_X10_token : GoodIn wsX10_readsLine (wsV RX10 123 RX10 yX10_token wsX10_token) := goodIn_app (goodIn_of _ (by decide +kernel)) ggX10_readsLine_X10_token
set_option maxRecDepth 20000 in
theorem ggX10_readsLine_X10_skipsNumber : GoodIn wsX10_readsLine wsX10_skipsNumber := goodIn_r _ [25, 26, 27, 28, 8, 29, 11, 18, 12, 10, 4, 19, 20, 21, 30, 31, 32, 13, 14, 15, 16, 17, 48, 49, 50, 51, 52, 53, 54, 55, 56, 57, 58, 59, 60, 61, 62, 63, 64, 65, 66, 67, 68, 69, 70, 71, 72, 73, 74, 75, 76, 77, 78, 79, 80, 81, 82, 83, 84, 85, 86] (by decide +kernel) (by decide +kernel)
set_option maxRecDepth 20000 in
theorem gX10_readsLine_X10_skipsNumber : GoodIn wsX10_readsLine (wsV RX10 135 RX10 yX10_skipsNumber wsX10_skipsNumber) := goodIn_app (goodIn_of _ (by decide +kernel)) ggX10_readsLine_X10_skipsNumber
set_option maxRecDepth 20000 in
theorem ggX10_readsLine_X10_wordNow : GoodIn wsX10_readsLine wsX10_wordNow := goodIn_r _ [36, 37, 38, 39, 5, 6, 7, 8, 9, 10, 11, 12, 48, 49, 50, 51, 52, 53, 54, 55, 56, 57, 58, 59, 60, 61, 62, 63, 64, 65, 66, 67, 68, 69, 70, 71, 72, 73, 74, 75, 76, 77, 78, 79, 80, 81, 82, 83, 84, 85, 86] (by decide +kernel) (by decide +kernel)
set_option maxRecDepth 20000 in
theorem gX10_readsLine_X10_wordNow : GoodIn wsX10_readsLine (wsV RX10 138 RX10 yX10_wordNow wsX10_wordNow) := goodIn_app (goodIn_of _ (by decide +kernel)) ggX10_readsLine_X10_wordNow
set_option maxRecDepth 20000 in
theorem ggX10_readsLine_X10_readsArgs : GoodIn wsX10_readsLine wsX10_readsArgs := goodIn_r _ [43, 2, 44, 4, 45, 46, 47, 26, 27, 28, 8, 29, 11, 18, 12, 10, 19, 20, 21, 30, 31, 32, 13, 14, 15, 16, 17, 22, 23, 24, 25, 48, 49, 50, 51, 52, 53, 54, 55, 56, 57, 58, 59, 60, 61, 62, 63, 64, 65, 66, 67, 68, 69, 70, 71, 72, 73, 74, 75, 76, 77, 78, 79, 80, 81, 82, 83, 84, 85, 86] (by decide +kernel) (by decide +kernel)
set_option maxRecDepth 20000 in
theorem gX10_readsLine_X10_readsArgs : GoodIn wsX10_readsLine (wsV RX10 142 RX10 yX10_readsArgs wsX10_readsArgs) := goodIn_app (goodIn_of _ (by decide +kernel)) ggX10_readsLine_X10_readsArgs
theorem dX10_readsLine_0 : decode cX10_readsLine 0 = .ok (.bipush 20, 2) := by decide +kernel
theorem dX10_readsLine_2 : decode cX10_readsLine 2 = .ok (.aload_n 0, 1) := by decide +kernel
theorem dX10_readsLine_3 : decode cX10_readsLine 3 = .ok (.getfield 132, 3) := by decide +kernel
theorem dX10_readsLine_6 : decode cX10_readsLine 6 = .ok (.iadd, 1) := by decide +kernel
theorem dX10_readsLine_7 : decode cX10_readsLine 7 = .ok (.istore_n 1, 1) := by decide +kernel
theorem dX10_readsLine_8 : decode cX10_readsLine 8 = .ok (.aload_n 0, 1) := by decide +kernel
theorem dX10_readsLine_9 : decode cX10_readsLine 9 = .ok (.sipush 21167, 3) := by decide +kernel
theorem dX10_readsLine_12 : decode cX10_readsLine 12 = .ok (.iconst 3, 1) := by decide +kernel
theorem dX10_readsLine_13 : decode cX10_readsLine 13 = .ok (.invokevirtual 127, 3) := by decide +kernel
theorem dX10_readsLine_16 : decode cX10_readsLine 16 = .ok (.ifCond .eq 49, 3) := by decide +kernel
theorem dX10_readsLine_19 : decode cX10_readsLine 19 = .ok (.aload_n 0, 1) := by decide +kernel
theorem dX10_readsLine_20 : decode cX10_readsLine 20 = .ok (.getfield 13, 3) := by decide +kernel
theorem dX10_readsLine_23 : decode cX10_readsLine 23 = .ok (.iload_n 1, 1) := by decide +kernel
theorem dX10_readsLine_24 : decode cX10_readsLine 24 = .ok (.bipush 8, 2) := by decide +kernel
theorem dX10_readsLine_26 : decode cX10_readsLine 26 = .ok (.iastore, 1) := by decide +kernel
theorem dX10_readsLine_27 : decode cX10_readsLine 27 = .ok (.aload_n 0, 1) := by decide +kernel
theorem dX10_readsLine_28 : decode cX10_readsLine 28 = .ok (.invokevirtual 123, 3) := by decide +kernel
theorem dX10_readsLine_31 : decode cX10_readsLine 31 = .ok (.aload_n 0, 1) := by decide +kernel
theorem dX10_readsLine_32 : decode cX10_readsLine 32 = .ok (.iconst 0, 1) := by decide +kernel
theorem dX10_readsLine_33 : decode cX10_readsLine 33 = .ok (.bipush 7, 2) := by decide +kernel
theorem dX10_readsLine_35 : decode cX10_readsLine 35 = .ok (.invokevirtual 135, 3) := by decide +kernel
theorem dX10_readsLine_38 : decode cX10_readsLine 38 = .ok (.ifCond .ne 5, 3) := by decide +kernel
theorem dX10_readsLine_41 : decode cX10_readsLine 41 = .ok (.iconst 0, 1) := by decide +kernel
theorem dX10_readsLine_42 : decode cX10_readsLine 42 = .ok (.ireturn, 1) := by decide +kernel
theorem dX10_readsLine_43 : decode cX10_readsLine 43 = .ok (.aload_n 0, 1) := by decide +kernel
theorem dX10_readsLine_44 : decode cX10_readsLine 44 = .ok (.getfield 16, 3) := by decide +kernel
theorem dX10_readsLine_47 : decode cX10_readsLine 47 = .ok (.iload_n 1, 1) := by decide +kernel
theorem dX10_readsLine_48 : decode cX10_readsLine 48 = .ok (.aload_n 0, 1) := by decide +kernel
theorem dX10_readsLine_49 : decode cX10_readsLine 49 = .ok (.getfield 116, 3) := by decide +kernel
theorem dX10_readsLine_52 : decode cX10_readsLine 52 = .ok (.iastore, 1) := by decide +kernel
theorem dX10_readsLine_53 : decode cX10_readsLine 53 = .ok (.aload_n 0, 1) := by decide +kernel
theorem dX10_readsLine_54 : decode cX10_readsLine 54 = .ok (.dup, 1) := by decide +kernel
theorem dX10_readsLine_55 : decode cX10_readsLine 55 = .ok (.getfield 132, 3) := by decide +kernel
theorem dX10_readsLine_58 : decode cX10_readsLine 58 = .ok (.iconst 1, 1) := by decide +kernel
theorem dX10_readsLine_59 : decode cX10_readsLine 59 = .ok (.iadd, 1) := by decide +kernel
theorem dX10_readsLine_60 : decode cX10_readsLine 60 = .ok (.putfield 132, 3) := by decide +kernel
theorem dX10_readsLine_63 : decode cX10_readsLine 63 = .ok (.iconst 1, 1) := by decide +kernel
theorem dX10_readsLine_64 : decode cX10_readsLine 64 = .ok (.ireturn, 1) := by decide +kernel
theorem dX10_readsLine_65 : decode cX10_readsLine 65 = .ok (.aload_n 0, 1) := by decide +kernel
theorem dX10_readsLine_66 : decode cX10_readsLine 66 = .ok (.iconst 0, 1) := by decide +kernel
theorem dX10_readsLine_67 : decode cX10_readsLine 67 = .ok (.bipush 7, 2) := by decide +kernel
theorem dX10_readsLine_69 : decode cX10_readsLine 69 = .ok (.invokevirtual 135, 3) := by decide +kernel
theorem dX10_readsLine_72 : decode cX10_readsLine 72 = .ok (.ifCond .ne 5, 3) := by decide +kernel
theorem dX10_readsLine_75 : decode cX10_readsLine 75 = .ok (.iconst 0, 1) := by decide +kernel
theorem dX10_readsLine_76 : decode cX10_readsLine 76 = .ok (.ireturn, 1) := by decide +kernel
theorem dX10_readsLine_77 : decode cX10_readsLine 77 = .ok (.aload_n 0, 1) := by decide +kernel
theorem dX10_readsLine_78 : decode cX10_readsLine 78 = .ok (.getfield 16, 3) := by decide +kernel
theorem dX10_readsLine_81 : decode cX10_readsLine 81 = .ok (.iload_n 1, 1) := by decide +kernel
theorem dX10_readsLine_82 : decode cX10_readsLine 82 = .ok (.aload_n 0, 1) := by decide +kernel
theorem dX10_readsLine_83 : decode cX10_readsLine 83 = .ok (.getfield 116, 3) := by decide +kernel
theorem dX10_readsLine_86 : decode cX10_readsLine 86 = .ok (.iastore, 1) := by decide +kernel
theorem dX10_readsLine_87 : decode cX10_readsLine 87 = .ok (.aload_n 0, 1) := by decide +kernel
theorem dX10_readsLine_88 : decode cX10_readsLine 88 = .ok (.getfield 13, 3) := by decide +kernel
theorem dX10_readsLine_91 : decode cX10_readsLine 91 = .ok (.iload_n 1, 1) := by decide +kernel
theorem dX10_readsLine_92 : decode cX10_readsLine 92 = .ok (.aload_n 0, 1) := by decide +kernel
theorem dX10_readsLine_93 : decode cX10_readsLine 93 = .ok (.invokevirtual 138, 3) := by decide +kernel
theorem dX10_readsLine_96 : decode cX10_readsLine 96 = .ok (.iastore, 1) := by decide +kernel
theorem dX10_readsLine_97 : decode cX10_readsLine 97 = .ok (.aload_n 0, 1) := by decide +kernel
theorem dX10_readsLine_98 : decode cX10_readsLine 98 = .ok (.getfield 13, 3) := by decide +kernel
theorem dX10_readsLine_101 : decode cX10_readsLine 101 = .ok (.iload_n 1, 1) := by decide +kernel
theorem dX10_readsLine_102 : decode cX10_readsLine 102 = .ok (.iaload, 1) := by decide +kernel
theorem dX10_readsLine_103 : decode cX10_readsLine 103 = .ok (.iconst (-1), 1) := by decide +kernel
theorem dX10_readsLine_104 : decode cX10_readsLine 104 = .ok (.if_icmp .ne 5, 3) := by decide +kernel
theorem dX10_readsLine_107 : decode cX10_readsLine 107 = .ok (.iconst 0, 1) := by decide +kernel
theorem dX10_readsLine_108 : decode cX10_readsLine 108 = .ok (.ireturn, 1) := by decide +kernel
theorem dX10_readsLine_109 : decode cX10_readsLine 109 = .ok (.aload_n 0, 1) := by decide +kernel
theorem dX10_readsLine_110 : decode cX10_readsLine 110 = .ok (.invokevirtual 123, 3) := by decide +kernel
theorem dX10_readsLine_113 : decode cX10_readsLine 113 = .ok (.aload_n 0, 1) := by decide +kernel
theorem dX10_readsLine_114 : decode cX10_readsLine 114 = .ok (.iload_n 1, 1) := by decide +kernel
theorem dX10_readsLine_115 : decode cX10_readsLine 115 = .ok (.invokevirtual 142, 3) := by decide +kernel
theorem dX10_readsLine_118 : decode cX10_readsLine 118 = .ok (.ifCond .ne 5, 3) := by decide +kernel
theorem dX10_readsLine_121 : decode cX10_readsLine 121 = .ok (.iconst 0, 1) := by decide +kernel
theorem dX10_readsLine_122 : decode cX10_readsLine 122 = .ok (.ireturn, 1) := by decide +kernel
theorem dX10_readsLine_123 : decode cX10_readsLine 123 = .ok (.aload_n 0, 1) := by decide +kernel
theorem dX10_readsLine_124 : decode cX10_readsLine 124 = .ok (.dup, 1) := by decide +kernel
theorem dX10_readsLine_125 : decode cX10_readsLine 125 = .ok (.getfield 132, 3) := by decide +kernel
theorem dX10_readsLine_128 : decode cX10_readsLine 128 = .ok (.iconst 1, 1) := by decide +kernel
theorem dX10_readsLine_129 : decode cX10_readsLine 129 = .ok (.iadd, 1) := by decide +kernel
theorem dX10_readsLine_130 : decode cX10_readsLine 130 = .ok (.putfield 132, 3) := by decide +kernel
theorem dX10_readsLine_133 : decode cX10_readsLine 133 = .ok (.iconst 1, 1) := by decide +kernel
theorem dX10_readsLine_134 : decode cX10_readsLine 134 = .ok (.ireturn, 1) := by decide +kernel
set_option maxRecDepth 20000 in
theorem ggX10_readsArgs_X10_isNumber : GoodIn wsX10_readsArgs wsX10_isNumber := goodIn_r _ [11, 12, 13, 14, 15, 3, 16, 17, 10, 18, 19, 20, 21, 31, 32, 33, 34, 35, 36, 37, 38, 39, 40, 41, 42, 43, 44, 45, 46, 47, 48, 49, 50, 51, 52, 53, 54, 55, 56, 57, 58, 59, 60, 61, 62, 63, 64, 65, 66, 67, 68, 69] (by decide +kernel) (by decide +kernel)
set_option maxRecDepth 20000 in
theorem gX10_readsArgs_X10_isNumber : GoodIn wsX10_readsArgs (wsV RX10 119 RX10 yX10_isNumber wsX10_isNumber) := goodIn_app (goodIn_of _ (by decide +kernel)) ggX10_readsArgs_X10_isNumber
set_option maxRecDepth 20000 in
theorem ggX10_readsArgs_X10_token : GoodIn wsX10_readsArgs wsX10_token := goodIn_r _ [25, 26, 13, 14, 12, 15, 16, 17, 10, 18, 31, 32, 33, 34, 35, 36, 37, 38, 39, 40, 41, 42, 43, 44, 45, 46, 47, 48, 49, 50, 51, 52, 53, 54, 55, 56, 57, 58, 59, 60, 61, 62, 63, 64, 65, 66, 67, 68, 69] (by decide +kernel) (by decide +kernel)
set_option maxRecDepth 20000 in
theorem gX10_readsArgs_X10_token : GoodIn wsX10_readsArgs (wsV RX10 123 RX10 yX10_token wsX10_token) := goodIn_app (goodIn_of _ (by decide +kernel)) ggX10_readsArgs_X10_token
set_option maxRecDepth 20000 in
theorem ggX10_readsArgs_X10_skipsNumber : GoodIn wsX10_readsArgs wsX10_skipsNumber := goodIn_r _ [30, 7, 8, 9, 10, 11, 12, 13, 14, 15, 3, 16, 17, 18, 19, 20, 21, 22, 23, 24, 25, 26, 31, 32, 33, 34, 35, 36, 37, 38, 39, 40, 41, 42, 43, 44, 45, 46, 47, 48, 49, 50, 51, 52, 53, 54, 55, 56, 57, 58, 59, 60, 61, 62, 63, 64, 65, 66, 67, 68, 69] (by decide +kernel) (by decide +kernel)
set_option maxRecDepth 20000 in
theorem gX10_readsArgs_X10_skipsNumber : GoodIn wsX10_readsArgs (wsV RX10 135 RX10 yX10_skipsNumber wsX10_skipsNumber) := goodIn_app (goodIn_of _ (by decide +kernel)) ggX10_readsArgs_X10_skipsNumber
theorem dX10_readsArgs_0 : decode cX10_readsArgs 0 = .ok (.aload_n 0, 1) := by decide +kernel
theorem dX10_readsArgs_1 : decode cX10_readsArgs 1 = .ok (.getfield 13, 3) := by decide +kernel
theorem dX10_readsArgs_4 : decode cX10_readsArgs 4 = .ok (.iload_n 1, 1) := by decide +kernel
theorem dX10_readsArgs_5 : decode cX10_readsArgs 5 = .ok (.iaload, 1) := by decide +kernel
theorem dX10_readsArgs_6 : decode cX10_readsArgs 6 = .ok (.istore_n 2, 1) := by decide +kernel
theorem dX10_readsArgs_7 : decode cX10_readsArgs 7 = .ok (.iload_n 2, 1) := by decide +kernel
theorem dX10_readsArgs_8 : decode cX10_readsArgs 8 = .ok (.ifCond .ne 58, 3) := by decide +kernel
theorem dX10_readsArgs_11 : decode cX10_readsArgs 11 = .ok (.aload_n 0, 1) := by decide +kernel
theorem dX10_readsArgs_12 : decode cX10_readsArgs 12 = .ok (.iconst 2, 1) := by decide +kernel
theorem dX10_readsArgs_13 : decode cX10_readsArgs 13 = .ok (.bipush 8, 2) := by decide +kernel
theorem dX10_readsArgs_15 : decode cX10_readsArgs 15 = .ok (.invokevirtual 119, 3) := by decide +kernel
theorem dX10_readsArgs_18 : decode cX10_readsArgs 18 = .ok (.ifCond .eq 17, 3) := by decide +kernel
theorem dX10_readsArgs_21 : decode cX10_readsArgs 21 = .ok (.aload_n 0, 1) := by decide +kernel
theorem dX10_readsArgs_22 : decode cX10_readsArgs 22 = .ok (.getfield 146, 3) := by decide +kernel
theorem dX10_readsArgs_25 : decode cX10_readsArgs 25 = .ok (.aload_n 0, 1) := by decide +kernel
theorem dX10_readsArgs_26 : decode cX10_readsArgs 26 = .ok (.getfield 116, 3) := by decide +kernel
theorem dX10_readsArgs_29 : decode cX10_readsArgs 29 = .ok (.imul, 1) := by decide +kernel
theorem dX10_readsArgs_30 : decode cX10_readsArgs 30 = .ok (.bipush 64, 2) := by decide +kernel
theorem dX10_readsArgs_32 : decode cX10_readsArgs 32 = .ok (.if_icmp .le 5, 3) := by decide +kernel
theorem dX10_readsArgs_35 : decode cX10_readsArgs 35 = .ok (.iconst 0, 1) := by decide +kernel
theorem dX10_readsArgs_36 : decode cX10_readsArgs 36 = .ok (.ireturn, 1) := by decide +kernel
theorem dX10_readsArgs_37 : decode cX10_readsArgs 37 = .ok (.aload_n 0, 1) := by decide +kernel
theorem dX10_readsArgs_38 : decode cX10_readsArgs 38 = .ok (.dup, 1) := by decide +kernel
theorem dX10_readsArgs_39 : decode cX10_readsArgs 39 = .ok (.getfield 146, 3) := by decide +kernel
theorem dX10_readsArgs_42 : decode cX10_readsArgs 42 = .ok (.aload_n 0, 1) := by decide +kernel
theorem dX10_readsArgs_43 : decode cX10_readsArgs 43 = .ok (.getfield 116, 3) := by decide +kernel
theorem dX10_readsArgs_46 : decode cX10_readsArgs 46 = .ok (.imul, 1) := by decide +kernel
theorem dX10_readsArgs_47 : decode cX10_readsArgs 47 = .ok (.putfield 146, 3) := by decide +kernel
theorem dX10_readsArgs_50 : decode cX10_readsArgs 50 = .ok (.aload_n 0, 1) := by decide +kernel
theorem dX10_readsArgs_51 : decode cX10_readsArgs 51 = .ok (.getfield 19, 3) := by decide +kernel
theorem dX10_readsArgs_54 : decode cX10_readsArgs 54 = .ok (.iload_n 1, 1) := by decide +kernel
theorem dX10_readsArgs_55 : decode cX10_readsArgs 55 = .ok (.aload_n 0, 1) := by decide +kernel
theorem dX10_readsArgs_56 : decode cX10_readsArgs 56 = .ok (.getfield 116, 3) := by decide +kernel
theorem dX10_readsArgs_59 : decode cX10_readsArgs 59 = .ok (.iastore, 1) := by decide +kernel
theorem dX10_readsArgs_60 : decode cX10_readsArgs 60 = .ok (.aload_n 0, 1) := by decide +kernel
theorem dX10_readsArgs_61 : decode cX10_readsArgs 61 = .ok (.invokevirtual 123, 3) := by decide +kernel
theorem dX10_readsArgs_64 : decode cX10_readsArgs 64 = .ok (.iconst 1, 1) := by decide +kernel
theorem dX10_readsArgs_65 : decode cX10_readsArgs 65 = .ok (.ireturn, 1) := by decide +kernel
theorem dX10_readsArgs_66 : decode cX10_readsArgs 66 = .ok (.aload_n 0, 1) := by decide +kernel
theorem dX10_readsArgs_67 : decode cX10_readsArgs 67 = .ok (.iconst 0, 1) := by decide +kernel
theorem dX10_readsArgs_68 : decode cX10_readsArgs 68 = .ok (.iload_n 2, 1) := by decide +kernel
theorem dX10_readsArgs_69 : decode cX10_readsArgs 69 = .ok (.iconst 1, 1) := by decide +kernel
theorem dX10_readsArgs_70 : decode cX10_readsArgs 70 = .ok (.if_icmp .ne 7, 3) := by decide +kernel
theorem dX10_readsArgs_73 : decode cX10_readsArgs 73 = .ok (.iconst 4, 1) := by decide +kernel
theorem dX10_readsArgs_74 : decode cX10_readsArgs 74 = .ok (.goto 15, 3) := by decide +kernel
theorem dX10_readsArgs_77 : decode cX10_readsArgs 77 = .ok (.iload_n 2, 1) := by decide +kernel
theorem dX10_readsArgs_78 : decode cX10_readsArgs 78 = .ok (.iconst 2, 1) := by decide +kernel
theorem dX10_readsArgs_79 : decode cX10_readsArgs 79 = .ok (.if_icmp .ne 8, 3) := by decide +kernel
theorem dX10_readsArgs_82 : decode cX10_readsArgs 82 = .ok (.bipush 15, 2) := by decide +kernel
theorem dX10_readsArgs_84 : decode cX10_readsArgs 84 = .ok (.goto 5, 3) := by decide +kernel
theorem dX10_readsArgs_87 : decode cX10_readsArgs 87 = .ok (.bipush 7, 2) := by decide +kernel
theorem dX10_readsArgs_89 : decode cX10_readsArgs 89 = .ok (.invokevirtual 135, 3) := by decide +kernel
theorem dX10_readsArgs_92 : decode cX10_readsArgs 92 = .ok (.ifCond .ne 5, 3) := by decide +kernel
theorem dX10_readsArgs_95 : decode cX10_readsArgs 95 = .ok (.iconst 0, 1) := by decide +kernel
theorem dX10_readsArgs_96 : decode cX10_readsArgs 96 = .ok (.ireturn, 1) := by decide +kernel
theorem dX10_readsArgs_97 : decode cX10_readsArgs 97 = .ok (.aload_n 0, 1) := by decide +kernel
theorem dX10_readsArgs_98 : decode cX10_readsArgs 98 = .ok (.getfield 19, 3) := by decide +kernel
theorem dX10_readsArgs_101 : decode cX10_readsArgs 101 = .ok (.iload_n 1, 1) := by decide +kernel
theorem dX10_readsArgs_102 : decode cX10_readsArgs 102 = .ok (.aload_n 0, 1) := by decide +kernel
theorem dX10_readsArgs_103 : decode cX10_readsArgs 103 = .ok (.getfield 116, 3) := by decide +kernel
theorem dX10_readsArgs_106 : decode cX10_readsArgs 106 = .ok (.iastore, 1) := by decide +kernel
theorem dX10_readsArgs_107 : decode cX10_readsArgs 107 = .ok (.iload_n 2, 1) := by decide +kernel
theorem dX10_readsArgs_108 : decode cX10_readsArgs 108 = .ok (.iconst 2, 1) := by decide +kernel
theorem dX10_readsArgs_109 : decode cX10_readsArgs 109 = .ok (.if_icmp .le 25, 3) := by decide +kernel
theorem dX10_readsArgs_112 : decode cX10_readsArgs 112 = .ok (.aload_n 0, 1) := by decide +kernel
theorem dX10_readsArgs_113 : decode cX10_readsArgs 113 = .ok (.iconst 0, 1) := by decide +kernel
theorem dX10_readsArgs_114 : decode cX10_readsArgs 114 = .ok (.bipush 7, 2) := by decide +kernel
theorem dX10_readsArgs_116 : decode cX10_readsArgs 116 = .ok (.invokevirtual 135, 3) := by decide +kernel
theorem dX10_readsArgs_119 : decode cX10_readsArgs 119 = .ok (.ifCond .ne 5, 3) := by decide +kernel
theorem dX10_readsArgs_122 : decode cX10_readsArgs 122 = .ok (.iconst 0, 1) := by decide +kernel
theorem dX10_readsArgs_123 : decode cX10_readsArgs 123 = .ok (.ireturn, 1) := by decide +kernel
theorem dX10_readsArgs_124 : decode cX10_readsArgs 124 = .ok (.aload_n 0, 1) := by decide +kernel
theorem dX10_readsArgs_125 : decode cX10_readsArgs 125 = .ok (.getfield 22, 3) := by decide +kernel
theorem dX10_readsArgs_128 : decode cX10_readsArgs 128 = .ok (.iload_n 1, 1) := by decide +kernel
theorem dX10_readsArgs_129 : decode cX10_readsArgs 129 = .ok (.aload_n 0, 1) := by decide +kernel
theorem dX10_readsArgs_130 : decode cX10_readsArgs 130 = .ok (.getfield 116, 3) := by decide +kernel
theorem dX10_readsArgs_133 : decode cX10_readsArgs 133 = .ok (.iastore, 1) := by decide +kernel
theorem dX10_readsArgs_134 : decode cX10_readsArgs 134 = .ok (.iload_n 2, 1) := by decide +kernel
theorem dX10_readsArgs_135 : decode cX10_readsArgs 135 = .ok (.bipush 7, 2) := by decide +kernel
theorem dX10_readsArgs_137 : decode cX10_readsArgs 137 = .ok (.if_icmp .ne 25, 3) := by decide +kernel
theorem dX10_readsArgs_140 : decode cX10_readsArgs 140 = .ok (.aload_n 0, 1) := by decide +kernel
theorem dX10_readsArgs_141 : decode cX10_readsArgs 141 = .ok (.iconst 0, 1) := by decide +kernel
theorem dX10_readsArgs_142 : decode cX10_readsArgs 142 = .ok (.bipush 7, 2) := by decide +kernel
theorem dX10_readsArgs_144 : decode cX10_readsArgs 144 = .ok (.invokevirtual 135, 3) := by decide +kernel
theorem dX10_readsArgs_147 : decode cX10_readsArgs 147 = .ok (.ifCond .ne 5, 3) := by decide +kernel
theorem dX10_readsArgs_150 : decode cX10_readsArgs 150 = .ok (.iconst 0, 1) := by decide +kernel
theorem dX10_readsArgs_151 : decode cX10_readsArgs 151 = .ok (.ireturn, 1) := by decide +kernel
theorem dX10_readsArgs_152 : decode cX10_readsArgs 152 = .ok (.aload_n 0, 1) := by decide +kernel
theorem dX10_readsArgs_153 : decode cX10_readsArgs 153 = .ok (.getfield 25, 3) := by decide +kernel
theorem dX10_readsArgs_156 : decode cX10_readsArgs 156 = .ok (.iload_n 1, 1) := by decide +kernel
theorem dX10_readsArgs_157 : decode cX10_readsArgs 157 = .ok (.aload_n 0, 1) := by decide +kernel
theorem dX10_readsArgs_158 : decode cX10_readsArgs 158 = .ok (.getfield 116, 3) := by decide +kernel
theorem dX10_readsArgs_161 : decode cX10_readsArgs 161 = .ok (.iastore, 1) := by decide +kernel
theorem dX10_readsArgs_162 : decode cX10_readsArgs 162 = .ok (.iconst 1, 1) := by decide +kernel
theorem dX10_readsArgs_163 : decode cX10_readsArgs 163 = .ok (.ireturn, 1) := by decide +kernel
set_option maxRecDepth 20000 in
theorem ggX10_fault_X10_token : GoodIn wsX10_fault wsX10_token := goodIn_r _ [12, 1, 5, 7, 4, 6, 13, 14, 11, 15, 52, 53, 54, 55, 56, 57, 58, 59, 60, 61, 62, 63, 64, 65, 66, 67, 68, 69, 70, 71, 72, 73, 74, 75, 76, 77, 78, 79, 80, 81, 82, 83, 84, 85, 86, 87, 88, 89, 90] (by decide +kernel) (by decide +kernel)
set_option maxRecDepth 20000 in
theorem gX10_fault_X10_token : GoodIn wsX10_fault (wsV RX10 123 RX10 yX10_token wsX10_token) := goodIn_app (goodIn_of _ (by decide +kernel)) ggX10_fault_X10_token
set_option maxRecDepth 20000 in
theorem ggX10_fault_X10_readsLine : GoodIn wsX10_fault wsX10_readsLine := goodIn_r _ [19, 2, 20, 21, 22, 23, 24, 25, 11, 26, 6, 4, 7, 8, 9, 10, 12, 1, 5, 13, 14, 15, 27, 28, 29, 30, 31, 32, 33, 34, 35, 36, 37, 38, 39, 40, 41, 42, 43, 44, 45, 46, 47, 48, 3, 49, 50, 51, 52, 53, 54, 55, 56, 57, 58, 59, 60, 61, 62, 63, 64, 65, 66, 67, 68, 69, 70, 71, 72, 73, 74, 75, 76, 77, 78, 79, 80, 81, 82, 83, 84, 85, 86, 87, 88, 89, 90] (by decide +kernel) (by decide +kernel)
set_option maxRecDepth 20000 in
theorem gX10_fault_X10_readsLine : GoodIn wsX10_fault (wsV RX10 149 RX10 yX10_readsLine wsX10_readsLine) := goodIn_app (goodIn_of _ (by decide +kernel)) ggX10_fault_X10_readsLine
theorem dX10_fault_0 : decode cX10_fault 0 = .ok (.aload_n 0, 1) := by decide +kernel
theorem dX10_fault_1 : decode cX10_fault 1 = .ok (.iconst 0, 1) := by decide +kernel
theorem dX10_fault_2 : decode cX10_fault 2 = .ok (.putfield 103, 3) := by decide +kernel
theorem dX10_fault_5 : decode cX10_fault 5 = .ok (.aload_n 0, 1) := by decide +kernel
theorem dX10_fault_6 : decode cX10_fault 6 = .ok (.iconst 0, 1) := by decide +kernel
theorem dX10_fault_7 : decode cX10_fault 7 = .ok (.putfield 132, 3) := by decide +kernel
theorem dX10_fault_10 : decode cX10_fault 10 = .ok (.aload_n 0, 1) := by decide +kernel
theorem dX10_fault_11 : decode cX10_fault 11 = .ok (.iconst 1, 1) := by decide +kernel
theorem dX10_fault_12 : decode cX10_fault 12 = .ok (.putfield 146, 3) := by decide +kernel
theorem dX10_fault_15 : decode cX10_fault 15 = .ok (.aload_n 0, 1) := by decide +kernel
theorem dX10_fault_16 : decode cX10_fault 16 = .ok (.invokevirtual 123, 3) := by decide +kernel
theorem dX10_fault_19 : decode cX10_fault 19 = .ok (.aload_n 0, 1) := by decide +kernel
theorem dX10_fault_20 : decode cX10_fault 20 = .ok (.invokevirtual 149, 3) := by decide +kernel
theorem dX10_fault_23 : decode cX10_fault 23 = .ok (.ifCond .ne 8, 3) := by decide +kernel
theorem dX10_fault_26 : decode cX10_fault 26 = .ok (.aload_n 0, 1) := by decide +kernel
theorem dX10_fault_27 : decode cX10_fault 27 = .ok (.getfield 106, 3) := by decide +kernel
theorem dX10_fault_30 : decode cX10_fault 30 = .ok (.ireturn, 1) := by decide +kernel
theorem dX10_fault_31 : decode cX10_fault 31 = .ok (.aload_n 0, 1) := by decide +kernel
theorem dX10_fault_32 : decode cX10_fault 32 = .ok (.getfield 106, 3) := by decide +kernel
theorem dX10_fault_35 : decode cX10_fault 35 = .ok (.aload_n 0, 1) := by decide +kernel
theorem dX10_fault_36 : decode cX10_fault 36 = .ok (.getfield 98, 3) := by decide +kernel
theorem dX10_fault_39 : decode cX10_fault 39 = .ok (.if_icmp .ge 70, 3) := by decide +kernel
theorem dX10_fault_42 : decode cX10_fault 42 = .ok (.aload_n 0, 1) := by decide +kernel
theorem dX10_fault_43 : decode cX10_fault 43 = .ok (.getfield 113, 3) := by decide +kernel
theorem dX10_fault_46 : decode cX10_fault 46 = .ok (.aload_n 0, 1) := by decide +kernel
theorem dX10_fault_47 : decode cX10_fault 47 = .ok (.getfield 106, 3) := by decide +kernel
theorem dX10_fault_50 : decode cX10_fault 50 = .ok (.isub, 1) := by decide +kernel
theorem dX10_fault_51 : decode cX10_fault 51 = .ok (.iconst 1, 1) := by decide +kernel
theorem dX10_fault_52 : decode cX10_fault 52 = .ok (.if_icmp .ne 30, 3) := by decide +kernel
theorem dX10_fault_55 : decode cX10_fault 55 = .ok (.aload_n 0, 1) := by decide +kernel
theorem dX10_fault_56 : decode cX10_fault 56 = .ok (.getfield 7, 3) := by decide +kernel
theorem dX10_fault_59 : decode cX10_fault 59 = .ok (.aload_n 0, 1) := by decide +kernel
theorem dX10_fault_60 : decode cX10_fault 60 = .ok (.getfield 106, 3) := by decide +kernel
theorem dX10_fault_63 : decode cX10_fault 63 = .ok (.iaload, 1) := by decide +kernel
theorem dX10_fault_64 : decode cX10_fault 64 = .ok (.bipush 59, 2) := by decide +kernel
theorem dX10_fault_66 : decode cX10_fault 66 = .ok (.if_icmp .ne 16, 3) := by decide +kernel
theorem dX10_fault_69 : decode cX10_fault 69 = .ok (.aload_n 0, 1) := by decide +kernel
theorem dX10_fault_70 : decode cX10_fault 70 = .ok (.getfield 132, 3) := by decide +kernel
theorem dX10_fault_73 : decode cX10_fault 73 = .ok (.bipush 20, 2) := by decide +kernel
theorem dX10_fault_75 : decode cX10_fault 75 = .ok (.if_icmp .ge 7, 3) := by decide +kernel
theorem dX10_fault_78 : decode cX10_fault 78 = .ok (.iconst 1, 1) := by decide +kernel
theorem dX10_fault_79 : decode cX10_fault 79 = .ok (.goto 4, 3) := by decide +kernel
theorem dX10_fault_82 : decode cX10_fault 82 = .ok (.iconst 0, 1) := by decide +kernel
theorem dX10_fault_83 : decode cX10_fault 83 = .ok (.istore_n 1, 1) := by decide +kernel
theorem dX10_fault_84 : decode cX10_fault 84 = .ok (.iload_n 1, 1) := by decide +kernel
theorem dX10_fault_85 : decode cX10_fault 85 = .ok (.ifCond .eq 12, 3) := by decide +kernel
theorem dX10_fault_88 : decode cX10_fault 88 = .ok (.aload_n 0, 1) := by decide +kernel
theorem dX10_fault_89 : decode cX10_fault 89 = .ok (.invokevirtual 123, 3) := by decide +kernel
theorem dX10_fault_92 : decode cX10_fault 92 = .ok (.aload_n 0, 1) := by decide +kernel
theorem dX10_fault_93 : decode cX10_fault 93 = .ok (.invokevirtual 149, 3) := by decide +kernel
theorem dX10_fault_96 : decode cX10_fault 96 = .ok (.istore_n 1, 1) := by decide +kernel
theorem dX10_fault_97 : decode cX10_fault 97 = .ok (.iload_n 1, 1) := by decide +kernel
theorem dX10_fault_98 : decode cX10_fault 98 = .ok (.ifCond .ne 8, 3) := by decide +kernel
theorem dX10_fault_101 : decode cX10_fault 101 = .ok (.aload_n 0, 1) := by decide +kernel
theorem dX10_fault_102 : decode cX10_fault 102 = .ok (.getfield 106, 3) := by decide +kernel
theorem dX10_fault_105 : decode cX10_fault 105 = .ok (.ireturn, 1) := by decide +kernel
theorem dX10_fault_106 : decode cX10_fault 106 = .ok (.goto (-75), 3) := by decide +kernel
theorem dX10_fault_109 : decode cX10_fault 109 = .ok (.iconst (-1), 1) := by decide +kernel
theorem dX10_fault_110 : decode cX10_fault 110 = .ok (.ireturn, 1) := by decide +kernel
set_option maxRecDepth 20000 in
theorem ggX10_program_X10_fault : GoodIn wsX10_program wsX10_fault := goodIn_r _ [17, 18, 1, 3, 19, 12, 20, 21, 22, 23, 24, 16, 25, 26, 27, 28, 29, 30, 31, 32, 6, 7, 33, 34, 35, 36, 37, 38, 39, 40, 41, 42, 43, 44, 45, 46, 47, 48, 49, 50, 51, 52, 53, 54, 55, 56, 57, 58, 59, 8, 9, 10, 60, 61, 62, 63, 64, 65, 66, 67, 68, 69, 70, 71, 72, 73, 74, 75, 76, 77, 78, 79, 80, 81, 82, 83, 84, 85, 86, 87, 88, 89, 90, 91, 92, 93, 94, 95, 96, 97, 98] (by decide +kernel) (by decide +kernel)
set_option maxRecDepth 20000 in
theorem gX10_program_X10_fault : GoodIn wsX10_program (wsV RX10 153 RX10 yX10_fault wsX10_fault) := goodIn_app (goodIn_of _ (by decide +kernel)) ggX10_program_X10_fault
theorem dX10_program_0 : decode cX10_program 0 = .ok (.aload_n 0, 1) := by decide +kernel
theorem dX10_program_1 : decode cX10_program 1 = .ok (.invokevirtual 153, 3) := by decide +kernel
theorem dX10_program_4 : decode cX10_program 4 = .ok (.iconst (-1), 1) := by decide +kernel
theorem dX10_program_5 : decode cX10_program 5 = .ok (.if_icmp .eq 6, 3) := by decide +kernel
theorem dX10_program_8 : decode cX10_program 8 = .ok (.bipush (-4), 2) := by decide +kernel
theorem dX10_program_10 : decode cX10_program 10 = .ok (.ireturn, 1) := by decide +kernel
theorem dX10_program_11 : decode cX10_program 11 = .ok (.aload_n 0, 1) := by decide +kernel
theorem dX10_program_12 : decode cX10_program 12 = .ok (.aload_n 0, 1) := by decide +kernel
theorem dX10_program_13 : decode cX10_program 13 = .ok (.getfield 132, 3) := by decide +kernel
theorem dX10_program_16 : decode cX10_program 16 = .ok (.putfield 156, 3) := by decide +kernel
theorem dX10_program_19 : decode cX10_program 19 = .ok (.aload_n 0, 1) := by decide +kernel
theorem dX10_program_20 : decode cX10_program 20 = .ok (.aload_n 0, 1) := by decide +kernel
theorem dX10_program_21 : decode cX10_program 21 = .ok (.getfield 146, 3) := by decide +kernel
theorem dX10_program_24 : decode cX10_program 24 = .ok (.putfield 31, 3) := by decide +kernel
theorem dX10_program_27 : decode cX10_program 27 = .ok (.aload_n 0, 1) := by decide +kernel
theorem dX10_program_28 : decode cX10_program 28 = .ok (.iconst 0, 1) := by decide +kernel
theorem dX10_program_29 : decode cX10_program 29 = .ok (.putfield 159, 3) := by decide +kernel
theorem dX10_program_32 : decode cX10_program 32 = .ok (.iconst 0, 1) := by decide +kernel
theorem dX10_program_33 : decode cX10_program 33 = .ok (.istore_n 1, 1) := by decide +kernel
theorem dX10_program_34 : decode cX10_program 34 = .ok (.iload_n 1, 1) := by decide +kernel
theorem dX10_program_35 : decode cX10_program 35 = .ok (.aload_n 0, 1) := by decide +kernel
theorem dX10_program_36 : decode cX10_program 36 = .ok (.getfield 156, 3) := by decide +kernel
theorem dX10_program_39 : decode cX10_program 39 = .ok (.if_icmp .ge 118, 3) := by decide +kernel
theorem dX10_program_42 : decode cX10_program 42 = .ok (.aload_n 0, 1) := by decide +kernel
theorem dX10_program_43 : decode cX10_program 43 = .ok (.getfield 13, 3) := by decide +kernel
theorem dX10_program_46 : decode cX10_program 46 = .ok (.iload_n 1, 1) := by decide +kernel
theorem dX10_program_47 : decode cX10_program 47 = .ok (.aload_n 0, 1) := by decide +kernel
theorem dX10_program_48 : decode cX10_program 48 = .ok (.getfield 13, 3) := by decide +kernel
theorem dX10_program_51 : decode cX10_program 51 = .ok (.bipush 20, 2) := by decide +kernel
theorem dX10_program_53 : decode cX10_program 53 = .ok (.iload_n 1, 1) := by decide +kernel
theorem dX10_program_54 : decode cX10_program 54 = .ok (.iadd, 1) := by decide +kernel
theorem dX10_program_55 : decode cX10_program 55 = .ok (.iaload, 1) := by decide +kernel
theorem dX10_program_56 : decode cX10_program 56 = .ok (.iastore, 1) := by decide +kernel
theorem dX10_program_57 : decode cX10_program 57 = .ok (.aload_n 0, 1) := by decide +kernel
theorem dX10_program_58 : decode cX10_program 58 = .ok (.getfield 16, 3) := by decide +kernel
theorem dX10_program_61 : decode cX10_program 61 = .ok (.iload_n 1, 1) := by decide +kernel
theorem dX10_program_62 : decode cX10_program 62 = .ok (.aload_n 0, 1) := by decide +kernel
theorem dX10_program_63 : decode cX10_program 63 = .ok (.getfield 16, 3) := by decide +kernel
theorem dX10_program_66 : decode cX10_program 66 = .ok (.bipush 20, 2) := by decide +kernel
theorem dX10_program_68 : decode cX10_program 68 = .ok (.iload_n 1, 1) := by decide +kernel
theorem dX10_program_69 : decode cX10_program 69 = .ok (.iadd, 1) := by decide +kernel
theorem dX10_program_70 : decode cX10_program 70 = .ok (.iaload, 1) := by decide +kernel
theorem dX10_program_71 : decode cX10_program 71 = .ok (.iastore, 1) := by decide +kernel
theorem dX10_program_72 : decode cX10_program 72 = .ok (.aload_n 0, 1) := by decide +kernel
theorem dX10_program_73 : decode cX10_program 73 = .ok (.getfield 19, 3) := by decide +kernel
theorem dX10_program_76 : decode cX10_program 76 = .ok (.iload_n 1, 1) := by decide +kernel
theorem dX10_program_77 : decode cX10_program 77 = .ok (.aload_n 0, 1) := by decide +kernel
theorem dX10_program_78 : decode cX10_program 78 = .ok (.getfield 19, 3) := by decide +kernel
theorem dX10_program_81 : decode cX10_program 81 = .ok (.bipush 20, 2) := by decide +kernel
theorem dX10_program_83 : decode cX10_program 83 = .ok (.iload_n 1, 1) := by decide +kernel
theorem dX10_program_84 : decode cX10_program 84 = .ok (.iadd, 1) := by decide +kernel
theorem dX10_program_85 : decode cX10_program 85 = .ok (.iaload, 1) := by decide +kernel
theorem dX10_program_86 : decode cX10_program 86 = .ok (.iastore, 1) := by decide +kernel
theorem dX10_program_87 : decode cX10_program 87 = .ok (.aload_n 0, 1) := by decide +kernel
theorem dX10_program_88 : decode cX10_program 88 = .ok (.getfield 22, 3) := by decide +kernel
theorem dX10_program_91 : decode cX10_program 91 = .ok (.iload_n 1, 1) := by decide +kernel
theorem dX10_program_92 : decode cX10_program 92 = .ok (.aload_n 0, 1) := by decide +kernel
theorem dX10_program_93 : decode cX10_program 93 = .ok (.getfield 22, 3) := by decide +kernel
theorem dX10_program_96 : decode cX10_program 96 = .ok (.bipush 20, 2) := by decide +kernel
theorem dX10_program_98 : decode cX10_program 98 = .ok (.iload_n 1, 1) := by decide +kernel
theorem dX10_program_99 : decode cX10_program 99 = .ok (.iadd, 1) := by decide +kernel
theorem dX10_program_100 : decode cX10_program 100 = .ok (.iaload, 1) := by decide +kernel
theorem dX10_program_101 : decode cX10_program 101 = .ok (.iastore, 1) := by decide +kernel
theorem dX10_program_102 : decode cX10_program 102 = .ok (.aload_n 0, 1) := by decide +kernel
theorem dX10_program_103 : decode cX10_program 103 = .ok (.getfield 25, 3) := by decide +kernel
theorem dX10_program_106 : decode cX10_program 106 = .ok (.iload_n 1, 1) := by decide +kernel
theorem dX10_program_107 : decode cX10_program 107 = .ok (.aload_n 0, 1) := by decide +kernel
theorem dX10_program_108 : decode cX10_program 108 = .ok (.getfield 25, 3) := by decide +kernel
theorem dX10_program_111 : decode cX10_program 111 = .ok (.bipush 20, 2) := by decide +kernel
theorem dX10_program_113 : decode cX10_program 113 = .ok (.iload_n 1, 1) := by decide +kernel
theorem dX10_program_114 : decode cX10_program 114 = .ok (.iadd, 1) := by decide +kernel
theorem dX10_program_115 : decode cX10_program 115 = .ok (.iaload, 1) := by decide +kernel
theorem dX10_program_116 : decode cX10_program 116 = .ok (.iastore, 1) := by decide +kernel
theorem dX10_program_117 : decode cX10_program 117 = .ok (.aload_n 0, 1) := by decide +kernel
theorem dX10_program_118 : decode cX10_program 118 = .ok (.getfield 13, 3) := by decide +kernel
theorem dX10_program_121 : decode cX10_program 121 = .ok (.iload_n 1, 1) := by decide +kernel
theorem dX10_program_122 : decode cX10_program 122 = .ok (.iaload, 1) := by decide +kernel
theorem dX10_program_123 : decode cX10_program 123 = .ok (.ifCond .ne 28, 3) := by decide +kernel
theorem dX10_program_126 : decode cX10_program 126 = .ok (.aload_n 0, 1) := by decide +kernel
theorem dX10_program_127 : decode cX10_program 127 = .ok (.getfield 28, 3) := by decide +kernel
theorem dX10_program_130 : decode cX10_program 130 = .ok (.aload_n 0, 1) := by decide +kernel
theorem dX10_program_131 : decode cX10_program 131 = .ok (.getfield 159, 3) := by decide +kernel
theorem dX10_program_134 : decode cX10_program 134 = .ok (.aload_n 0, 1) := by decide +kernel
theorem dX10_program_135 : decode cX10_program 135 = .ok (.getfield 19, 3) := by decide +kernel
theorem dX10_program_138 : decode cX10_program 138 = .ok (.iload_n 1, 1) := by decide +kernel
theorem dX10_program_139 : decode cX10_program 139 = .ok (.iaload, 1) := by decide +kernel
theorem dX10_program_140 : decode cX10_program 140 = .ok (.iastore, 1) := by decide +kernel
theorem dX10_program_141 : decode cX10_program 141 = .ok (.aload_n 0, 1) := by decide +kernel
theorem dX10_program_142 : decode cX10_program 142 = .ok (.dup, 1) := by decide +kernel
theorem dX10_program_143 : decode cX10_program 143 = .ok (.getfield 159, 3) := by decide +kernel
theorem dX10_program_146 : decode cX10_program 146 = .ok (.iconst 1, 1) := by decide +kernel
theorem dX10_program_147 : decode cX10_program 147 = .ok (.iadd, 1) := by decide +kernel
theorem dX10_program_148 : decode cX10_program 148 = .ok (.putfield 159, 3) := by decide +kernel
theorem dX10_program_151 : decode cX10_program 151 = .ok (.iinc 1 1, 3) := by decide +kernel
theorem dX10_program_154 : decode cX10_program 154 = .ok (.goto (-120), 3) := by decide +kernel
theorem dX10_program_157 : decode cX10_program 157 = .ok (.aload_n 0, 1) := by decide +kernel
theorem dX10_program_158 : decode cX10_program 158 = .ok (.iconst 0, 1) := by decide +kernel
theorem dX10_program_159 : decode cX10_program 159 = .ok (.putfield 98, 3) := by decide +kernel
theorem dX10_program_162 : decode cX10_program 162 = .ok (.aload_n 0, 1) := by decide +kernel
theorem dX10_program_163 : decode cX10_program 163 = .ok (.getfield 31, 3) := by decide +kernel
theorem dX10_program_166 : decode cX10_program 166 = .ok (.ireturn, 1) := by decide +kernel
set_option maxRecDepth 20000 in
theorem ggX10_draw_X10_in : GoodIn wsX10_draw wsX10_in := goodIn_r _ [6] (by decide +kernel) (by decide +kernel)
set_option maxRecDepth 20000 in
theorem gX10_draw_X10_in : GoodIn wsX10_draw (va_wsS RX10 94 yX10_in wsX10_in) := goodIn_app (goodIn_of _ (by decide +kernel)) ggX10_draw_X10_in
theorem dX10_draw_0 : decode cX10_draw 0 = .ok (.iload_n 1, 1) := by decide +kernel
theorem dX10_draw_1 : decode cX10_draw 1 = .ok (.i2l, 1) := by decide +kernel
theorem dX10_draw_2 : decode cX10_draw 2 = .ok (.lconst 0, 1) := by decide +kernel
theorem dX10_draw_3 : decode cX10_draw 3 = .ok (.aload_n 0, 1) := by decide +kernel
theorem dX10_draw_4 : decode cX10_draw 4 = .ok (.getfield 159, 3) := by decide +kernel
theorem dX10_draw_7 : decode cX10_draw 7 = .ok (.iconst 1, 1) := by decide +kernel
theorem dX10_draw_8 : decode cX10_draw 8 = .ok (.isub, 1) := by decide +kernel
theorem dX10_draw_9 : decode cX10_draw 9 = .ok (.i2l, 1) := by decide +kernel
theorem dX10_draw_10 : decode cX10_draw 10 = .ok (.invokestatic 94, 3) := by decide +kernel
theorem dX10_draw_13 : decode cX10_draw 13 = .ok (.ifCond .eq 12, 3) := by decide +kernel
theorem dX10_draw_16 : decode cX10_draw 16 = .ok (.aload_n 0, 1) := by decide +kernel
theorem dX10_draw_17 : decode cX10_draw 17 = .ok (.getfield 28, 3) := by decide +kernel
theorem dX10_draw_20 : decode cX10_draw 20 = .ok (.iload_n 1, 1) := by decide +kernel
theorem dX10_draw_21 : decode cX10_draw 21 = .ok (.iaload, 1) := by decide +kernel
theorem dX10_draw_22 : decode cX10_draw 22 = .ok (.goto 5, 3) := by decide +kernel
theorem dX10_draw_25 : decode cX10_draw 25 = .ok (.bipush (-2), 2) := by decide +kernel
theorem dX10_draw_27 : decode cX10_draw 27 = .ok (.ireturn, 1) := by decide +kernel
set_option maxRecDepth 20000 in
theorem ggX10_inputs_X10_in : GoodIn wsX10_inputs wsX10_in := goodIn_r _ [7] (by decide +kernel) (by decide +kernel)
set_option maxRecDepth 20000 in
theorem gX10_inputs_X10_in : GoodIn wsX10_inputs (va_wsS RX10 94 yX10_in wsX10_in) := goodIn_app (goodIn_of _ (by decide +kernel)) ggX10_inputs_X10_in
theorem dX10_inputs_0 : decode cX10_inputs 0 = .ok (.iload_n 1, 1) := by decide +kernel
theorem dX10_inputs_1 : decode cX10_inputs 1 = .ok (.i2l, 1) := by decide +kernel
theorem dX10_inputs_2 : decode cX10_inputs 2 = .ok (.lconst 0, 1) := by decide +kernel
theorem dX10_inputs_3 : decode cX10_inputs 3 = .ok (.ldc2_w 162, 3) := by decide +kernel
theorem dX10_inputs_6 : decode cX10_inputs 6 = .ok (.invokestatic 94, 3) := by decide +kernel
theorem dX10_inputs_9 : decode cX10_inputs 9 = .ok (.ifCond .ne 6, 3) := by decide +kernel
theorem dX10_inputs_12 : decode cX10_inputs 12 = .ok (.bipush (-3), 2) := by decide +kernel
theorem dX10_inputs_14 : decode cX10_inputs 14 = .ok (.ireturn, 1) := by decide +kernel
theorem dX10_inputs_15 : decode cX10_inputs 15 = .ok (.aload_n 0, 1) := by decide +kernel
theorem dX10_inputs_16 : decode cX10_inputs 16 = .ok (.iload_n 1, 1) := by decide +kernel
theorem dX10_inputs_17 : decode cX10_inputs 17 = .ok (.putfield 164, 3) := by decide +kernel
theorem dX10_inputs_20 : decode cX10_inputs 20 = .ok (.aload_n 0, 1) := by decide +kernel
theorem dX10_inputs_21 : decode cX10_inputs 21 = .ok (.iload_n 2, 1) := by decide +kernel
theorem dX10_inputs_22 : decode cX10_inputs 22 = .ok (.putfield 167, 3) := by decide +kernel
theorem dX10_inputs_25 : decode cX10_inputs 25 = .ok (.iconst 1, 1) := by decide +kernel
theorem dX10_inputs_26 : decode cX10_inputs 26 = .ok (.iload_n 1, 1) := by decide +kernel
theorem dX10_inputs_27 : decode cX10_inputs 27 = .ok (.ishl, 1) := by decide +kernel
theorem dX10_inputs_28 : decode cX10_inputs 28 = .ok (.ireturn, 1) := by decide +kernel
theorem dX10_drawn_0 : decode cX10_drawn 0 = .ok (.iload_n 1, 1) := by decide +kernel
theorem dX10_drawn_1 : decode cX10_drawn 1 = .ok (.istore_n 3, 1) := by decide +kernel
theorem dX10_drawn_2 : decode cX10_drawn 2 = .ok (.aload_n 0, 1) := by decide +kernel
theorem dX10_drawn_3 : decode cX10_drawn 3 = .ok (.getfield 159, 3) := by decide +kernel
theorem dX10_drawn_6 : decode cX10_drawn 6 = .ok (.iconst 1, 1) := by decide +kernel
theorem dX10_drawn_7 : decode cX10_drawn 7 = .ok (.isub, 1) := by decide +kernel
theorem dX10_drawn_8 : decode cX10_drawn 8 = .ok (.istore 4, 2) := by decide +kernel
theorem dX10_drawn_10 : decode cX10_drawn 10 = .ok (.iload 4, 2) := by decide +kernel
theorem dX10_drawn_12 : decode cX10_drawn 12 = .ok (.iload_n 2, 1) := by decide +kernel
theorem dX10_drawn_13 : decode cX10_drawn 13 = .ok (.if_icmp .le 19, 3) := by decide +kernel
theorem dX10_drawn_16 : decode cX10_drawn 16 = .ok (.iload_n 3, 1) := by decide +kernel
theorem dX10_drawn_17 : decode cX10_drawn 17 = .ok (.aload_n 0, 1) := by decide +kernel
theorem dX10_drawn_18 : decode cX10_drawn 18 = .ok (.getfield 28, 3) := by decide +kernel
theorem dX10_drawn_21 : decode cX10_drawn 21 = .ok (.iload 4, 2) := by decide +kernel
theorem dX10_drawn_23 : decode cX10_drawn 23 = .ok (.iaload, 1) := by decide +kernel
theorem dX10_drawn_24 : decode cX10_drawn 24 = .ok (.idiv, 1) := by decide +kernel
theorem dX10_drawn_25 : decode cX10_drawn 25 = .ok (.istore_n 3, 1) := by decide +kernel
theorem dX10_drawn_26 : decode cX10_drawn 26 = .ok (.iinc 4 (-1), 3) := by decide +kernel
theorem dX10_drawn_29 : decode cX10_drawn 29 = .ok (.goto (-19), 3) := by decide +kernel
theorem dX10_drawn_32 : decode cX10_drawn 32 = .ok (.iload_n 3, 1) := by decide +kernel
theorem dX10_drawn_33 : decode cX10_drawn 33 = .ok (.aload_n 0, 1) := by decide +kernel
theorem dX10_drawn_34 : decode cX10_drawn 34 = .ok (.getfield 28, 3) := by decide +kernel
theorem dX10_drawn_37 : decode cX10_drawn 37 = .ok (.iload_n 2, 1) := by decide +kernel
theorem dX10_drawn_38 : decode cX10_drawn 38 = .ok (.iaload, 1) := by decide +kernel
theorem dX10_drawn_39 : decode cX10_drawn 39 = .ok (.irem, 1) := by decide +kernel
theorem dX10_drawn_40 : decode cX10_drawn 40 = .ok (.ireturn, 1) := by decide +kernel
set_option maxRecDepth 20000 in
theorem ggX10_outOf_X10_drawn : GoodIn wsX10_outOf wsX10_drawn := goodIn_r _ [12, 13, 14, 15, 16, 17, 18, 19, 20, 21, 22, 23, 24, 25, 26, 27, 28, 29, 30, 31, 32, 33, 34, 35, 36, 37, 38, 39, 40, 41, 42, 43, 44, 45, 46, 47, 48, 49, 50, 51, 52, 53] (by decide +kernel) (by decide +kernel)
set_option maxRecDepth 20000 in
theorem gX10_outOf_X10_drawn : GoodIn wsX10_outOf (wsV RX10 170 RX10 yX10_drawn wsX10_drawn) := goodIn_app (goodIn_of _ (by decide +kernel)) ggX10_outOf_X10_drawn
theorem dX10_outOf_0 : decode cX10_outOf 0 = .ok (.iconst 0, 1) := by decide +kernel
theorem dX10_outOf_1 : decode cX10_outOf 1 = .ok (.istore_n 3, 1) := by decide +kernel
theorem dX10_outOf_2 : decode cX10_outOf 2 = .ok (.iload_n 3, 1) := by decide +kernel
theorem dX10_outOf_3 : decode cX10_outOf 3 = .ok (.bipush 8, 2) := by decide +kernel
theorem dX10_outOf_5 : decode cX10_outOf 5 = .ok (.if_icmp .ge 16, 3) := by decide +kernel
theorem dX10_outOf_8 : decode cX10_outOf 8 = .ok (.aload_n 0, 1) := by decide +kernel
theorem dX10_outOf_9 : decode cX10_outOf 9 = .ok (.getfield 68, 3) := by decide +kernel
theorem dX10_outOf_12 : decode cX10_outOf 12 = .ok (.iload_n 3, 1) := by decide +kernel
theorem dX10_outOf_13 : decode cX10_outOf 13 = .ok (.iconst 0, 1) := by decide +kernel
theorem dX10_outOf_14 : decode cX10_outOf 14 = .ok (.iastore, 1) := by decide +kernel
theorem dX10_outOf_15 : decode cX10_outOf 15 = .ok (.iinc 3 1, 3) := by decide +kernel
theorem dX10_outOf_18 : decode cX10_outOf 18 = .ok (.goto (-16), 3) := by decide +kernel
theorem dX10_outOf_21 : decode cX10_outOf 21 = .ok (.iconst 0, 1) := by decide +kernel
theorem dX10_outOf_22 : decode cX10_outOf 22 = .ok (.istore_n 3, 1) := by decide +kernel
theorem dX10_outOf_23 : decode cX10_outOf 23 = .ok (.iconst 0, 1) := by decide +kernel
theorem dX10_outOf_24 : decode cX10_outOf 24 = .ok (.istore 4, 2) := by decide +kernel
theorem dX10_outOf_26 : decode cX10_outOf 26 = .ok (.iconst 0, 1) := by decide +kernel
theorem dX10_outOf_27 : decode cX10_outOf 27 = .ok (.istore 5, 2) := by decide +kernel
theorem dX10_outOf_29 : decode cX10_outOf 29 = .ok (.iload 5, 2) := by decide +kernel
theorem dX10_outOf_31 : decode cX10_outOf 31 = .ok (.aload_n 0, 1) := by decide +kernel
theorem dX10_outOf_32 : decode cX10_outOf 32 = .ok (.getfield 156, 3) := by decide +kernel
theorem dX10_outOf_35 : decode cX10_outOf 35 = .ok (.if_icmp .ge 320, 3) := by decide +kernel
theorem dX10_outOf_38 : decode cX10_outOf 38 = .ok (.aload_n 0, 1) := by decide +kernel
theorem dX10_outOf_39 : decode cX10_outOf 39 = .ok (.getfield 19, 3) := by decide +kernel
theorem dX10_outOf_42 : decode cX10_outOf 42 = .ok (.iload 5, 2) := by decide +kernel
theorem dX10_outOf_44 : decode cX10_outOf 44 = .ok (.iaload, 1) := by decide +kernel
theorem dX10_outOf_45 : decode cX10_outOf 45 = .ok (.istore 6, 2) := by decide +kernel
theorem dX10_outOf_47 : decode cX10_outOf 47 = .ok (.aload_n 0, 1) := by decide +kernel
theorem dX10_outOf_48 : decode cX10_outOf 48 = .ok (.getfield 13, 3) := by decide +kernel
theorem dX10_outOf_51 : decode cX10_outOf 51 = .ok (.iload 5, 2) := by decide +kernel
theorem dX10_outOf_53 : decode cX10_outOf 53 = .ok (.iaload, 1) := by decide +kernel
theorem dX10_outOf_54 : decode cX10_outOf 54 = .ok (.iconst 2, 1) := by decide +kernel
theorem dX10_outOf_55 : decode cX10_outOf 55 = .ok (.if_icmp .le 25, 3) := by decide +kernel
theorem dX10_outOf_58 : decode cX10_outOf 58 = .ok (.aload_n 0, 1) := by decide +kernel
theorem dX10_outOf_59 : decode cX10_outOf 59 = .ok (.getfield 13, 3) := by decide +kernel
theorem dX10_outOf_62 : decode cX10_outOf 62 = .ok (.iload 5, 2) := by decide +kernel
theorem dX10_outOf_64 : decode cX10_outOf 64 = .ok (.iaload, 1) := by decide +kernel
theorem dX10_outOf_65 : decode cX10_outOf 65 = .ok (.bipush 8, 2) := by decide +kernel
theorem dX10_outOf_67 : decode cX10_outOf 67 = .ok (.if_icmp .ge 13, 3) := by decide +kernel
theorem dX10_outOf_70 : decode cX10_outOf 70 = .ok (.aload_n 0, 1) := by decide +kernel
theorem dX10_outOf_71 : decode cX10_outOf 71 = .ok (.getfield 68, 3) := by decide +kernel
theorem dX10_outOf_74 : decode cX10_outOf 74 = .ok (.iload 6, 2) := by decide +kernel
theorem dX10_outOf_76 : decode cX10_outOf 76 = .ok (.iaload, 1) := by decide +kernel
theorem dX10_outOf_77 : decode cX10_outOf 77 = .ok (.goto 4, 3) := by decide +kernel
theorem dX10_outOf_80 : decode cX10_outOf 80 = .ok (.iconst 0, 1) := by decide +kernel
theorem dX10_outOf_81 : decode cX10_outOf 81 = .ok (.istore 7, 2) := by decide +kernel
theorem dX10_outOf_83 : decode cX10_outOf 83 = .ok (.aload_n 0, 1) := by decide +kernel
theorem dX10_outOf_84 : decode cX10_outOf 84 = .ok (.getfield 13, 3) := by decide +kernel
theorem dX10_outOf_87 : decode cX10_outOf 87 = .ok (.iload 5, 2) := by decide +kernel
theorem dX10_outOf_89 : decode cX10_outOf 89 = .ok (.iaload, 1) := by decide +kernel
theorem dX10_outOf_90 : decode cX10_outOf 90 = .ok (.iconst 2, 1) := by decide +kernel
theorem dX10_outOf_91 : decode cX10_outOf 91 = .ok (.if_icmp .le 30, 3) := by decide +kernel
theorem dX10_outOf_94 : decode cX10_outOf 94 = .ok (.aload_n 0, 1) := by decide +kernel
theorem dX10_outOf_95 : decode cX10_outOf 95 = .ok (.getfield 13, 3) := by decide +kernel
theorem dX10_outOf_98 : decode cX10_outOf 98 = .ok (.iload 5, 2) := by decide +kernel
theorem dX10_outOf_100 : decode cX10_outOf 100 = .ok (.iaload, 1) := by decide +kernel
theorem dX10_outOf_101 : decode cX10_outOf 101 = .ok (.bipush 8, 2) := by decide +kernel
theorem dX10_outOf_103 : decode cX10_outOf 103 = .ok (.if_icmp .ge 18, 3) := by decide +kernel
theorem dX10_outOf_106 : decode cX10_outOf 106 = .ok (.aload_n 0, 1) := by decide +kernel
theorem dX10_outOf_107 : decode cX10_outOf 107 = .ok (.getfield 68, 3) := by decide +kernel
theorem dX10_outOf_110 : decode cX10_outOf 110 = .ok (.aload_n 0, 1) := by decide +kernel
theorem dX10_outOf_111 : decode cX10_outOf 111 = .ok (.getfield 22, 3) := by decide +kernel
theorem dX10_outOf_114 : decode cX10_outOf 114 = .ok (.iload 5, 2) := by decide +kernel
theorem dX10_outOf_116 : decode cX10_outOf 116 = .ok (.iaload, 1) := by decide +kernel
theorem dX10_outOf_117 : decode cX10_outOf 117 = .ok (.iaload, 1) := by decide +kernel
theorem dX10_outOf_118 : decode cX10_outOf 118 = .ok (.goto 4, 3) := by decide +kernel
theorem dX10_outOf_121 : decode cX10_outOf 121 = .ok (.iconst 0, 1) := by decide +kernel
theorem dX10_outOf_122 : decode cX10_outOf 122 = .ok (.istore 8, 2) := by decide +kernel
theorem dX10_outOf_124 : decode cX10_outOf 124 = .ok (.aload_n 0, 1) := by decide +kernel
theorem dX10_outOf_125 : decode cX10_outOf 125 = .ok (.getfield 16, 3) := by decide +kernel
theorem dX10_outOf_128 : decode cX10_outOf 128 = .ok (.iload 5, 2) := by decide +kernel
theorem dX10_outOf_130 : decode cX10_outOf 130 = .ok (.iaload, 1) := by decide +kernel
theorem dX10_outOf_131 : decode cX10_outOf 131 = .ok (.istore 9, 2) := by decide +kernel
theorem dX10_outOf_133 : decode cX10_outOf 133 = .ok (.aload_n 0, 1) := by decide +kernel
theorem dX10_outOf_134 : decode cX10_outOf 134 = .ok (.getfield 13, 3) := by decide +kernel
theorem dX10_outOf_137 : decode cX10_outOf 137 = .ok (.iload 5, 2) := by decide +kernel
theorem dX10_outOf_139 : decode cX10_outOf 139 = .ok (.iaload, 1) := by decide +kernel
theorem dX10_outOf_140 : decode cX10_outOf 140 = .ok (.tableswitch 201 0 7 #[48, 68, 84, 96, 114, 132, 147, 169], 48) := by decide +kernel
theorem dX10_outOf_188 : decode cX10_outOf 188 = .ok (.aload_n 0, 1) := by decide +kernel
theorem dX10_outOf_189 : decode cX10_outOf 189 = .ok (.getfield 68, 3) := by decide +kernel
theorem dX10_outOf_192 : decode cX10_outOf 192 = .ok (.iload 9, 2) := by decide +kernel
theorem dX10_outOf_194 : decode cX10_outOf 194 = .ok (.aload_n 0, 1) := by decide +kernel
theorem dX10_outOf_195 : decode cX10_outOf 195 = .ok (.iload_n 2, 1) := by decide +kernel
theorem dX10_outOf_196 : decode cX10_outOf 196 = .ok (.iload 4, 2) := by decide +kernel
theorem dX10_outOf_198 : decode cX10_outOf 198 = .ok (.invokevirtual 170, 3) := by decide +kernel
theorem dX10_outOf_201 : decode cX10_outOf 201 = .ok (.iastore, 1) := by decide +kernel
theorem dX10_outOf_202 : decode cX10_outOf 202 = .ok (.iinc 4 1, 3) := by decide +kernel
theorem dX10_outOf_205 : decode cX10_outOf 205 = .ok (.goto 144, 3) := by decide +kernel
theorem dX10_outOf_208 : decode cX10_outOf 208 = .ok (.aload_n 0, 1) := by decide +kernel
theorem dX10_outOf_209 : decode cX10_outOf 209 = .ok (.getfield 68, 3) := by decide +kernel
theorem dX10_outOf_212 : decode cX10_outOf 212 = .ok (.iload 9, 2) := by decide +kernel
theorem dX10_outOf_214 : decode cX10_outOf 214 = .ok (.iload_n 1, 1) := by decide +kernel
theorem dX10_outOf_215 : decode cX10_outOf 215 = .ok (.iload 6, 2) := by decide +kernel
theorem dX10_outOf_217 : decode cX10_outOf 217 = .ok (.ishr, 1) := by decide +kernel
theorem dX10_outOf_218 : decode cX10_outOf 218 = .ok (.iconst 1, 1) := by decide +kernel
theorem dX10_outOf_219 : decode cX10_outOf 219 = .ok (.iand, 1) := by decide +kernel
theorem dX10_outOf_220 : decode cX10_outOf 220 = .ok (.iastore, 1) := by decide +kernel
theorem dX10_outOf_221 : decode cX10_outOf 221 = .ok (.goto 128, 3) := by decide +kernel
theorem dX10_outOf_224 : decode cX10_outOf 224 = .ok (.aload_n 0, 1) := by decide +kernel
theorem dX10_outOf_225 : decode cX10_outOf 225 = .ok (.getfield 68, 3) := by decide +kernel
theorem dX10_outOf_228 : decode cX10_outOf 228 = .ok (.iload 9, 2) := by decide +kernel
theorem dX10_outOf_230 : decode cX10_outOf 230 = .ok (.iload 6, 2) := by decide +kernel
theorem dX10_outOf_232 : decode cX10_outOf 232 = .ok (.iastore, 1) := by decide +kernel
theorem dX10_outOf_233 : decode cX10_outOf 233 = .ok (.goto 116, 3) := by decide +kernel
theorem dX10_outOf_236 : decode cX10_outOf 236 = .ok (.aload_n 0, 1) := by decide +kernel
theorem dX10_outOf_237 : decode cX10_outOf 237 = .ok (.getfield 68, 3) := by decide +kernel
theorem dX10_outOf_240 : decode cX10_outOf 240 = .ok (.iload 9, 2) := by decide +kernel
theorem dX10_outOf_242 : decode cX10_outOf 242 = .ok (.iload 7, 2) := by decide +kernel
theorem dX10_outOf_244 : decode cX10_outOf 244 = .ok (.iload 8, 2) := by decide +kernel
theorem dX10_outOf_246 : decode cX10_outOf 246 = .ok (.iadd, 1) := by decide +kernel
theorem dX10_outOf_247 : decode cX10_outOf 247 = .ok (.bipush 16, 2) := by decide +kernel
theorem dX10_outOf_249 : decode cX10_outOf 249 = .ok (.irem, 1) := by decide +kernel
theorem dX10_outOf_250 : decode cX10_outOf 250 = .ok (.iastore, 1) := by decide +kernel
theorem dX10_outOf_251 : decode cX10_outOf 251 = .ok (.goto 98, 3) := by decide +kernel
theorem dX10_outOf_254 : decode cX10_outOf 254 = .ok (.aload_n 0, 1) := by decide +kernel
theorem dX10_outOf_255 : decode cX10_outOf 255 = .ok (.getfield 68, 3) := by decide +kernel
theorem dX10_outOf_258 : decode cX10_outOf 258 = .ok (.iload 9, 2) := by decide +kernel
theorem dX10_outOf_260 : decode cX10_outOf 260 = .ok (.iload 7, 2) := by decide +kernel
theorem dX10_outOf_262 : decode cX10_outOf 262 = .ok (.iload 8, 2) := by decide +kernel
theorem dX10_outOf_264 : decode cX10_outOf 264 = .ok (.imul, 1) := by decide +kernel
theorem dX10_outOf_265 : decode cX10_outOf 265 = .ok (.bipush 16, 2) := by decide +kernel
theorem dX10_outOf_267 : decode cX10_outOf 267 = .ok (.irem, 1) := by decide +kernel
theorem dX10_outOf_268 : decode cX10_outOf 268 = .ok (.iastore, 1) := by decide +kernel
theorem dX10_outOf_269 : decode cX10_outOf 269 = .ok (.goto 80, 3) := by decide +kernel
theorem dX10_outOf_272 : decode cX10_outOf 272 = .ok (.aload_n 0, 1) := by decide +kernel
theorem dX10_outOf_273 : decode cX10_outOf 273 = .ok (.getfield 68, 3) := by decide +kernel
theorem dX10_outOf_276 : decode cX10_outOf 276 = .ok (.iload 9, 2) := by decide +kernel
theorem dX10_outOf_278 : decode cX10_outOf 278 = .ok (.iload 7, 2) := by decide +kernel
theorem dX10_outOf_280 : decode cX10_outOf 280 = .ok (.iload 8, 2) := by decide +kernel
theorem dX10_outOf_282 : decode cX10_outOf 282 = .ok (.ixor, 1) := by decide +kernel
theorem dX10_outOf_283 : decode cX10_outOf 283 = .ok (.iastore, 1) := by decide +kernel
theorem dX10_outOf_284 : decode cX10_outOf 284 = .ok (.goto 65, 3) := by decide +kernel
theorem dX10_outOf_287 : decode cX10_outOf 287 = .ok (.aload_n 0, 1) := by decide +kernel
theorem dX10_outOf_288 : decode cX10_outOf 288 = .ok (.getfield 68, 3) := by decide +kernel
theorem dX10_outOf_291 : decode cX10_outOf 291 = .ok (.iload 9, 2) := by decide +kernel
theorem dX10_outOf_293 : decode cX10_outOf 293 = .ok (.iload 7, 2) := by decide +kernel
theorem dX10_outOf_295 : decode cX10_outOf 295 = .ok (.iload 8, 2) := by decide +kernel
theorem dX10_outOf_297 : decode cX10_outOf 297 = .ok (.if_icmp .ge 7, 3) := by decide +kernel
theorem dX10_outOf_300 : decode cX10_outOf 300 = .ok (.iconst 1, 1) := by decide +kernel
theorem dX10_outOf_301 : decode cX10_outOf 301 = .ok (.goto 4, 3) := by decide +kernel
theorem dX10_outOf_304 : decode cX10_outOf 304 = .ok (.iconst 0, 1) := by decide +kernel
theorem dX10_outOf_305 : decode cX10_outOf 305 = .ok (.iastore, 1) := by decide +kernel
theorem dX10_outOf_306 : decode cX10_outOf 306 = .ok (.goto 43, 3) := by decide +kernel
theorem dX10_outOf_309 : decode cX10_outOf 309 = .ok (.aload_n 0, 1) := by decide +kernel
theorem dX10_outOf_310 : decode cX10_outOf 310 = .ok (.getfield 68, 3) := by decide +kernel
theorem dX10_outOf_313 : decode cX10_outOf 313 = .ok (.iload 9, 2) := by decide +kernel
theorem dX10_outOf_315 : decode cX10_outOf 315 = .ok (.iload 7, 2) := by decide +kernel
theorem dX10_outOf_317 : decode cX10_outOf 317 = .ok (.ifCond .eq 8, 3) := by decide +kernel
theorem dX10_outOf_320 : decode cX10_outOf 320 = .ok (.iload 8, 2) := by decide +kernel
theorem dX10_outOf_322 : decode cX10_outOf 322 = .ok (.goto 15, 3) := by decide +kernel
theorem dX10_outOf_325 : decode cX10_outOf 325 = .ok (.aload_n 0, 1) := by decide +kernel
theorem dX10_outOf_326 : decode cX10_outOf 326 = .ok (.getfield 68, 3) := by decide +kernel
theorem dX10_outOf_329 : decode cX10_outOf 329 = .ok (.aload_n 0, 1) := by decide +kernel
theorem dX10_outOf_330 : decode cX10_outOf 330 = .ok (.getfield 25, 3) := by decide +kernel
theorem dX10_outOf_333 : decode cX10_outOf 333 = .ok (.iload 5, 2) := by decide +kernel
theorem dX10_outOf_335 : decode cX10_outOf 335 = .ok (.iaload, 1) := by decide +kernel
theorem dX10_outOf_336 : decode cX10_outOf 336 = .ok (.iaload, 1) := by decide +kernel
theorem dX10_outOf_337 : decode cX10_outOf 337 = .ok (.iastore, 1) := by decide +kernel
theorem dX10_outOf_338 : decode cX10_outOf 338 = .ok (.goto 11, 3) := by decide +kernel
theorem dX10_outOf_341 : decode cX10_outOf 341 = .ok (.aload_n 0, 1) := by decide +kernel
theorem dX10_outOf_342 : decode cX10_outOf 342 = .ok (.getfield 68, 3) := by decide +kernel
theorem dX10_outOf_345 : decode cX10_outOf 345 = .ok (.iload 9, 2) := by decide +kernel
theorem dX10_outOf_347 : decode cX10_outOf 347 = .ok (.iaload, 1) := by decide +kernel
theorem dX10_outOf_348 : decode cX10_outOf 348 = .ok (.istore_n 3, 1) := by decide +kernel
theorem dX10_outOf_349 : decode cX10_outOf 349 = .ok (.iinc 5 1, 3) := by decide +kernel
theorem dX10_outOf_352 : decode cX10_outOf 352 = .ok (.goto (-323), 3) := by decide +kernel
theorem dX10_outOf_355 : decode cX10_outOf 355 = .ok (.iload_n 3, 1) := by decide +kernel
theorem dX10_outOf_356 : decode cX10_outOf 356 = .ok (.ireturn, 1) := by decide +kernel
set_option maxRecDepth 20000 in
theorem ggX10_isRight_X10_outOf : GoodIn wsX10_isRight wsX10_outOf := goodIn_r _ [6, 7, 8, 9, 10, 11, 12, 13, 14, 15, 16, 5, 17, 18, 19, 20, 21, 22, 23, 24, 25, 26, 27, 28, 29, 30, 31, 32, 33, 34, 35, 36, 37, 38, 39, 40, 41, 42, 43, 44, 45, 46, 47, 48, 49, 50, 51, 52, 53, 54, 55, 56, 57, 58] (by decide +kernel) (by decide +kernel)
set_option maxRecDepth 20000 in
theorem gX10_isRight_X10_outOf : GoodIn wsX10_isRight (wsV RX10 174 RX10 yX10_outOf wsX10_outOf) := goodIn_app (goodIn_of _ (by decide +kernel)) ggX10_isRight_X10_outOf
theorem dX10_isRight_0 : decode cX10_isRight 0 = .ok (.aload_n 0, 1) := by decide +kernel
theorem dX10_isRight_1 : decode cX10_isRight 1 = .ok (.iload_n 1, 1) := by decide +kernel
theorem dX10_isRight_2 : decode cX10_isRight 2 = .ok (.iload_n 2, 1) := by decide +kernel
theorem dX10_isRight_3 : decode cX10_isRight 3 = .ok (.invokevirtual 174, 3) := by decide +kernel
theorem dX10_isRight_6 : decode cX10_isRight 6 = .ok (.ifCond .eq 7, 3) := by decide +kernel
theorem dX10_isRight_9 : decode cX10_isRight 9 = .ok (.iconst 1, 1) := by decide +kernel
theorem dX10_isRight_10 : decode cX10_isRight 10 = .ok (.goto 4, 3) := by decide +kernel
theorem dX10_isRight_13 : decode cX10_isRight 13 = .ok (.iconst 0, 1) := by decide +kernel
theorem dX10_isRight_14 : decode cX10_isRight 14 = .ok (.aload_n 0, 1) := by decide +kernel
theorem dX10_isRight_15 : decode cX10_isRight 15 = .ok (.getfield 167, 3) := by decide +kernel
theorem dX10_isRight_18 : decode cX10_isRight 18 = .ok (.iload_n 1, 1) := by decide +kernel
theorem dX10_isRight_19 : decode cX10_isRight 19 = .ok (.ishr, 1) := by decide +kernel
theorem dX10_isRight_20 : decode cX10_isRight 20 = .ok (.iconst 1, 1) := by decide +kernel
theorem dX10_isRight_21 : decode cX10_isRight 21 = .ok (.iand, 1) := by decide +kernel
theorem dX10_isRight_22 : decode cX10_isRight 22 = .ok (.iconst 1, 1) := by decide +kernel
theorem dX10_isRight_23 : decode cX10_isRight 23 = .ok (.if_icmp .ne 7, 3) := by decide +kernel
theorem dX10_isRight_26 : decode cX10_isRight 26 = .ok (.iconst 1, 1) := by decide +kernel
theorem dX10_isRight_27 : decode cX10_isRight 27 = .ok (.goto 4, 3) := by decide +kernel
theorem dX10_isRight_30 : decode cX10_isRight 30 = .ok (.iconst 0, 1) := by decide +kernel
theorem dX10_isRight_31 : decode cX10_isRight 31 = .ok (.if_icmp .ne 7, 3) := by decide +kernel
theorem dX10_isRight_34 : decode cX10_isRight 34 = .ok (.iconst 1, 1) := by decide +kernel
theorem dX10_isRight_35 : decode cX10_isRight 35 = .ok (.goto 4, 3) := by decide +kernel
theorem dX10_isRight_38 : decode cX10_isRight 38 = .ok (.iconst 0, 1) := by decide +kernel
theorem dX10_isRight_39 : decode cX10_isRight 39 = .ok (.ireturn, 1) := by decide +kernel
set_option maxRecDepth 20000 in
theorem ggX10_isInput_X10_in : GoodIn wsX10_isInput wsX10_in := goodIn_r _ [5] (by decide +kernel) (by decide +kernel)
set_option maxRecDepth 20000 in
theorem gX10_isInput_X10_in : GoodIn wsX10_isInput (va_wsS RX10 94 yX10_in wsX10_in) := goodIn_app (goodIn_of _ (by decide +kernel)) ggX10_isInput_X10_in
theorem dX10_isInput_0 : decode cX10_isInput 0 = .ok (.iload_n 1, 1) := by decide +kernel
theorem dX10_isInput_1 : decode cX10_isInput 1 = .ok (.i2l, 1) := by decide +kernel
theorem dX10_isInput_2 : decode cX10_isInput 2 = .ok (.lconst 0, 1) := by decide +kernel
theorem dX10_isInput_3 : decode cX10_isInput 3 = .ok (.iconst 1, 1) := by decide +kernel
theorem dX10_isInput_4 : decode cX10_isInput 4 = .ok (.aload_n 0, 1) := by decide +kernel
theorem dX10_isInput_5 : decode cX10_isInput 5 = .ok (.getfield 164, 3) := by decide +kernel
theorem dX10_isInput_8 : decode cX10_isInput 8 = .ok (.ishl, 1) := by decide +kernel
theorem dX10_isInput_9 : decode cX10_isInput 9 = .ok (.iconst 1, 1) := by decide +kernel
theorem dX10_isInput_10 : decode cX10_isInput 10 = .ok (.isub, 1) := by decide +kernel
theorem dX10_isInput_11 : decode cX10_isInput 11 = .ok (.i2l, 1) := by decide +kernel
theorem dX10_isInput_12 : decode cX10_isInput 12 = .ok (.invokestatic 94, 3) := by decide +kernel
theorem dX10_isInput_15 : decode cX10_isInput 15 = .ok (.ireturn, 1) := by decide +kernel
set_option maxRecDepth 20000 in
theorem ggX10_isRow_X10_in : GoodIn wsX10_isRow wsX10_in := goodIn_r _ [5] (by decide +kernel) (by decide +kernel)
set_option maxRecDepth 20000 in
theorem gX10_isRow_X10_in : GoodIn wsX10_isRow (va_wsS RX10 94 yX10_in wsX10_in) := goodIn_app (goodIn_of _ (by decide +kernel)) ggX10_isRow_X10_in
theorem dX10_isRow_0 : decode cX10_isRow 0 = .ok (.iload_n 1, 1) := by decide +kernel
theorem dX10_isRow_1 : decode cX10_isRow 1 = .ok (.i2l, 1) := by decide +kernel
theorem dX10_isRow_2 : decode cX10_isRow 2 = .ok (.lconst 0, 1) := by decide +kernel
theorem dX10_isRow_3 : decode cX10_isRow 3 = .ok (.aload_n 0, 1) := by decide +kernel
theorem dX10_isRow_4 : decode cX10_isRow 4 = .ok (.getfield 31, 3) := by decide +kernel
theorem dX10_isRow_7 : decode cX10_isRow 7 = .ok (.iconst 1, 1) := by decide +kernel
theorem dX10_isRow_8 : decode cX10_isRow 8 = .ok (.isub, 1) := by decide +kernel
theorem dX10_isRow_9 : decode cX10_isRow 9 = .ok (.i2l, 1) := by decide +kernel
theorem dX10_isRow_10 : decode cX10_isRow 10 = .ok (.invokestatic 94, 3) := by decide +kernel
theorem dX10_isRow_13 : decode cX10_isRow 13 = .ok (.ireturn, 1) := by decide +kernel
set_option maxRecDepth 20000 in
theorem ggX10_run_X10_isInput : GoodIn wsX10_run wsX10_isInput := goodIn_r _ [5, 6, 7, 8, 4, 9, 32, 33, 34, 35, 36, 37, 38, 39, 40, 41, 42, 43, 44, 45, 46, 47, 48, 49, 50, 51, 52, 53, 54, 55, 56, 57, 58, 59, 60, 61, 62, 63, 64, 65, 66, 67, 68, 69, 70] (by decide +kernel) (by decide +kernel)
set_option maxRecDepth 20000 in
theorem gX10_run_X10_isInput : GoodIn wsX10_run (wsV RX10 177 RX10 yX10_isInput wsX10_isInput) := goodIn_app (goodIn_of _ (by decide +kernel)) ggX10_run_X10_isInput
set_option maxRecDepth 20000 in
theorem ggX10_run_X10_isRow : GoodIn wsX10_run wsX10_isRow := goodIn_r _ [13, 14, 7, 8, 4, 9, 32, 33, 34, 35, 36, 37, 38, 39, 40, 41, 42, 43, 44, 45, 46, 47, 48, 49, 50, 51, 52, 53, 54, 55, 56, 57, 58, 59, 60, 61, 62, 63, 64, 65, 66, 67, 68, 69, 70] (by decide +kernel) (by decide +kernel)
set_option maxRecDepth 20000 in
theorem gX10_run_X10_isRow : GoodIn wsX10_run (wsV RX10 180 RX10 yX10_isRow wsX10_isRow) := goodIn_app (goodIn_of _ (by decide +kernel)) ggX10_run_X10_isRow
set_option maxRecDepth 20000 in
theorem ggX10_run_X10_outOf : GoodIn wsX10_run wsX10_outOf := goodIn_r _ [18, 19, 20, 21, 22, 23, 24, 25, 26, 27, 28, 4, 29, 30, 31, 32, 33, 34, 35, 36, 37, 38, 39, 40, 41, 42, 43, 44, 45, 46, 47, 48, 49, 50, 51, 52, 53, 54, 55, 56, 57, 58, 59, 60, 61, 62, 63, 64, 65, 66, 67, 68, 69, 70] (by decide +kernel) (by decide +kernel)
set_option maxRecDepth 20000 in
theorem gX10_run_X10_outOf : GoodIn wsX10_run (wsV RX10 174 RX10 yX10_outOf wsX10_outOf) := goodIn_app (goodIn_of _ (by decide +kernel)) ggX10_run_X10_outOf
theorem dX10_run_0 : decode cX10_run 0 = .ok (.aload_n 0, 1) := by decide +kernel
theorem dX10_run_1 : decode cX10_run 1 = .ok (.iload_n 1, 1) := by decide +kernel
theorem dX10_run_2 : decode cX10_run 2 = .ok (.invokevirtual 177, 3) := by decide +kernel
theorem dX10_run_5 : decode cX10_run 5 = .ok (.ifCond .eq 20, 3) := by decide +kernel
theorem dX10_run_8 : decode cX10_run 8 = .ok (.aload_n 0, 1) := by decide +kernel
theorem dX10_run_9 : decode cX10_run 9 = .ok (.iload_n 2, 1) := by decide +kernel
theorem dX10_run_10 : decode cX10_run 10 = .ok (.invokevirtual 180, 3) := by decide +kernel
theorem dX10_run_13 : decode cX10_run 13 = .ok (.ifCond .eq 12, 3) := by decide +kernel
theorem dX10_run_16 : decode cX10_run 16 = .ok (.aload_n 0, 1) := by decide +kernel
theorem dX10_run_17 : decode cX10_run 17 = .ok (.iload_n 1, 1) := by decide +kernel
theorem dX10_run_18 : decode cX10_run 18 = .ok (.iload_n 2, 1) := by decide +kernel
theorem dX10_run_19 : decode cX10_run 19 = .ok (.invokevirtual 174, 3) := by decide +kernel
theorem dX10_run_22 : decode cX10_run 22 = .ok (.goto 5, 3) := by decide +kernel
theorem dX10_run_25 : decode cX10_run 25 = .ok (.bipush (-2), 2) := by decide +kernel
theorem dX10_run_27 : decode cX10_run 27 = .ok (.ireturn, 1) := by decide +kernel
set_option maxRecDepth 20000 in
theorem ggX10_right_X10_isInput : GoodIn wsX10_right wsX10_isInput := goodIn_r _ [5, 6, 7, 8, 4, 9, 37, 38, 39, 40, 41, 42, 43, 44, 45, 46, 47, 48, 49, 50, 51, 52, 53, 54, 55, 56, 57, 58, 59, 60, 61, 62, 63, 64, 65, 66, 67, 68, 69, 70, 71, 72, 73, 74, 75] (by decide +kernel) (by decide +kernel)
set_option maxRecDepth 20000 in
theorem gX10_right_X10_isInput : GoodIn wsX10_right (wsV RX10 177 RX10 yX10_isInput wsX10_isInput) := goodIn_app (goodIn_of _ (by decide +kernel)) ggX10_right_X10_isInput
set_option maxRecDepth 20000 in
theorem ggX10_right_X10_isRow : GoodIn wsX10_right wsX10_isRow := goodIn_r _ [13, 14, 7, 8, 4, 9, 37, 38, 39, 40, 41, 42, 43, 44, 45, 46, 47, 48, 49, 50, 51, 52, 53, 54, 55, 56, 57, 58, 59, 60, 61, 62, 63, 64, 65, 66, 67, 68, 69, 70, 71, 72, 73, 74, 75] (by decide +kernel) (by decide +kernel)
set_option maxRecDepth 20000 in
theorem gX10_right_X10_isRow : GoodIn wsX10_right (wsV RX10 180 RX10 yX10_isRow wsX10_isRow) := goodIn_app (goodIn_of _ (by decide +kernel)) ggX10_right_X10_isRow
set_option maxRecDepth 20000 in
theorem ggX10_right_X10_isRight : GoodIn wsX10_right wsX10_isRight := goodIn_r _ [18, 19, 20, 21, 22, 4, 23, 24, 25, 26, 27, 28, 29, 30, 31, 32, 33, 34, 35, 36, 37, 38, 39, 40, 41, 42, 43, 44, 45, 46, 47, 48, 49, 50, 51, 52, 53, 54, 55, 56, 57, 58, 59, 60, 61, 62, 63, 64, 65, 66, 67, 68, 69, 70, 71, 72, 73, 74, 75] (by decide +kernel) (by decide +kernel)
set_option maxRecDepth 20000 in
theorem gX10_right_X10_isRight : GoodIn wsX10_right (wsV RX10 183 RX10 yX10_isRight wsX10_isRight) := goodIn_app (goodIn_of _ (by decide +kernel)) ggX10_right_X10_isRight
theorem dX10_right_0 : decode cX10_right 0 = .ok (.aload_n 0, 1) := by decide +kernel
theorem dX10_right_1 : decode cX10_right 1 = .ok (.iload_n 1, 1) := by decide +kernel
theorem dX10_right_2 : decode cX10_right 2 = .ok (.invokevirtual 177, 3) := by decide +kernel
theorem dX10_right_5 : decode cX10_right 5 = .ok (.ifCond .eq 20, 3) := by decide +kernel
theorem dX10_right_8 : decode cX10_right 8 = .ok (.aload_n 0, 1) := by decide +kernel
theorem dX10_right_9 : decode cX10_right 9 = .ok (.iload_n 2, 1) := by decide +kernel
theorem dX10_right_10 : decode cX10_right 10 = .ok (.invokevirtual 180, 3) := by decide +kernel
theorem dX10_right_13 : decode cX10_right 13 = .ok (.ifCond .eq 12, 3) := by decide +kernel
theorem dX10_right_16 : decode cX10_right 16 = .ok (.aload_n 0, 1) := by decide +kernel
theorem dX10_right_17 : decode cX10_right 17 = .ok (.iload_n 1, 1) := by decide +kernel
theorem dX10_right_18 : decode cX10_right 18 = .ok (.iload_n 2, 1) := by decide +kernel
theorem dX10_right_19 : decode cX10_right 19 = .ok (.invokevirtual 183, 3) := by decide +kernel
theorem dX10_right_22 : decode cX10_right 22 = .ok (.goto 5, 3) := by decide +kernel
theorem dX10_right_25 : decode cX10_right 25 = .ok (.bipush (-2), 2) := by decide +kernel
theorem dX10_right_27 : decode cX10_right 27 = .ok (.ireturn, 1) := by decide +kernel
set_option maxRecDepth 20000 in
theorem ggX10_layGood_X10_isRight : GoodIn wsX10_layGood wsX10_isRight := goodIn_r _ [8, 9, 10, 11, 12, 7, 13, 14, 15, 16, 17, 18, 19, 20, 21, 22, 23, 24, 25, 26, 27, 28, 29, 30, 31, 32, 33, 34, 35, 36, 37, 38, 39, 40, 41, 42, 43, 44, 45, 46, 47, 48, 49, 50, 51, 52, 53, 54, 55, 56, 57, 58, 59, 60, 61, 62, 63, 64, 65] (by decide +kernel) (by decide +kernel)
set_option maxRecDepth 20000 in
theorem gX10_layGood_X10_isRight : GoodIn wsX10_layGood (wsV RX10 183 RX10 yX10_isRight wsX10_isRight) := goodIn_app (goodIn_of _ (by decide +kernel)) ggX10_layGood_X10_isRight
theorem dX10_layGood_0 : decode cX10_layGood 0 = .ok (.iconst 0, 1) := by decide +kernel
theorem dX10_layGood_1 : decode cX10_layGood 1 = .ok (.istore_n 1, 1) := by decide +kernel
theorem dX10_layGood_2 : decode cX10_layGood 2 = .ok (.iload_n 1, 1) := by decide +kernel
theorem dX10_layGood_3 : decode cX10_layGood 3 = .ok (.iconst 1, 1) := by decide +kernel
theorem dX10_layGood_4 : decode cX10_layGood 4 = .ok (.aload_n 0, 1) := by decide +kernel
theorem dX10_layGood_5 : decode cX10_layGood 5 = .ok (.getfield 164, 3) := by decide +kernel
theorem dX10_layGood_8 : decode cX10_layGood 8 = .ok (.ishl, 1) := by decide +kernel
theorem dX10_layGood_9 : decode cX10_layGood 9 = .ok (.if_icmp .ge 42, 3) := by decide +kernel
theorem dX10_layGood_12 : decode cX10_layGood 12 = .ok (.iconst 0, 1) := by decide +kernel
theorem dX10_layGood_13 : decode cX10_layGood 13 = .ok (.istore_n 2, 1) := by decide +kernel
theorem dX10_layGood_14 : decode cX10_layGood 14 = .ok (.iload_n 2, 1) := by decide +kernel
theorem dX10_layGood_15 : decode cX10_layGood 15 = .ok (.aload_n 0, 1) := by decide +kernel
theorem dX10_layGood_16 : decode cX10_layGood 16 = .ok (.getfield 31, 3) := by decide +kernel
theorem dX10_layGood_19 : decode cX10_layGood 19 = .ok (.if_icmp .ge 26, 3) := by decide +kernel
theorem dX10_layGood_22 : decode cX10_layGood 22 = .ok (.aload_n 0, 1) := by decide +kernel
theorem dX10_layGood_23 : decode cX10_layGood 23 = .ok (.getfield 71, 3) := by decide +kernel
theorem dX10_layGood_26 : decode cX10_layGood 26 = .ok (.bipush 64, 2) := by decide +kernel
theorem dX10_layGood_28 : decode cX10_layGood 28 = .ok (.iload_n 1, 1) := by decide +kernel
theorem dX10_layGood_29 : decode cX10_layGood 29 = .ok (.imul, 1) := by decide +kernel
theorem dX10_layGood_30 : decode cX10_layGood 30 = .ok (.iload_n 2, 1) := by decide +kernel
theorem dX10_layGood_31 : decode cX10_layGood 31 = .ok (.iadd, 1) := by decide +kernel
theorem dX10_layGood_32 : decode cX10_layGood 32 = .ok (.aload_n 0, 1) := by decide +kernel
theorem dX10_layGood_33 : decode cX10_layGood 33 = .ok (.iload_n 1, 1) := by decide +kernel
theorem dX10_layGood_34 : decode cX10_layGood 34 = .ok (.iload_n 2, 1) := by decide +kernel
theorem dX10_layGood_35 : decode cX10_layGood 35 = .ok (.invokevirtual 183, 3) := by decide +kernel
theorem dX10_layGood_38 : decode cX10_layGood 38 = .ok (.iastore, 1) := by decide +kernel
theorem dX10_layGood_39 : decode cX10_layGood 39 = .ok (.iinc 2 1, 3) := by decide +kernel
theorem dX10_layGood_42 : decode cX10_layGood 42 = .ok (.goto (-28), 3) := by decide +kernel
theorem dX10_layGood_45 : decode cX10_layGood 45 = .ok (.iinc 1 1, 3) := by decide +kernel
theorem dX10_layGood_48 : decode cX10_layGood 48 = .ok (.goto (-46), 3) := by decide +kernel
theorem dX10_layGood_51 : decode cX10_layGood 51 = .ok (.return_, 1) := by decide +kernel
theorem dX10_rightFrom_0 : decode cX10_rightFrom 0 = .ok (.iconst 0, 1) := by decide +kernel
theorem dX10_rightFrom_1 : decode cX10_rightFrom 1 = .ok (.istore 4, 2) := by decide +kernel
theorem dX10_rightFrom_3 : decode cX10_rightFrom 3 = .ok (.iload_n 2, 1) := by decide +kernel
theorem dX10_rightFrom_4 : decode cX10_rightFrom 4 = .ok (.istore 5, 2) := by decide +kernel
theorem dX10_rightFrom_6 : decode cX10_rightFrom 6 = .ok (.iload 5, 2) := by decide +kernel
theorem dX10_rightFrom_8 : decode cX10_rightFrom 8 = .ok (.iload_n 2, 1) := by decide +kernel
theorem dX10_rightFrom_9 : decode cX10_rightFrom 9 = .ok (.iload_n 3, 1) := by decide +kernel
theorem dX10_rightFrom_10 : decode cX10_rightFrom 10 = .ok (.iadd, 1) := by decide +kernel
theorem dX10_rightFrom_11 : decode cX10_rightFrom 11 = .ok (.if_icmp .ge 26, 3) := by decide +kernel
theorem dX10_rightFrom_14 : decode cX10_rightFrom 14 = .ok (.iload 4, 2) := by decide +kernel
theorem dX10_rightFrom_16 : decode cX10_rightFrom 16 = .ok (.aload_n 0, 1) := by decide +kernel
theorem dX10_rightFrom_17 : decode cX10_rightFrom 17 = .ok (.getfield 71, 3) := by decide +kernel
theorem dX10_rightFrom_20 : decode cX10_rightFrom 20 = .ok (.bipush 64, 2) := by decide +kernel
theorem dX10_rightFrom_22 : decode cX10_rightFrom 22 = .ok (.iload_n 1, 1) := by decide +kernel
theorem dX10_rightFrom_23 : decode cX10_rightFrom 23 = .ok (.imul, 1) := by decide +kernel
theorem dX10_rightFrom_24 : decode cX10_rightFrom 24 = .ok (.iload 5, 2) := by decide +kernel
theorem dX10_rightFrom_26 : decode cX10_rightFrom 26 = .ok (.iadd, 1) := by decide +kernel
theorem dX10_rightFrom_27 : decode cX10_rightFrom 27 = .ok (.iaload, 1) := by decide +kernel
theorem dX10_rightFrom_28 : decode cX10_rightFrom 28 = .ok (.iadd, 1) := by decide +kernel
theorem dX10_rightFrom_29 : decode cX10_rightFrom 29 = .ok (.istore 4, 2) := by decide +kernel
theorem dX10_rightFrom_31 : decode cX10_rightFrom 31 = .ok (.iinc 5 1, 3) := by decide +kernel
theorem dX10_rightFrom_34 : decode cX10_rightFrom 34 = .ok (.goto (-28), 3) := by decide +kernel
theorem dX10_rightFrom_37 : decode cX10_rightFrom 37 = .ok (.iload 4, 2) := by decide +kernel
theorem dX10_rightFrom_39 : decode cX10_rightFrom 39 = .ok (.ireturn, 1) := by decide +kernel
set_option maxRecDepth 20000 in
theorem ggX10_isPart_X10_in : GoodIn wsX10_isPart wsX10_in := goodIn_r _ [4] (by decide +kernel) (by decide +kernel)
set_option maxRecDepth 20000 in
theorem gX10_isPart_X10_in : GoodIn wsX10_isPart (va_wsS RX10 94 yX10_in wsX10_in) := goodIn_app (goodIn_of _ (by decide +kernel)) ggX10_isPart_X10_in
theorem dX10_isPart_0 : decode cX10_isPart 0 = .ok (.iload_n 0, 1) := by decide +kernel
theorem dX10_isPart_1 : decode cX10_isPart 1 = .ok (.i2l, 1) := by decide +kernel
theorem dX10_isPart_2 : decode cX10_isPart 2 = .ok (.lconst 0, 1) := by decide +kernel
theorem dX10_isPart_3 : decode cX10_isPart 3 = .ok (.lconst 1, 1) := by decide +kernel
theorem dX10_isPart_4 : decode cX10_isPart 4 = .ok (.invokestatic 94, 3) := by decide +kernel
theorem dX10_isPart_7 : decode cX10_isPart 7 = .ok (.ireturn, 1) := by decide +kernel
set_option maxRecDepth 20000 in
theorem ggX10_odds_X10_isInput : GoodIn wsX10_odds wsX10_isInput := goodIn_r _ [6, 7, 8, 9, 5, 10, 51, 52, 53, 54, 55, 56, 57, 58, 59, 60, 61, 62, 63, 64, 65, 66, 67, 68, 69, 70, 71, 72, 73, 74, 75, 76, 77, 78, 79, 80, 81, 82, 83, 84, 85, 86, 87, 88, 89] (by decide +kernel) (by decide +kernel)
set_option maxRecDepth 20000 in
theorem gX10_odds_X10_isInput : GoodIn wsX10_odds (wsV RX10 177 RX10 yX10_isInput wsX10_isInput) := goodIn_app (goodIn_of _ (by decide +kernel)) ggX10_odds_X10_isInput
set_option maxRecDepth 20000 in
theorem ggX10_odds_X10_isPart : GoodIn wsX10_odds wsX10_isPart := goodIn_r _ [13, 8, 9, 5, 10] (by decide +kernel) (by decide +kernel)
set_option maxRecDepth 20000 in
theorem gX10_odds_X10_isPart : GoodIn wsX10_odds (va_wsS RX10 186 yX10_isPart wsX10_isPart) := goodIn_app (goodIn_of _ (by decide +kernel)) ggX10_odds_X10_isPart
set_option maxRecDepth 20000 in
theorem ggX10_odds_X10_layGood : GoodIn wsX10_odds wsX10_layGood := goodIn_r _ [17, 7, 1, 18, 19, 20, 21, 5, 22, 23, 24, 25, 26, 27, 28, 29, 30, 31, 32, 33, 34, 35, 36, 37, 38, 39, 40, 51, 52, 53, 54, 55, 56, 57, 58, 59, 60, 61, 62, 63, 64, 65, 66, 67, 68, 69, 70, 71, 72, 73, 74, 75, 76, 77, 78, 79, 80, 81, 82, 83, 84, 85, 86, 87, 88, 89] (by decide +kernel) (by decide +kernel)
set_option maxRecDepth 20000 in
theorem gX10_odds_X10_layGood : GoodIn wsX10_odds (wsV RX10 189 RX10 yX10_layGood wsX10_layGood) := goodIn_app (goodIn_of _ (by decide +kernel)) ggX10_odds_X10_layGood
set_option maxRecDepth 20000 in
theorem ggX10_odds_X10_rightFrom : GoodIn wsX10_odds wsX10_rightFrom := goodIn_r _ [44, 18, 51, 52, 53, 54, 55, 56, 57, 58, 59, 60, 61, 62, 63, 64, 65, 66, 67, 68, 69, 70, 71, 72, 73, 74, 75, 76, 77, 78, 79, 80, 81, 82, 83, 84, 85, 86, 87, 88, 89] (by decide +kernel) (by decide +kernel)
set_option maxRecDepth 20000 in
theorem gX10_odds_X10_rightFrom : GoodIn wsX10_odds (wsV RX10 192 RX10 yX10_rightFrom wsX10_rightFrom) := goodIn_app (goodIn_of _ (by decide +kernel)) ggX10_odds_X10_rightFrom
set_option maxRecDepth 20000 in
theorem ggX10_odds_X10_partOf : GoodIn wsX10_odds wsX10_partOf := goodIn_r _ [47, 48, 49, 5, 50] (by decide +kernel) (by decide +kernel)
set_option maxRecDepth 20000 in
theorem gX10_odds_X10_partOf : GoodIn wsX10_odds (va_wsS RX10 196 yX10_partOf wsX10_partOf) := goodIn_app (goodIn_of _ (by decide +kernel)) ggX10_odds_X10_partOf
theorem dX10_odds_0 : decode cX10_odds 0 = .ok (.aload_n 0, 1) := by decide +kernel
theorem dX10_odds_1 : decode cX10_odds 1 = .ok (.iload_n 1, 1) := by decide +kernel
theorem dX10_odds_2 : decode cX10_odds 2 = .ok (.invokevirtual 177, 3) := by decide +kernel
theorem dX10_odds_5 : decode cX10_odds 5 = .ok (.ifCond .ne 6, 3) := by decide +kernel
theorem dX10_odds_8 : decode cX10_odds 8 = .ok (.bipush (-2), 2) := by decide +kernel
theorem dX10_odds_10 : decode cX10_odds 10 = .ok (.ireturn, 1) := by decide +kernel
theorem dX10_odds_11 : decode cX10_odds 11 = .ok (.iload_n 2, 1) := by decide +kernel
theorem dX10_odds_12 : decode cX10_odds 12 = .ok (.invokestatic 186, 3) := by decide +kernel
theorem dX10_odds_15 : decode cX10_odds 15 = .ok (.ifCond .ne 6, 3) := by decide +kernel
theorem dX10_odds_18 : decode cX10_odds 18 = .ok (.bipush (-3), 2) := by decide +kernel
theorem dX10_odds_20 : decode cX10_odds 20 = .ok (.ireturn, 1) := by decide +kernel
theorem dX10_odds_21 : decode cX10_odds 21 = .ok (.aload_n 0, 1) := by decide +kernel
theorem dX10_odds_22 : decode cX10_odds 22 = .ok (.invokevirtual 189, 3) := by decide +kernel
theorem dX10_odds_25 : decode cX10_odds 25 = .ok (.aload_n 0, 1) := by decide +kernel
theorem dX10_odds_26 : decode cX10_odds 26 = .ok (.iload_n 1, 1) := by decide +kernel
theorem dX10_odds_27 : decode cX10_odds 27 = .ok (.iconst 0, 1) := by decide +kernel
theorem dX10_odds_28 : decode cX10_odds 28 = .ok (.aload_n 0, 1) := by decide +kernel
theorem dX10_odds_29 : decode cX10_odds 29 = .ok (.getfield 31, 3) := by decide +kernel
theorem dX10_odds_32 : decode cX10_odds 32 = .ok (.invokevirtual 192, 3) := by decide +kernel
theorem dX10_odds_35 : decode cX10_odds 35 = .ok (.i2l, 1) := by decide +kernel
theorem dX10_odds_36 : decode cX10_odds 36 = .ok (.aload_n 0, 1) := by decide +kernel
theorem dX10_odds_37 : decode cX10_odds 37 = .ok (.getfield 31, 3) := by decide +kernel
theorem dX10_odds_40 : decode cX10_odds 40 = .ok (.i2l, 1) := by decide +kernel
theorem dX10_odds_41 : decode cX10_odds 41 = .ok (.iload_n 2, 1) := by decide +kernel
theorem dX10_odds_42 : decode cX10_odds 42 = .ok (.invokestatic 196, 3) := by decide +kernel
theorem dX10_odds_45 : decode cX10_odds 45 = .ok (.ireturn, 1) := by decide +kernel
set_option maxRecDepth 20000 in
theorem ggX10_worst_X10_in : GoodIn wsX10_worst wsX10_in := goodIn_r _ [7] (by decide +kernel) (by decide +kernel)
set_option maxRecDepth 20000 in
theorem gX10_worst_X10_in : GoodIn wsX10_worst (va_wsS RX10 94 yX10_in wsX10_in) := goodIn_app (goodIn_of _ (by decide +kernel)) ggX10_worst_X10_in
set_option maxRecDepth 20000 in
theorem ggX10_worst_X10_layGood : GoodIn wsX10_worst wsX10_layGood := goodIn_r _ [11, 2, 3, 12, 13, 14, 15, 6, 16, 17, 18, 19, 20, 21, 22, 23, 24, 25, 26, 27, 28, 29, 30, 31, 32, 33, 34, 45, 46, 47, 48, 49, 50, 51, 52, 53, 54, 55, 56, 57, 58, 59, 60, 61, 62, 63, 64, 65, 66, 67, 68, 69, 70, 71, 72, 73, 74, 75, 76, 77, 78, 79, 80, 81, 82, 83] (by decide +kernel) (by decide +kernel)
set_option maxRecDepth 20000 in
theorem gX10_worst_X10_layGood : GoodIn wsX10_worst (wsV RX10 189 RX10 yX10_layGood wsX10_layGood) := goodIn_app (goodIn_of _ (by decide +kernel)) ggX10_worst_X10_layGood
set_option maxRecDepth 20000 in
theorem ggX10_worst_X10_rightFrom : GoodIn wsX10_worst wsX10_rightFrom := goodIn_r _ [38, 12, 45, 46, 47, 48, 49, 50, 51, 52, 53, 54, 55, 56, 57, 58, 59, 60, 61, 62, 63, 64, 65, 66, 67, 68, 69, 70, 71, 72, 73, 74, 75, 76, 77, 78, 79, 80, 81, 82, 83] (by decide +kernel) (by decide +kernel)
set_option maxRecDepth 20000 in
theorem gX10_worst_X10_rightFrom : GoodIn wsX10_worst (wsV RX10 192 RX10 yX10_rightFrom wsX10_rightFrom) := goodIn_app (goodIn_of _ (by decide +kernel)) ggX10_worst_X10_rightFrom
set_option maxRecDepth 20000 in
theorem ggX10_worst_X10_partOf : GoodIn wsX10_worst wsX10_partOf := goodIn_r _ [41, 42, 43, 6, 44] (by decide +kernel) (by decide +kernel)
set_option maxRecDepth 20000 in
theorem gX10_worst_X10_partOf : GoodIn wsX10_worst (va_wsS RX10 196 yX10_partOf wsX10_partOf) := goodIn_app (goodIn_of _ (by decide +kernel)) ggX10_worst_X10_partOf
theorem dX10_worst_0 : decode cX10_worst 0 = .ok (.iload_n 1, 1) := by decide +kernel
theorem dX10_worst_1 : decode cX10_worst 1 = .ok (.i2l, 1) := by decide +kernel
theorem dX10_worst_2 : decode cX10_worst 2 = .ok (.lconst 0, 1) := by decide +kernel
theorem dX10_worst_3 : decode cX10_worst 3 = .ok (.ldc2_w 200, 3) := by decide +kernel
theorem dX10_worst_6 : decode cX10_worst 6 = .ok (.invokestatic 94, 3) := by decide +kernel
theorem dX10_worst_9 : decode cX10_worst 9 = .ok (.ifCond .ne 6, 3) := by decide +kernel
theorem dX10_worst_12 : decode cX10_worst 12 = .ok (.bipush (-3), 2) := by decide +kernel
theorem dX10_worst_14 : decode cX10_worst 14 = .ok (.ireturn, 1) := by decide +kernel
theorem dX10_worst_15 : decode cX10_worst 15 = .ok (.aload_n 0, 1) := by decide +kernel
theorem dX10_worst_16 : decode cX10_worst 16 = .ok (.invokevirtual 189, 3) := by decide +kernel
theorem dX10_worst_19 : decode cX10_worst 19 = .ok (.iconst 0, 1) := by decide +kernel
theorem dX10_worst_20 : decode cX10_worst 20 = .ok (.istore_n 2, 1) := by decide +kernel
theorem dX10_worst_21 : decode cX10_worst 21 = .ok (.iconst 1, 1) := by decide +kernel
theorem dX10_worst_22 : decode cX10_worst 22 = .ok (.istore_n 3, 1) := by decide +kernel
theorem dX10_worst_23 : decode cX10_worst 23 = .ok (.iload_n 3, 1) := by decide +kernel
theorem dX10_worst_24 : decode cX10_worst 24 = .ok (.iconst 1, 1) := by decide +kernel
theorem dX10_worst_25 : decode cX10_worst 25 = .ok (.aload_n 0, 1) := by decide +kernel
theorem dX10_worst_26 : decode cX10_worst 26 = .ok (.getfield 164, 3) := by decide +kernel
theorem dX10_worst_29 : decode cX10_worst 29 = .ok (.ishl, 1) := by decide +kernel
theorem dX10_worst_30 : decode cX10_worst 30 = .ok (.if_icmp .ge 38, 3) := by decide +kernel
theorem dX10_worst_33 : decode cX10_worst 33 = .ok (.aload_n 0, 1) := by decide +kernel
theorem dX10_worst_34 : decode cX10_worst 34 = .ok (.iload_n 3, 1) := by decide +kernel
theorem dX10_worst_35 : decode cX10_worst 35 = .ok (.iconst 0, 1) := by decide +kernel
theorem dX10_worst_36 : decode cX10_worst 36 = .ok (.aload_n 0, 1) := by decide +kernel
theorem dX10_worst_37 : decode cX10_worst 37 = .ok (.getfield 31, 3) := by decide +kernel
theorem dX10_worst_40 : decode cX10_worst 40 = .ok (.invokevirtual 192, 3) := by decide +kernel
theorem dX10_worst_43 : decode cX10_worst 43 = .ok (.aload_n 0, 1) := by decide +kernel
theorem dX10_worst_44 : decode cX10_worst 44 = .ok (.iload_n 2, 1) := by decide +kernel
theorem dX10_worst_45 : decode cX10_worst 45 = .ok (.iconst 0, 1) := by decide +kernel
theorem dX10_worst_46 : decode cX10_worst 46 = .ok (.aload_n 0, 1) := by decide +kernel
theorem dX10_worst_47 : decode cX10_worst 47 = .ok (.getfield 31, 3) := by decide +kernel
theorem dX10_worst_50 : decode cX10_worst 50 = .ok (.invokevirtual 192, 3) := by decide +kernel
theorem dX10_worst_53 : decode cX10_worst 53 = .ok (.if_icmp .ge 7, 3) := by decide +kernel
theorem dX10_worst_56 : decode cX10_worst 56 = .ok (.iload_n 3, 1) := by decide +kernel
theorem dX10_worst_57 : decode cX10_worst 57 = .ok (.goto 4, 3) := by decide +kernel
theorem dX10_worst_60 : decode cX10_worst 60 = .ok (.iload_n 2, 1) := by decide +kernel
theorem dX10_worst_61 : decode cX10_worst 61 = .ok (.istore_n 2, 1) := by decide +kernel
theorem dX10_worst_62 : decode cX10_worst 62 = .ok (.iinc 3 1, 3) := by decide +kernel
theorem dX10_worst_65 : decode cX10_worst 65 = .ok (.goto (-42), 3) := by decide +kernel
theorem dX10_worst_68 : decode cX10_worst 68 = .ok (.iload_n 1, 1) := by decide +kernel
theorem dX10_worst_69 : decode cX10_worst 69 = .ok (.iconst 2, 1) := by decide +kernel
theorem dX10_worst_70 : decode cX10_worst 70 = .ok (.if_icmp .ne 7, 3) := by decide +kernel
theorem dX10_worst_73 : decode cX10_worst 73 = .ok (.iload_n 2, 1) := by decide +kernel
theorem dX10_worst_74 : decode cX10_worst 74 = .ok (.goto 23, 3) := by decide +kernel
theorem dX10_worst_77 : decode cX10_worst 77 = .ok (.aload_n 0, 1) := by decide +kernel
theorem dX10_worst_78 : decode cX10_worst 78 = .ok (.iload_n 2, 1) := by decide +kernel
theorem dX10_worst_79 : decode cX10_worst 79 = .ok (.iconst 0, 1) := by decide +kernel
theorem dX10_worst_80 : decode cX10_worst 80 = .ok (.aload_n 0, 1) := by decide +kernel
theorem dX10_worst_81 : decode cX10_worst 81 = .ok (.getfield 31, 3) := by decide +kernel
theorem dX10_worst_84 : decode cX10_worst 84 = .ok (.invokevirtual 192, 3) := by decide +kernel
theorem dX10_worst_87 : decode cX10_worst 87 = .ok (.i2l, 1) := by decide +kernel
theorem dX10_worst_88 : decode cX10_worst 88 = .ok (.aload_n 0, 1) := by decide +kernel
theorem dX10_worst_89 : decode cX10_worst 89 = .ok (.getfield 31, 3) := by decide +kernel
theorem dX10_worst_92 : decode cX10_worst 92 = .ok (.i2l, 1) := by decide +kernel
theorem dX10_worst_93 : decode cX10_worst 93 = .ok (.iload_n 1, 1) := by decide +kernel
theorem dX10_worst_94 : decode cX10_worst 94 = .ok (.invokestatic 196, 3) := by decide +kernel
theorem dX10_worst_97 : decode cX10_worst 97 = .ok (.ireturn, 1) := by decide +kernel
set_option maxRecDepth 20000 in
theorem ggX10_allFrom_X10_rightFrom : GoodIn wsX10_allFrom wsX10_rightFrom := goodIn_r _ [6, 7, 8, 9, 10, 11, 12, 13, 14, 15, 16, 17, 18, 19, 20, 21, 22, 23, 24, 25, 26, 27, 28, 29, 30, 31, 32, 33, 34, 35, 36, 37, 38, 39, 40, 41, 42, 43, 44, 45, 46] (by decide +kernel) (by decide +kernel)
set_option maxRecDepth 20000 in
theorem gX10_allFrom_X10_rightFrom : GoodIn wsX10_allFrom (wsV RX10 192 RX10 yX10_rightFrom wsX10_rightFrom) := goodIn_app (goodIn_of _ (by decide +kernel)) ggX10_allFrom_X10_rightFrom
theorem dX10_allFrom_0 : decode cX10_allFrom 0 = .ok (.iconst 0, 1) := by decide +kernel
theorem dX10_allFrom_1 : decode cX10_allFrom 1 = .ok (.istore_n 3, 1) := by decide +kernel
theorem dX10_allFrom_2 : decode cX10_allFrom 2 = .ok (.iconst 0, 1) := by decide +kernel
theorem dX10_allFrom_3 : decode cX10_allFrom 3 = .ok (.istore 4, 2) := by decide +kernel
theorem dX10_allFrom_5 : decode cX10_allFrom 5 = .ok (.iload 4, 2) := by decide +kernel
theorem dX10_allFrom_7 : decode cX10_allFrom 7 = .ok (.iconst 1, 1) := by decide +kernel
theorem dX10_allFrom_8 : decode cX10_allFrom 8 = .ok (.aload_n 0, 1) := by decide +kernel
theorem dX10_allFrom_9 : decode cX10_allFrom 9 = .ok (.getfield 164, 3) := by decide +kernel
theorem dX10_allFrom_12 : decode cX10_allFrom 12 = .ok (.ishl, 1) := by decide +kernel
theorem dX10_allFrom_13 : decode cX10_allFrom 13 = .ok (.if_icmp .ge 20, 3) := by decide +kernel
theorem dX10_allFrom_16 : decode cX10_allFrom 16 = .ok (.iload_n 3, 1) := by decide +kernel
theorem dX10_allFrom_17 : decode cX10_allFrom 17 = .ok (.aload_n 0, 1) := by decide +kernel
theorem dX10_allFrom_18 : decode cX10_allFrom 18 = .ok (.iload 4, 2) := by decide +kernel
theorem dX10_allFrom_20 : decode cX10_allFrom 20 = .ok (.iload_n 1, 1) := by decide +kernel
theorem dX10_allFrom_21 : decode cX10_allFrom 21 = .ok (.iload_n 2, 1) := by decide +kernel
theorem dX10_allFrom_22 : decode cX10_allFrom 22 = .ok (.invokevirtual 192, 3) := by decide +kernel
theorem dX10_allFrom_25 : decode cX10_allFrom 25 = .ok (.iadd, 1) := by decide +kernel
theorem dX10_allFrom_26 : decode cX10_allFrom 26 = .ok (.istore_n 3, 1) := by decide +kernel
theorem dX10_allFrom_27 : decode cX10_allFrom 27 = .ok (.iinc 4 1, 3) := by decide +kernel
theorem dX10_allFrom_30 : decode cX10_allFrom 30 = .ok (.goto (-25), 3) := by decide +kernel
theorem dX10_allFrom_33 : decode cX10_allFrom 33 = .ok (.iload_n 3, 1) := by decide +kernel
theorem dX10_allFrom_34 : decode cX10_allFrom 34 = .ok (.ireturn, 1) := by decide +kernel
set_option maxRecDepth 20000 in
theorem ggX10_mean_X10_isPart : GoodIn wsX10_mean wsX10_isPart := goodIn_r _ [6, 7, 8, 5, 9] (by decide +kernel) (by decide +kernel)
set_option maxRecDepth 20000 in
theorem gX10_mean_X10_isPart : GoodIn wsX10_mean (va_wsS RX10 186 yX10_isPart wsX10_isPart) := goodIn_app (goodIn_of _ (by decide +kernel)) ggX10_mean_X10_isPart
set_option maxRecDepth 20000 in
theorem ggX10_mean_X10_layGood : GoodIn wsX10_mean wsX10_layGood := goodIn_r _ [13, 2, 1, 14, 15, 16, 17, 5, 18, 19, 20, 21, 22, 23, 24, 25, 26, 27, 28, 29, 30, 31, 32, 33, 34, 35, 36, 51, 52, 53, 54, 55, 56, 57, 58, 59, 60, 61, 62, 63, 64, 65, 66, 67, 68, 69, 70, 71, 72, 73, 74, 75, 76, 77, 78, 79, 80, 81, 82, 83, 84, 85, 86, 87, 88, 89] (by decide +kernel) (by decide +kernel)
set_option maxRecDepth 20000 in
theorem gX10_mean_X10_layGood : GoodIn wsX10_mean (wsV RX10 189 RX10 yX10_layGood wsX10_layGood) := goodIn_app (goodIn_of _ (by decide +kernel)) ggX10_mean_X10_layGood
set_option maxRecDepth 20000 in
theorem ggX10_mean_X10_allFrom : GoodIn wsX10_mean wsX10_allFrom := goodIn_r _ [40, 2, 41, 42, 43, 5, 44, 14, 51, 52, 53, 54, 55, 56, 57, 58, 59, 60, 61, 62, 63, 64, 65, 66, 67, 68, 69, 70, 71, 72, 73, 74, 75, 76, 77, 78, 79, 80, 81, 82, 83, 84, 85, 86, 87, 88, 89] (by decide +kernel) (by decide +kernel)
set_option maxRecDepth 20000 in
theorem gX10_mean_X10_allFrom : GoodIn wsX10_mean (wsV RX10 202 RX10 yX10_allFrom wsX10_allFrom) := goodIn_app (goodIn_of _ (by decide +kernel)) ggX10_mean_X10_allFrom
set_option maxRecDepth 20000 in
theorem ggX10_mean_X10_partOf : GoodIn wsX10_mean wsX10_partOf := goodIn_r _ [47, 48, 49, 5, 50] (by decide +kernel) (by decide +kernel)
set_option maxRecDepth 20000 in
theorem gX10_mean_X10_partOf : GoodIn wsX10_mean (va_wsS RX10 196 yX10_partOf wsX10_partOf) := goodIn_app (goodIn_of _ (by decide +kernel)) ggX10_mean_X10_partOf
theorem dX10_mean_0 : decode cX10_mean 0 = .ok (.iload_n 1, 1) := by decide +kernel
theorem dX10_mean_1 : decode cX10_mean 1 = .ok (.invokestatic 186, 3) := by decide +kernel
theorem dX10_mean_4 : decode cX10_mean 4 = .ok (.ifCond .ne 6, 3) := by decide +kernel
theorem dX10_mean_7 : decode cX10_mean 7 = .ok (.bipush (-3), 2) := by decide +kernel
theorem dX10_mean_9 : decode cX10_mean 9 = .ok (.ireturn, 1) := by decide +kernel
theorem dX10_mean_10 : decode cX10_mean 10 = .ok (.aload_n 0, 1) := by decide +kernel
theorem dX10_mean_11 : decode cX10_mean 11 = .ok (.invokevirtual 189, 3) := by decide +kernel
theorem dX10_mean_14 : decode cX10_mean 14 = .ok (.aload_n 0, 1) := by decide +kernel
theorem dX10_mean_15 : decode cX10_mean 15 = .ok (.iconst 0, 1) := by decide +kernel
theorem dX10_mean_16 : decode cX10_mean 16 = .ok (.aload_n 0, 1) := by decide +kernel
theorem dX10_mean_17 : decode cX10_mean 17 = .ok (.getfield 31, 3) := by decide +kernel
theorem dX10_mean_20 : decode cX10_mean 20 = .ok (.invokevirtual 202, 3) := by decide +kernel
theorem dX10_mean_23 : decode cX10_mean 23 = .ok (.i2l, 1) := by decide +kernel
theorem dX10_mean_24 : decode cX10_mean 24 = .ok (.aload_n 0, 1) := by decide +kernel
theorem dX10_mean_25 : decode cX10_mean 25 = .ok (.getfield 31, 3) := by decide +kernel
theorem dX10_mean_28 : decode cX10_mean 28 = .ok (.i2l, 1) := by decide +kernel
theorem dX10_mean_29 : decode cX10_mean 29 = .ok (.aload_n 0, 1) := by decide +kernel
theorem dX10_mean_30 : decode cX10_mean 30 = .ok (.getfield 164, 3) := by decide +kernel
theorem dX10_mean_33 : decode cX10_mean 33 = .ok (.lshl, 1) := by decide +kernel
theorem dX10_mean_34 : decode cX10_mean 34 = .ok (.iload_n 1, 1) := by decide +kernel
theorem dX10_mean_35 : decode cX10_mean 35 = .ok (.invokestatic 196, 3) := by decide +kernel
theorem dX10_mean_38 : decode cX10_mean 38 = .ok (.ireturn, 1) := by decide +kernel
set_option maxRecDepth 20000 in
theorem ggX10_seen_X10_in : GoodIn wsX10_seen wsX10_in := goodIn_r _ [9] (by decide +kernel) (by decide +kernel)
set_option maxRecDepth 20000 in
theorem gX10_seen_X10_in : GoodIn wsX10_seen (va_wsS RX10 94 yX10_in wsX10_in) := goodIn_app (goodIn_of _ (by decide +kernel)) ggX10_seen_X10_in
set_option maxRecDepth 20000 in
theorem ggX10_seen_X10_isPart : GoodIn wsX10_seen wsX10_isPart := goodIn_r _ [12, 6, 7, 8, 9] (by decide +kernel) (by decide +kernel)
set_option maxRecDepth 20000 in
theorem gX10_seen_X10_isPart : GoodIn wsX10_seen (va_wsS RX10 186 yX10_isPart wsX10_isPart) := goodIn_app (goodIn_of _ (by decide +kernel)) ggX10_seen_X10_isPart
set_option maxRecDepth 20000 in
theorem ggX10_seen_X10_layGood : GoodIn wsX10_seen wsX10_layGood := goodIn_r _ [16, 5, 2, 17, 18, 19, 20, 8, 21, 22, 23, 24, 25, 26, 27, 28, 29, 30, 31, 32, 33, 34, 35, 36, 37, 1, 3, 48, 49, 50, 51, 52, 53, 54, 55, 56, 57, 58, 59, 60, 61, 62, 63, 64, 65, 66, 67, 68, 69, 70, 71, 72, 73, 74, 75, 76, 77, 78, 79, 80, 81, 82, 83, 84, 85, 86] (by decide +kernel) (by decide +kernel)
set_option maxRecDepth 20000 in
theorem gX10_seen_X10_layGood : GoodIn wsX10_seen (wsV RX10 189 RX10 yX10_layGood wsX10_layGood) := goodIn_app (goodIn_of _ (by decide +kernel)) ggX10_seen_X10_layGood
set_option maxRecDepth 20000 in
theorem ggX10_seen_X10_rightFrom : GoodIn wsX10_seen wsX10_rightFrom := goodIn_r _ [41, 17, 48, 49, 50, 51, 52, 53, 54, 55, 56, 57, 58, 59, 60, 61, 62, 63, 64, 65, 66, 67, 68, 69, 70, 71, 72, 73, 74, 75, 76, 77, 78, 79, 80, 81, 82, 83, 84, 85, 86] (by decide +kernel) (by decide +kernel)
set_option maxRecDepth 20000 in
theorem gX10_seen_X10_rightFrom : GoodIn wsX10_seen (wsV RX10 192 RX10 yX10_rightFrom wsX10_rightFrom) := goodIn_app (goodIn_of _ (by decide +kernel)) ggX10_seen_X10_rightFrom
set_option maxRecDepth 20000 in
theorem ggX10_seen_X10_partOf : GoodIn wsX10_seen wsX10_partOf := goodIn_r _ [44, 45, 46, 8, 47] (by decide +kernel) (by decide +kernel)
set_option maxRecDepth 20000 in
theorem gX10_seen_X10_partOf : GoodIn wsX10_seen (va_wsS RX10 196 yX10_partOf wsX10_partOf) := goodIn_app (goodIn_of _ (by decide +kernel)) ggX10_seen_X10_partOf
theorem dX10_seen_0 : decode cX10_seen 0 = .ok (.iload_n 1, 1) := by decide +kernel
theorem dX10_seen_1 : decode cX10_seen 1 = .ok (.i2l, 1) := by decide +kernel
theorem dX10_seen_2 : decode cX10_seen 2 = .ok (.lconst 0, 1) := by decide +kernel
theorem dX10_seen_3 : decode cX10_seen 3 = .ok (.aload_n 0, 1) := by decide +kernel
theorem dX10_seen_4 : decode cX10_seen 4 = .ok (.getfield 159, 3) := by decide +kernel
theorem dX10_seen_7 : decode cX10_seen 7 = .ok (.i2l, 1) := by decide +kernel
theorem dX10_seen_8 : decode cX10_seen 8 = .ok (.invokestatic 94, 3) := by decide +kernel
theorem dX10_seen_11 : decode cX10_seen 11 = .ok (.ifCond .ne 6, 3) := by decide +kernel
theorem dX10_seen_14 : decode cX10_seen 14 = .ok (.bipush (-2), 2) := by decide +kernel
theorem dX10_seen_16 : decode cX10_seen 16 = .ok (.ireturn, 1) := by decide +kernel
theorem dX10_seen_17 : decode cX10_seen 17 = .ok (.iload_n 2, 1) := by decide +kernel
theorem dX10_seen_18 : decode cX10_seen 18 = .ok (.invokestatic 186, 3) := by decide +kernel
theorem dX10_seen_21 : decode cX10_seen 21 = .ok (.ifCond .ne 6, 3) := by decide +kernel
theorem dX10_seen_24 : decode cX10_seen 24 = .ok (.bipush (-3), 2) := by decide +kernel
theorem dX10_seen_26 : decode cX10_seen 26 = .ok (.ireturn, 1) := by decide +kernel
theorem dX10_seen_27 : decode cX10_seen 27 = .ok (.aload_n 0, 1) := by decide +kernel
theorem dX10_seen_28 : decode cX10_seen 28 = .ok (.invokevirtual 189, 3) := by decide +kernel
theorem dX10_seen_31 : decode cX10_seen 31 = .ok (.aload_n 0, 1) := by decide +kernel
theorem dX10_seen_32 : decode cX10_seen 32 = .ok (.getfield 31, 3) := by decide +kernel
theorem dX10_seen_35 : decode cX10_seen 35 = .ok (.istore_n 3, 1) := by decide +kernel
theorem dX10_seen_36 : decode cX10_seen 36 = .ok (.iconst 0, 1) := by decide +kernel
theorem dX10_seen_37 : decode cX10_seen 37 = .ok (.istore 4, 2) := by decide +kernel
theorem dX10_seen_39 : decode cX10_seen 39 = .ok (.iload 4, 2) := by decide +kernel
theorem dX10_seen_41 : decode cX10_seen 41 = .ok (.iload_n 1, 1) := by decide +kernel
theorem dX10_seen_42 : decode cX10_seen 42 = .ok (.if_icmp .ge 19, 3) := by decide +kernel
theorem dX10_seen_45 : decode cX10_seen 45 = .ok (.iload_n 3, 1) := by decide +kernel
theorem dX10_seen_46 : decode cX10_seen 46 = .ok (.aload_n 0, 1) := by decide +kernel
theorem dX10_seen_47 : decode cX10_seen 47 = .ok (.getfield 28, 3) := by decide +kernel
theorem dX10_seen_50 : decode cX10_seen 50 = .ok (.iload 4, 2) := by decide +kernel
theorem dX10_seen_52 : decode cX10_seen 52 = .ok (.iaload, 1) := by decide +kernel
theorem dX10_seen_53 : decode cX10_seen 53 = .ok (.idiv, 1) := by decide +kernel
theorem dX10_seen_54 : decode cX10_seen 54 = .ok (.istore_n 3, 1) := by decide +kernel
theorem dX10_seen_55 : decode cX10_seen 55 = .ok (.iinc 4 1, 3) := by decide +kernel
theorem dX10_seen_58 : decode cX10_seen 58 = .ok (.goto (-19), 3) := by decide +kernel
theorem dX10_seen_61 : decode cX10_seen 61 = .ok (.iconst 0, 1) := by decide +kernel
theorem dX10_seen_62 : decode cX10_seen 62 = .ok (.istore 4, 2) := by decide +kernel
theorem dX10_seen_64 : decode cX10_seen 64 = .ok (.iconst 0, 1) := by decide +kernel
theorem dX10_seen_65 : decode cX10_seen 65 = .ok (.istore 5, 2) := by decide +kernel
theorem dX10_seen_67 : decode cX10_seen 67 = .ok (.iload 5, 2) := by decide +kernel
theorem dX10_seen_69 : decode cX10_seen 69 = .ok (.aload_n 0, 1) := by decide +kernel
theorem dX10_seen_70 : decode cX10_seen 70 = .ok (.getfield 31, 3) := by decide +kernel
theorem dX10_seen_73 : decode cX10_seen 73 = .ok (.if_icmp .ge 70, 3) := by decide +kernel
theorem dX10_seen_76 : decode cX10_seen 76 = .ok (.ldc 205, 2) := by decide +kernel
theorem dX10_seen_78 : decode cX10_seen 78 = .ok (.istore 6, 2) := by decide +kernel
theorem dX10_seen_80 : decode cX10_seen 80 = .ok (.iconst 0, 1) := by decide +kernel
theorem dX10_seen_81 : decode cX10_seen 81 = .ok (.istore 7, 2) := by decide +kernel
theorem dX10_seen_83 : decode cX10_seen 83 = .ok (.iload 7, 2) := by decide +kernel
theorem dX10_seen_85 : decode cX10_seen 85 = .ok (.iconst 1, 1) := by decide +kernel
theorem dX10_seen_86 : decode cX10_seen 86 = .ok (.aload_n 0, 1) := by decide +kernel
theorem dX10_seen_87 : decode cX10_seen 87 = .ok (.getfield 164, 3) := by decide +kernel
theorem dX10_seen_90 : decode cX10_seen 90 = .ok (.ishl, 1) := by decide +kernel
theorem dX10_seen_91 : decode cX10_seen 91 = .ok (.if_icmp .ge 36, 3) := by decide +kernel
theorem dX10_seen_94 : decode cX10_seen 94 = .ok (.aload_n 0, 1) := by decide +kernel
theorem dX10_seen_95 : decode cX10_seen 95 = .ok (.iload 7, 2) := by decide +kernel
theorem dX10_seen_97 : decode cX10_seen 97 = .ok (.iload 5, 2) := by decide +kernel
theorem dX10_seen_99 : decode cX10_seen 99 = .ok (.iload_n 3, 1) := by decide +kernel
theorem dX10_seen_100 : decode cX10_seen 100 = .ok (.invokevirtual 192, 3) := by decide +kernel
theorem dX10_seen_103 : decode cX10_seen 103 = .ok (.istore 8, 2) := by decide +kernel
theorem dX10_seen_105 : decode cX10_seen 105 = .ok (.iload 8, 2) := by decide +kernel
theorem dX10_seen_107 : decode cX10_seen 107 = .ok (.iload 6, 2) := by decide +kernel
theorem dX10_seen_109 : decode cX10_seen 109 = .ok (.if_icmp .ge 8, 3) := by decide +kernel
theorem dX10_seen_112 : decode cX10_seen 112 = .ok (.iload 8, 2) := by decide +kernel
theorem dX10_seen_114 : decode cX10_seen 114 = .ok (.goto 5, 3) := by decide +kernel
theorem dX10_seen_117 : decode cX10_seen 117 = .ok (.iload 6, 2) := by decide +kernel
theorem dX10_seen_119 : decode cX10_seen 119 = .ok (.istore 6, 2) := by decide +kernel
theorem dX10_seen_121 : decode cX10_seen 121 = .ok (.iinc 7 1, 3) := by decide +kernel
theorem dX10_seen_124 : decode cX10_seen 124 = .ok (.goto (-41), 3) := by decide +kernel
theorem dX10_seen_127 : decode cX10_seen 127 = .ok (.iload 4, 2) := by decide +kernel
theorem dX10_seen_129 : decode cX10_seen 129 = .ok (.iload 6, 2) := by decide +kernel
theorem dX10_seen_131 : decode cX10_seen 131 = .ok (.iadd, 1) := by decide +kernel
theorem dX10_seen_132 : decode cX10_seen 132 = .ok (.istore 4, 2) := by decide +kernel
theorem dX10_seen_134 : decode cX10_seen 134 = .ok (.iload 5, 2) := by decide +kernel
theorem dX10_seen_136 : decode cX10_seen 136 = .ok (.iload_n 3, 1) := by decide +kernel
theorem dX10_seen_137 : decode cX10_seen 137 = .ok (.iadd, 1) := by decide +kernel
theorem dX10_seen_138 : decode cX10_seen 138 = .ok (.istore 5, 2) := by decide +kernel
theorem dX10_seen_140 : decode cX10_seen 140 = .ok (.goto (-73), 3) := by decide +kernel
theorem dX10_seen_143 : decode cX10_seen 143 = .ok (.iload 4, 2) := by decide +kernel
theorem dX10_seen_145 : decode cX10_seen 145 = .ok (.i2l, 1) := by decide +kernel
theorem dX10_seen_146 : decode cX10_seen 146 = .ok (.aload_n 0, 1) := by decide +kernel
theorem dX10_seen_147 : decode cX10_seen 147 = .ok (.getfield 31, 3) := by decide +kernel
theorem dX10_seen_150 : decode cX10_seen 150 = .ok (.i2l, 1) := by decide +kernel
theorem dX10_seen_151 : decode cX10_seen 151 = .ok (.iload_n 2, 1) := by decide +kernel
theorem dX10_seen_152 : decode cX10_seen 152 = .ok (.invokestatic 196, 3) := by decide +kernel
theorem dX10_seen_155 : decode cX10_seen 155 = .ok (.ireturn, 1) := by decide +kernel
set_option maxRecDepth 20000 in
theorem ggX10_kept_X10_in : GoodIn wsX10_kept wsX10_in := goodIn_r _ [7] (by decide +kernel) (by decide +kernel)
set_option maxRecDepth 20000 in
theorem gX10_kept_X10_in : GoodIn wsX10_kept (va_wsS RX10 94 yX10_in wsX10_in) := goodIn_app (goodIn_of _ (by decide +kernel)) ggX10_kept_X10_in
set_option maxRecDepth 20000 in
theorem ggX10_kept_X10_layGood : GoodIn wsX10_kept wsX10_layGood := goodIn_r _ [11, 12, 1, 13, 14, 15, 16, 6, 17, 18, 19, 20, 21, 22, 23, 24, 25, 26, 27, 28, 29, 30, 31, 32, 33, 2, 3, 42, 43, 44, 45, 46, 47, 48, 49, 50, 51, 52, 53, 54, 55, 56, 57, 58, 59, 60, 61, 62, 63, 64, 65, 66, 67, 68, 69, 70, 71, 72, 73, 74, 75, 76, 77, 78, 79, 80] (by decide +kernel) (by decide +kernel)
set_option maxRecDepth 20000 in
theorem gX10_kept_X10_layGood : GoodIn wsX10_kept (wsV RX10 189 RX10 yX10_layGood wsX10_layGood) := goodIn_app (goodIn_of _ (by decide +kernel)) ggX10_kept_X10_layGood
set_option maxRecDepth 20000 in
theorem ggX10_kept_X10_allFrom : GoodIn wsX10_kept wsX10_allFrom := goodIn_r _ [37, 12, 38, 39, 40, 6, 41, 13, 42, 43, 44, 45, 46, 47, 48, 49, 50, 51, 52, 53, 54, 55, 56, 57, 58, 59, 60, 61, 62, 63, 64, 65, 66, 67, 68, 69, 70, 71, 72, 73, 74, 75, 76, 77, 78, 79, 80] (by decide +kernel) (by decide +kernel)
set_option maxRecDepth 20000 in
theorem gX10_kept_X10_allFrom : GoodIn wsX10_kept (wsV RX10 202 RX10 yX10_allFrom wsX10_allFrom) := goodIn_app (goodIn_of _ (by decide +kernel)) ggX10_kept_X10_allFrom
theorem dX10_kept_0 : decode cX10_kept 0 = .ok (.iload_n 1, 1) := by decide +kernel
theorem dX10_kept_1 : decode cX10_kept 1 = .ok (.i2l, 1) := by decide +kernel
theorem dX10_kept_2 : decode cX10_kept 2 = .ok (.lconst 0, 1) := by decide +kernel
theorem dX10_kept_3 : decode cX10_kept 3 = .ok (.lconst 1, 1) := by decide +kernel
theorem dX10_kept_4 : decode cX10_kept 4 = .ok (.invokestatic 94, 3) := by decide +kernel
theorem dX10_kept_7 : decode cX10_kept 7 = .ok (.ifCond .ne 6, 3) := by decide +kernel
theorem dX10_kept_10 : decode cX10_kept 10 = .ok (.bipush (-3), 2) := by decide +kernel
theorem dX10_kept_12 : decode cX10_kept 12 = .ok (.ireturn, 1) := by decide +kernel
theorem dX10_kept_13 : decode cX10_kept 13 = .ok (.aload_n 0, 1) := by decide +kernel
theorem dX10_kept_14 : decode cX10_kept 14 = .ok (.invokevirtual 189, 3) := by decide +kernel
theorem dX10_kept_17 : decode cX10_kept 17 = .ok (.iconst 0, 1) := by decide +kernel
theorem dX10_kept_18 : decode cX10_kept 18 = .ok (.istore_n 2, 1) := by decide +kernel
theorem dX10_kept_19 : decode cX10_kept 19 = .ok (.aload_n 0, 1) := by decide +kernel
theorem dX10_kept_20 : decode cX10_kept 20 = .ok (.getfield 31, 3) := by decide +kernel
theorem dX10_kept_23 : decode cX10_kept 23 = .ok (.istore_n 3, 1) := by decide +kernel
theorem dX10_kept_24 : decode cX10_kept 24 = .ok (.iconst 0, 1) := by decide +kernel
theorem dX10_kept_25 : decode cX10_kept 25 = .ok (.istore 4, 2) := by decide +kernel
theorem dX10_kept_27 : decode cX10_kept 27 = .ok (.iload 4, 2) := by decide +kernel
theorem dX10_kept_29 : decode cX10_kept 29 = .ok (.aload_n 0, 1) := by decide +kernel
theorem dX10_kept_30 : decode cX10_kept 30 = .ok (.getfield 159, 3) := by decide +kernel
theorem dX10_kept_33 : decode cX10_kept 33 = .ok (.if_icmp .ge 84, 3) := by decide +kernel
theorem dX10_kept_36 : decode cX10_kept 36 = .ok (.iload_n 3, 1) := by decide +kernel
theorem dX10_kept_37 : decode cX10_kept 37 = .ok (.aload_n 0, 1) := by decide +kernel
theorem dX10_kept_38 : decode cX10_kept 38 = .ok (.getfield 28, 3) := by decide +kernel
theorem dX10_kept_41 : decode cX10_kept 41 = .ok (.iload 4, 2) := by decide +kernel
theorem dX10_kept_43 : decode cX10_kept 43 = .ok (.iaload, 1) := by decide +kernel
theorem dX10_kept_44 : decode cX10_kept 44 = .ok (.idiv, 1) := by decide +kernel
theorem dX10_kept_45 : decode cX10_kept 45 = .ok (.istore_n 3, 1) := by decide +kernel
theorem dX10_kept_46 : decode cX10_kept 46 = .ok (.iconst 0, 1) := by decide +kernel
theorem dX10_kept_47 : decode cX10_kept 47 = .ok (.istore 5, 2) := by decide +kernel
theorem dX10_kept_49 : decode cX10_kept 49 = .ok (.iconst 1, 1) := by decide +kernel
theorem dX10_kept_50 : decode cX10_kept 50 = .ok (.istore 6, 2) := by decide +kernel
theorem dX10_kept_52 : decode cX10_kept 52 = .ok (.iload 6, 2) := by decide +kernel
theorem dX10_kept_54 : decode cX10_kept 54 = .ok (.aload_n 0, 1) := by decide +kernel
theorem dX10_kept_55 : decode cX10_kept 55 = .ok (.getfield 28, 3) := by decide +kernel
theorem dX10_kept_58 : decode cX10_kept 58 = .ok (.iload 4, 2) := by decide +kernel
theorem dX10_kept_60 : decode cX10_kept 60 = .ok (.iaload, 1) := by decide +kernel
theorem dX10_kept_61 : decode cX10_kept 61 = .ok (.if_icmp .ge 43, 3) := by decide +kernel
theorem dX10_kept_64 : decode cX10_kept 64 = .ok (.aload_n 0, 1) := by decide +kernel
theorem dX10_kept_65 : decode cX10_kept 65 = .ok (.iload_n 2, 1) := by decide +kernel
theorem dX10_kept_66 : decode cX10_kept 66 = .ok (.iload 6, 2) := by decide +kernel
theorem dX10_kept_68 : decode cX10_kept 68 = .ok (.iload_n 3, 1) := by decide +kernel
theorem dX10_kept_69 : decode cX10_kept 69 = .ok (.imul, 1) := by decide +kernel
theorem dX10_kept_70 : decode cX10_kept 70 = .ok (.iadd, 1) := by decide +kernel
theorem dX10_kept_71 : decode cX10_kept 71 = .ok (.iload_n 3, 1) := by decide +kernel
theorem dX10_kept_72 : decode cX10_kept 72 = .ok (.invokevirtual 202, 3) := by decide +kernel
theorem dX10_kept_75 : decode cX10_kept 75 = .ok (.aload_n 0, 1) := by decide +kernel
theorem dX10_kept_76 : decode cX10_kept 76 = .ok (.iload_n 2, 1) := by decide +kernel
theorem dX10_kept_77 : decode cX10_kept 77 = .ok (.iload 5, 2) := by decide +kernel
theorem dX10_kept_79 : decode cX10_kept 79 = .ok (.iload_n 3, 1) := by decide +kernel
theorem dX10_kept_80 : decode cX10_kept 80 = .ok (.imul, 1) := by decide +kernel
theorem dX10_kept_81 : decode cX10_kept 81 = .ok (.iadd, 1) := by decide +kernel
theorem dX10_kept_82 : decode cX10_kept 82 = .ok (.iload_n 3, 1) := by decide +kernel
theorem dX10_kept_83 : decode cX10_kept 83 = .ok (.invokevirtual 202, 3) := by decide +kernel
theorem dX10_kept_86 : decode cX10_kept 86 = .ok (.if_icmp .le 8, 3) := by decide +kernel
theorem dX10_kept_89 : decode cX10_kept 89 = .ok (.iload 6, 2) := by decide +kernel
theorem dX10_kept_91 : decode cX10_kept 91 = .ok (.goto 5, 3) := by decide +kernel
theorem dX10_kept_94 : decode cX10_kept 94 = .ok (.iload 5, 2) := by decide +kernel
theorem dX10_kept_96 : decode cX10_kept 96 = .ok (.istore 5, 2) := by decide +kernel
theorem dX10_kept_98 : decode cX10_kept 98 = .ok (.iinc 6 1, 3) := by decide +kernel
theorem dX10_kept_101 : decode cX10_kept 101 = .ok (.goto (-49), 3) := by decide +kernel
theorem dX10_kept_104 : decode cX10_kept 104 = .ok (.iload_n 2, 1) := by decide +kernel
theorem dX10_kept_105 : decode cX10_kept 105 = .ok (.iload 5, 2) := by decide +kernel
theorem dX10_kept_107 : decode cX10_kept 107 = .ok (.iload_n 3, 1) := by decide +kernel
theorem dX10_kept_108 : decode cX10_kept 108 = .ok (.imul, 1) := by decide +kernel
theorem dX10_kept_109 : decode cX10_kept 109 = .ok (.iadd, 1) := by decide +kernel
theorem dX10_kept_110 : decode cX10_kept 110 = .ok (.istore_n 2, 1) := by decide +kernel
theorem dX10_kept_111 : decode cX10_kept 111 = .ok (.iinc 4 1, 3) := by decide +kernel
theorem dX10_kept_114 : decode cX10_kept 114 = .ok (.goto (-87), 3) := by decide +kernel
theorem dX10_kept_117 : decode cX10_kept 117 = .ok (.iload_n 1, 1) := by decide +kernel
theorem dX10_kept_118 : decode cX10_kept 118 = .ok (.iconst 1, 1) := by decide +kernel
theorem dX10_kept_119 : decode cX10_kept 119 = .ok (.if_icmp .ne 7, 3) := by decide +kernel
theorem dX10_kept_122 : decode cX10_kept 122 = .ok (.iload_n 2, 1) := by decide +kernel
theorem dX10_kept_123 : decode cX10_kept 123 = .ok (.goto 9, 3) := by decide +kernel
theorem dX10_kept_126 : decode cX10_kept 126 = .ok (.aload_n 0, 1) := by decide +kernel
theorem dX10_kept_127 : decode cX10_kept 127 = .ok (.iload_n 2, 1) := by decide +kernel
theorem dX10_kept_128 : decode cX10_kept 128 = .ok (.iconst 1, 1) := by decide +kernel
theorem dX10_kept_129 : decode cX10_kept 129 = .ok (.invokevirtual 202, 3) := by decide +kernel
theorem dX10_kept_132 : decode cX10_kept 132 = .ok (.ireturn, 1) := by decide +kernel
set_option maxRecDepth 20000 in
theorem ggX10_good_X10_in : GoodIn wsX10_good wsX10_in := goodIn_r _ [6] (by decide +kernel) (by decide +kernel)
set_option maxRecDepth 20000 in
theorem gX10_good_X10_in : GoodIn wsX10_good (va_wsS RX10 94 yX10_in wsX10_in) := goodIn_app (goodIn_of _ (by decide +kernel)) ggX10_good_X10_in
set_option maxRecDepth 20000 in
theorem ggX10_good_X10_layGood : GoodIn wsX10_good wsX10_layGood := goodIn_r _ [10, 2, 1, 11, 12, 13, 14, 5, 15, 16, 17, 18, 19, 20, 21, 22, 23, 24, 25, 26, 27, 28, 29, 30, 31, 32, 33, 42, 43, 44, 45, 46, 47, 48, 49, 50, 51, 52, 53, 54, 55, 56, 57, 58, 59, 60, 61, 62, 63, 64, 65, 66, 67, 68, 69, 70, 71, 72, 73, 74, 75, 76, 77, 78, 79, 80] (by decide +kernel) (by decide +kernel)
set_option maxRecDepth 20000 in
theorem gX10_good_X10_layGood : GoodIn wsX10_good (wsV RX10 189 RX10 yX10_layGood wsX10_layGood) := goodIn_app (goodIn_of _ (by decide +kernel)) ggX10_good_X10_layGood
set_option maxRecDepth 20000 in
theorem ggX10_good_X10_allFrom : GoodIn wsX10_good wsX10_allFrom := goodIn_r _ [37, 2, 38, 39, 40, 5, 41, 11, 42, 43, 44, 45, 46, 47, 48, 49, 50, 51, 52, 53, 54, 55, 56, 57, 58, 59, 60, 61, 62, 63, 64, 65, 66, 67, 68, 69, 70, 71, 72, 73, 74, 75, 76, 77, 78, 79, 80] (by decide +kernel) (by decide +kernel)
set_option maxRecDepth 20000 in
theorem gX10_good_X10_allFrom : GoodIn wsX10_good (wsV RX10 202 RX10 yX10_allFrom wsX10_allFrom) := goodIn_app (goodIn_of _ (by decide +kernel)) ggX10_good_X10_allFrom
theorem dX10_good_0 : decode cX10_good 0 = .ok (.iload_n 1, 1) := by decide +kernel
theorem dX10_good_1 : decode cX10_good 1 = .ok (.i2l, 1) := by decide +kernel
theorem dX10_good_2 : decode cX10_good 2 = .ok (.lconst 0, 1) := by decide +kernel
theorem dX10_good_3 : decode cX10_good 3 = .ok (.lconst 1, 1) := by decide +kernel
theorem dX10_good_4 : decode cX10_good 4 = .ok (.invokestatic 94, 3) := by decide +kernel
theorem dX10_good_7 : decode cX10_good 7 = .ok (.ifCond .ne 6, 3) := by decide +kernel
theorem dX10_good_10 : decode cX10_good 10 = .ok (.bipush (-3), 2) := by decide +kernel
theorem dX10_good_12 : decode cX10_good 12 = .ok (.ireturn, 1) := by decide +kernel
theorem dX10_good_13 : decode cX10_good 13 = .ok (.aload_n 0, 1) := by decide +kernel
theorem dX10_good_14 : decode cX10_good 14 = .ok (.invokevirtual 189, 3) := by decide +kernel
theorem dX10_good_17 : decode cX10_good 17 = .ok (.iconst 0, 1) := by decide +kernel
theorem dX10_good_18 : decode cX10_good 18 = .ok (.istore_n 2, 1) := by decide +kernel
theorem dX10_good_19 : decode cX10_good 19 = .ok (.iconst (-1), 1) := by decide +kernel
theorem dX10_good_20 : decode cX10_good 20 = .ok (.istore_n 3, 1) := by decide +kernel
theorem dX10_good_21 : decode cX10_good 21 = .ok (.aload_n 0, 1) := by decide +kernel
theorem dX10_good_22 : decode cX10_good 22 = .ok (.getfield 31, 3) := by decide +kernel
theorem dX10_good_25 : decode cX10_good 25 = .ok (.iconst 1, 1) := by decide +kernel
theorem dX10_good_26 : decode cX10_good 26 = .ok (.isub, 1) := by decide +kernel
theorem dX10_good_27 : decode cX10_good 27 = .ok (.istore 4, 2) := by decide +kernel
theorem dX10_good_29 : decode cX10_good 29 = .ok (.iload 4, 2) := by decide +kernel
theorem dX10_good_31 : decode cX10_good 31 = .ok (.ifCond .lt 57, 3) := by decide +kernel
theorem dX10_good_34 : decode cX10_good 34 = .ok (.aload_n 0, 1) := by decide +kernel
theorem dX10_good_35 : decode cX10_good 35 = .ok (.iload 4, 2) := by decide +kernel
theorem dX10_good_37 : decode cX10_good 37 = .ok (.iconst 1, 1) := by decide +kernel
theorem dX10_good_38 : decode cX10_good 38 = .ok (.invokevirtual 202, 3) := by decide +kernel
theorem dX10_good_41 : decode cX10_good 41 = .ok (.iconst 1, 1) := by decide +kernel
theorem dX10_good_42 : decode cX10_good 42 = .ok (.aload_n 0, 1) := by decide +kernel
theorem dX10_good_43 : decode cX10_good 43 = .ok (.getfield 164, 3) := by decide +kernel
theorem dX10_good_46 : decode cX10_good 46 = .ok (.ishl, 1) := by decide +kernel
theorem dX10_good_47 : decode cX10_good 47 = .ok (.if_icmp .ne 7, 3) := by decide +kernel
theorem dX10_good_50 : decode cX10_good 50 = .ok (.iconst 1, 1) := by decide +kernel
theorem dX10_good_51 : decode cX10_good 51 = .ok (.goto 4, 3) := by decide +kernel
theorem dX10_good_54 : decode cX10_good 54 = .ok (.iconst 0, 1) := by decide +kernel
theorem dX10_good_55 : decode cX10_good 55 = .ok (.istore 5, 2) := by decide +kernel
theorem dX10_good_57 : decode cX10_good 57 = .ok (.iload_n 2, 1) := by decide +kernel
theorem dX10_good_58 : decode cX10_good 58 = .ok (.iload 5, 2) := by decide +kernel
theorem dX10_good_60 : decode cX10_good 60 = .ok (.ifCond .eq 7, 3) := by decide +kernel
theorem dX10_good_63 : decode cX10_good 63 = .ok (.iconst 1, 1) := by decide +kernel
theorem dX10_good_64 : decode cX10_good 64 = .ok (.goto 4, 3) := by decide +kernel
theorem dX10_good_67 : decode cX10_good 67 = .ok (.iconst 0, 1) := by decide +kernel
theorem dX10_good_68 : decode cX10_good 68 = .ok (.iadd, 1) := by decide +kernel
theorem dX10_good_69 : decode cX10_good 69 = .ok (.istore_n 2, 1) := by decide +kernel
theorem dX10_good_70 : decode cX10_good 70 = .ok (.iload 5, 2) := by decide +kernel
theorem dX10_good_72 : decode cX10_good 72 = .ok (.ifCond .eq 8, 3) := by decide +kernel
theorem dX10_good_75 : decode cX10_good 75 = .ok (.iload 4, 2) := by decide +kernel
theorem dX10_good_77 : decode cX10_good 77 = .ok (.goto 4, 3) := by decide +kernel
theorem dX10_good_80 : decode cX10_good 80 = .ok (.iload_n 3, 1) := by decide +kernel
theorem dX10_good_81 : decode cX10_good 81 = .ok (.istore_n 3, 1) := by decide +kernel
theorem dX10_good_82 : decode cX10_good 82 = .ok (.iinc 4 (-1), 3) := by decide +kernel
theorem dX10_good_85 : decode cX10_good 85 = .ok (.goto (-56), 3) := by decide +kernel
theorem dX10_good_88 : decode cX10_good 88 = .ok (.iload_n 1, 1) := by decide +kernel
theorem dX10_good_89 : decode cX10_good 89 = .ok (.ifCond .ne 7, 3) := by decide +kernel
theorem dX10_good_92 : decode cX10_good 92 = .ok (.iload_n 2, 1) := by decide +kernel
theorem dX10_good_93 : decode cX10_good 93 = .ok (.goto 4, 3) := by decide +kernel
theorem dX10_good_96 : decode cX10_good 96 = .ok (.iload_n 3, 1) := by decide +kernel
theorem dX10_good_97 : decode cX10_good 97 = .ok (.ireturn, 1) := by decide +kernel
theorem dX10_newBy_0 : decode cX10_newBy 0 = .ok (.iconst 0, 1) := by decide +kernel
theorem dX10_newBy_1 : decode cX10_newBy 1 = .ok (.istore_n 2, 1) := by decide +kernel
theorem dX10_newBy_2 : decode cX10_newBy 2 = .ok (.iconst 0, 1) := by decide +kernel
theorem dX10_newBy_3 : decode cX10_newBy 3 = .ok (.istore_n 3, 1) := by decide +kernel
theorem dX10_newBy_4 : decode cX10_newBy 4 = .ok (.iload_n 3, 1) := by decide +kernel
theorem dX10_newBy_5 : decode cX10_newBy 5 = .ok (.iconst 1, 1) := by decide +kernel
theorem dX10_newBy_6 : decode cX10_newBy 6 = .ok (.aload_n 0, 1) := by decide +kernel
theorem dX10_newBy_7 : decode cX10_newBy 7 = .ok (.getfield 164, 3) := by decide +kernel
theorem dX10_newBy_10 : decode cX10_newBy 10 = .ok (.ishl, 1) := by decide +kernel
theorem dX10_newBy_11 : decode cX10_newBy 11 = .ok (.if_icmp .ge 36, 3) := by decide +kernel
theorem dX10_newBy_14 : decode cX10_newBy 14 = .ok (.iload_n 2, 1) := by decide +kernel
theorem dX10_newBy_15 : decode cX10_newBy 15 = .ok (.aload_n 0, 1) := by decide +kernel
theorem dX10_newBy_16 : decode cX10_newBy 16 = .ok (.getfield 74, 3) := by decide +kernel
theorem dX10_newBy_19 : decode cX10_newBy 19 = .ok (.iload_n 3, 1) := by decide +kernel
theorem dX10_newBy_20 : decode cX10_newBy 20 = .ok (.baload, 1) := by decide +kernel
theorem dX10_newBy_21 : decode cX10_newBy 21 = .ok (.ifCond .eq 7, 3) := by decide +kernel
theorem dX10_newBy_24 : decode cX10_newBy 24 = .ok (.iconst 0, 1) := by decide +kernel
theorem dX10_newBy_25 : decode cX10_newBy 25 = .ok (.goto 14, 3) := by decide +kernel
theorem dX10_newBy_28 : decode cX10_newBy 28 = .ok (.aload_n 0, 1) := by decide +kernel
theorem dX10_newBy_29 : decode cX10_newBy 29 = .ok (.getfield 71, 3) := by decide +kernel
theorem dX10_newBy_32 : decode cX10_newBy 32 = .ok (.bipush 64, 2) := by decide +kernel
theorem dX10_newBy_34 : decode cX10_newBy 34 = .ok (.iload_n 3, 1) := by decide +kernel
theorem dX10_newBy_35 : decode cX10_newBy 35 = .ok (.imul, 1) := by decide +kernel
theorem dX10_newBy_36 : decode cX10_newBy 36 = .ok (.iload_n 1, 1) := by decide +kernel
theorem dX10_newBy_37 : decode cX10_newBy 37 = .ok (.iadd, 1) := by decide +kernel
theorem dX10_newBy_38 : decode cX10_newBy 38 = .ok (.iaload, 1) := by decide +kernel
theorem dX10_newBy_39 : decode cX10_newBy 39 = .ok (.iadd, 1) := by decide +kernel
theorem dX10_newBy_40 : decode cX10_newBy 40 = .ok (.istore_n 2, 1) := by decide +kernel
theorem dX10_newBy_41 : decode cX10_newBy 41 = .ok (.iinc 3 1, 3) := by decide +kernel
theorem dX10_newBy_44 : decode cX10_newBy 44 = .ok (.goto (-40), 3) := by decide +kernel
theorem dX10_newBy_47 : decode cX10_newBy 47 = .ok (.iload_n 2, 1) := by decide +kernel
theorem dX10_newBy_48 : decode cX10_newBy 48 = .ok (.ireturn, 1) := by decide +kernel
set_option maxRecDepth 20000 in
theorem ggX10_together_X10_layGood : GoodIn wsX10_together wsX10_layGood := goodIn_r _ [10, 2, 3, 4, 11, 12, 13, 9, 14, 15, 16, 17, 18, 19, 20, 21, 22, 23, 24, 25, 26, 27, 28, 29, 30, 31, 32, 37, 38, 39, 40, 41, 42, 43, 44, 45, 46, 47, 48, 49, 50, 51, 52, 53, 54, 55, 56, 57, 58, 59, 60, 61, 62, 63, 64, 65, 66, 67, 68, 69, 70, 71, 72, 73, 74, 75] (by decide +kernel) (by decide +kernel)
set_option maxRecDepth 20000 in
theorem gX10_together_X10_layGood : GoodIn wsX10_together (wsV RX10 189 RX10 yX10_layGood wsX10_layGood) := goodIn_app (goodIn_of _ (by decide +kernel)) ggX10_together_X10_layGood
set_option maxRecDepth 20000 in
theorem ggX10_together_X10_newBy : GoodIn wsX10_together wsX10_newBy := goodIn_r _ [36, 2, 1, 4, 37, 38, 39, 40, 41, 42, 43, 44, 45, 46, 47, 48, 49, 50, 51, 52, 53, 54, 55, 56, 57, 58, 59, 60, 61, 62, 63, 64, 65, 66, 67, 68, 69, 70, 71, 72, 73, 74, 75] (by decide +kernel) (by decide +kernel)
set_option maxRecDepth 20000 in
theorem gX10_together_X10_newBy : GoodIn wsX10_together (wsV RX10 206 RX10 yX10_newBy wsX10_newBy) := goodIn_app (goodIn_of _ (by decide +kernel)) ggX10_together_X10_newBy
theorem dX10_together_0 : decode cX10_together 0 = .ok (.iload_n 1, 1) := by decide +kernel
theorem dX10_together_1 : decode cX10_together 1 = .ok (.iconst (-1), 1) := by decide +kernel
theorem dX10_together_2 : decode cX10_together 2 = .ok (.if_icmp .ge 6, 3) := by decide +kernel
theorem dX10_together_5 : decode cX10_together 5 = .ok (.bipush (-3), 2) := by decide +kernel
theorem dX10_together_7 : decode cX10_together 7 = .ok (.ireturn, 1) := by decide +kernel
theorem dX10_together_8 : decode cX10_together 8 = .ok (.aload_n 0, 1) := by decide +kernel
theorem dX10_together_9 : decode cX10_together 9 = .ok (.invokevirtual 189, 3) := by decide +kernel
theorem dX10_together_12 : decode cX10_together 12 = .ok (.iconst 0, 1) := by decide +kernel
theorem dX10_together_13 : decode cX10_together 13 = .ok (.istore_n 2, 1) := by decide +kernel
theorem dX10_together_14 : decode cX10_together 14 = .ok (.iload_n 2, 1) := by decide +kernel
theorem dX10_together_15 : decode cX10_together 15 = .ok (.bipush 32, 2) := by decide +kernel
theorem dX10_together_17 : decode cX10_together 17 = .ok (.if_icmp .ge 16, 3) := by decide +kernel
theorem dX10_together_20 : decode cX10_together 20 = .ok (.aload_n 0, 1) := by decide +kernel
theorem dX10_together_21 : decode cX10_together 21 = .ok (.getfield 74, 3) := by decide +kernel
theorem dX10_together_24 : decode cX10_together 24 = .ok (.iload_n 2, 1) := by decide +kernel
theorem dX10_together_25 : decode cX10_together 25 = .ok (.iconst 0, 1) := by decide +kernel
theorem dX10_together_26 : decode cX10_together 26 = .ok (.bastore, 1) := by decide +kernel
theorem dX10_together_27 : decode cX10_together 27 = .ok (.iinc 2 1, 3) := by decide +kernel
theorem dX10_together_30 : decode cX10_together 30 = .ok (.goto (-16), 3) := by decide +kernel
theorem dX10_together_33 : decode cX10_together 33 = .ok (.iconst 1, 1) := by decide +kernel
theorem dX10_together_34 : decode cX10_together 34 = .ok (.aload_n 0, 1) := by decide +kernel
theorem dX10_together_35 : decode cX10_together 35 = .ok (.getfield 164, 3) := by decide +kernel
theorem dX10_together_38 : decode cX10_together 38 = .ok (.ishl, 1) := by decide +kernel
theorem dX10_together_39 : decode cX10_together 39 = .ok (.istore_n 2, 1) := by decide +kernel
theorem dX10_together_40 : decode cX10_together 40 = .ok (.iconst 0, 1) := by decide +kernel
theorem dX10_together_41 : decode cX10_together 41 = .ok (.istore_n 3, 1) := by decide +kernel
theorem dX10_together_42 : decode cX10_together 42 = .ok (.iload_n 2, 1) := by decide +kernel
theorem dX10_together_43 : decode cX10_together 43 = .ok (.ifCond .le 141, 3) := by decide +kernel
theorem dX10_together_46 : decode cX10_together 46 = .ok (.iconst 0, 1) := by decide +kernel
theorem dX10_together_47 : decode cX10_together 47 = .ok (.istore 4, 2) := by decide +kernel
theorem dX10_together_49 : decode cX10_together 49 = .ok (.iconst 1, 1) := by decide +kernel
theorem dX10_together_50 : decode cX10_together 50 = .ok (.istore 5, 2) := by decide +kernel
theorem dX10_together_52 : decode cX10_together 52 = .ok (.iload 5, 2) := by decide +kernel
theorem dX10_together_54 : decode cX10_together 54 = .ok (.aload_n 0, 1) := by decide +kernel
theorem dX10_together_55 : decode cX10_together 55 = .ok (.getfield 31, 3) := by decide +kernel
theorem dX10_together_58 : decode cX10_together 58 = .ok (.if_icmp .ge 33, 3) := by decide +kernel
theorem dX10_together_61 : decode cX10_together 61 = .ok (.aload_n 0, 1) := by decide +kernel
theorem dX10_together_62 : decode cX10_together 62 = .ok (.iload 5, 2) := by decide +kernel
theorem dX10_together_64 : decode cX10_together 64 = .ok (.invokevirtual 206, 3) := by decide +kernel
theorem dX10_together_67 : decode cX10_together 67 = .ok (.aload_n 0, 1) := by decide +kernel
theorem dX10_together_68 : decode cX10_together 68 = .ok (.iload 4, 2) := by decide +kernel
theorem dX10_together_70 : decode cX10_together 70 = .ok (.invokevirtual 206, 3) := by decide +kernel
theorem dX10_together_73 : decode cX10_together 73 = .ok (.if_icmp .le 8, 3) := by decide +kernel
theorem dX10_together_76 : decode cX10_together 76 = .ok (.iload 5, 2) := by decide +kernel
theorem dX10_together_78 : decode cX10_together 78 = .ok (.goto 5, 3) := by decide +kernel
theorem dX10_together_81 : decode cX10_together 81 = .ok (.iload 4, 2) := by decide +kernel
theorem dX10_together_83 : decode cX10_together 83 = .ok (.istore 4, 2) := by decide +kernel
theorem dX10_together_85 : decode cX10_together 85 = .ok (.iinc 5 1, 3) := by decide +kernel
theorem dX10_together_88 : decode cX10_together 88 = .ok (.goto (-36), 3) := by decide +kernel
theorem dX10_together_91 : decode cX10_together 91 = .ok (.aload_n 0, 1) := by decide +kernel
theorem dX10_together_92 : decode cX10_together 92 = .ok (.iload 4, 2) := by decide +kernel
theorem dX10_together_94 : decode cX10_together 94 = .ok (.invokevirtual 206, 3) := by decide +kernel
theorem dX10_together_97 : decode cX10_together 97 = .ok (.ifCond .ne 5, 3) := by decide +kernel
theorem dX10_together_100 : decode cX10_together 100 = .ok (.iconst (-1), 1) := by decide +kernel
theorem dX10_together_101 : decode cX10_together 101 = .ok (.ireturn, 1) := by decide +kernel
theorem dX10_together_102 : decode cX10_together 102 = .ok (.iload_n 2, 1) := by decide +kernel
theorem dX10_together_103 : decode cX10_together 103 = .ok (.aload_n 0, 1) := by decide +kernel
theorem dX10_together_104 : decode cX10_together 104 = .ok (.iload 4, 2) := by decide +kernel
theorem dX10_together_106 : decode cX10_together 106 = .ok (.invokevirtual 206, 3) := by decide +kernel
theorem dX10_together_109 : decode cX10_together 109 = .ok (.isub, 1) := by decide +kernel
theorem dX10_together_110 : decode cX10_together 110 = .ok (.istore_n 2, 1) := by decide +kernel
theorem dX10_together_111 : decode cX10_together 111 = .ok (.iconst 0, 1) := by decide +kernel
theorem dX10_together_112 : decode cX10_together 112 = .ok (.istore 5, 2) := by decide +kernel
theorem dX10_together_114 : decode cX10_together 114 = .ok (.iload 5, 2) := by decide +kernel
theorem dX10_together_116 : decode cX10_together 116 = .ok (.iconst 1, 1) := by decide +kernel
theorem dX10_together_117 : decode cX10_together 117 = .ok (.aload_n 0, 1) := by decide +kernel
theorem dX10_together_118 : decode cX10_together 118 = .ok (.getfield 164, 3) := by decide +kernel
theorem dX10_together_121 : decode cX10_together 121 = .ok (.ishl, 1) := by decide +kernel
theorem dX10_together_122 : decode cX10_together 122 = .ok (.if_icmp .ge 48, 3) := by decide +kernel
theorem dX10_together_125 : decode cX10_together 125 = .ok (.aload_n 0, 1) := by decide +kernel
theorem dX10_together_126 : decode cX10_together 126 = .ok (.getfield 74, 3) := by decide +kernel
theorem dX10_together_129 : decode cX10_together 129 = .ok (.iload 5, 2) := by decide +kernel
theorem dX10_together_131 : decode cX10_together 131 = .ok (.aload_n 0, 1) := by decide +kernel
theorem dX10_together_132 : decode cX10_together 132 = .ok (.getfield 74, 3) := by decide +kernel
theorem dX10_together_135 : decode cX10_together 135 = .ok (.iload 5, 2) := by decide +kernel
theorem dX10_together_137 : decode cX10_together 137 = .ok (.baload, 1) := by decide +kernel
theorem dX10_together_138 : decode cX10_together 138 = .ok (.ifCond .ne 20, 3) := by decide +kernel
theorem dX10_together_141 : decode cX10_together 141 = .ok (.aload_n 0, 1) := by decide +kernel
theorem dX10_together_142 : decode cX10_together 142 = .ok (.getfield 71, 3) := by decide +kernel
theorem dX10_together_145 : decode cX10_together 145 = .ok (.bipush 64, 2) := by decide +kernel
theorem dX10_together_147 : decode cX10_together 147 = .ok (.iload 5, 2) := by decide +kernel
theorem dX10_together_149 : decode cX10_together 149 = .ok (.imul, 1) := by decide +kernel
theorem dX10_together_150 : decode cX10_together 150 = .ok (.iload 4, 2) := by decide +kernel
theorem dX10_together_152 : decode cX10_together 152 = .ok (.iadd, 1) := by decide +kernel
theorem dX10_together_153 : decode cX10_together 153 = .ok (.iaload, 1) := by decide +kernel
theorem dX10_together_154 : decode cX10_together 154 = .ok (.iconst 1, 1) := by decide +kernel
theorem dX10_together_155 : decode cX10_together 155 = .ok (.if_icmp .ne 7, 3) := by decide +kernel
theorem dX10_together_158 : decode cX10_together 158 = .ok (.iconst 1, 1) := by decide +kernel
theorem dX10_together_159 : decode cX10_together 159 = .ok (.goto 4, 3) := by decide +kernel
theorem dX10_together_162 : decode cX10_together 162 = .ok (.iconst 0, 1) := by decide +kernel
theorem dX10_together_163 : decode cX10_together 163 = .ok (.bastore, 1) := by decide +kernel
theorem dX10_together_164 : decode cX10_together 164 = .ok (.iinc 5 1, 3) := by decide +kernel
theorem dX10_together_167 : decode cX10_together 167 = .ok (.goto (-53), 3) := by decide +kernel
theorem dX10_together_170 : decode cX10_together 170 = .ok (.aload_n 0, 1) := by decide +kernel
theorem dX10_together_171 : decode cX10_together 171 = .ok (.getfield 78, 3) := by decide +kernel
theorem dX10_together_174 : decode cX10_together 174 = .ok (.iload_n 3, 1) := by decide +kernel
theorem dX10_together_175 : decode cX10_together 175 = .ok (.iload 4, 2) := by decide +kernel
theorem dX10_together_177 : decode cX10_together 177 = .ok (.iastore, 1) := by decide +kernel
theorem dX10_together_178 : decode cX10_together 178 = .ok (.iinc 3 1, 3) := by decide +kernel
theorem dX10_together_181 : decode cX10_together 181 = .ok (.goto (-139), 3) := by decide +kernel
theorem dX10_together_184 : decode cX10_together 184 = .ok (.iload_n 1, 1) := by decide +kernel
theorem dX10_together_185 : decode cX10_together 185 = .ok (.iconst (-1), 1) := by decide +kernel
theorem dX10_together_186 : decode cX10_together 186 = .ok (.if_icmp .ne 7, 3) := by decide +kernel
theorem dX10_together_189 : decode cX10_together 189 = .ok (.iload_n 3, 1) := by decide +kernel
theorem dX10_together_190 : decode cX10_together 190 = .ok (.goto 18, 3) := by decide +kernel
theorem dX10_together_193 : decode cX10_together 193 = .ok (.iload_n 1, 1) := by decide +kernel
theorem dX10_together_194 : decode cX10_together 194 = .ok (.iload_n 3, 1) := by decide +kernel
theorem dX10_together_195 : decode cX10_together 195 = .ok (.if_icmp .ge 12, 3) := by decide +kernel
theorem dX10_together_198 : decode cX10_together 198 = .ok (.aload_n 0, 1) := by decide +kernel
theorem dX10_together_199 : decode cX10_together 199 = .ok (.getfield 78, 3) := by decide +kernel
theorem dX10_together_202 : decode cX10_together 202 = .ok (.iload_n 1, 1) := by decide +kernel
theorem dX10_together_203 : decode cX10_together 203 = .ok (.iaload, 1) := by decide +kernel
theorem dX10_together_204 : decode cX10_together 204 = .ok (.goto 4, 3) := by decide +kernel
theorem dX10_together_207 : decode cX10_together 207 = .ok (.iconst (-1), 1) := by decide +kernel
theorem dX10_together_208 : decode cX10_together 208 = .ok (.ireturn, 1) := by decide +kernel
theorem dX10_power_0 : decode cX10_power 0 = .ok (.lconst 1, 1) := by decide +kernel
theorem dX10_power_1 : decode cX10_power 1 = .ok (.lstore_n 3, 1) := by decide +kernel
theorem dX10_power_2 : decode cX10_power 2 = .ok (.iconst 0, 1) := by decide +kernel
theorem dX10_power_3 : decode cX10_power 3 = .ok (.istore 5, 2) := by decide +kernel
theorem dX10_power_5 : decode cX10_power 5 = .ok (.iload 5, 2) := by decide +kernel
theorem dX10_power_7 : decode cX10_power 7 = .ok (.iload_n 2, 1) := by decide +kernel
theorem dX10_power_8 : decode cX10_power 8 = .ok (.if_icmp .ge 13, 3) := by decide +kernel
theorem dX10_power_11 : decode cX10_power 11 = .ok (.lload_n 3, 1) := by decide +kernel
theorem dX10_power_12 : decode cX10_power 12 = .ok (.lload_n 0, 1) := by decide +kernel
theorem dX10_power_13 : decode cX10_power 13 = .ok (.lmul, 1) := by decide +kernel
theorem dX10_power_14 : decode cX10_power 14 = .ok (.lstore_n 3, 1) := by decide +kernel
theorem dX10_power_15 : decode cX10_power 15 = .ok (.iinc 5 1, 3) := by decide +kernel
theorem dX10_power_18 : decode cX10_power 18 = .ok (.goto (-13), 3) := by decide +kernel
theorem dX10_power_21 : decode cX10_power 21 = .ok (.lload_n 3, 1) := by decide +kernel
theorem dX10_power_22 : decode cX10_power 22 = .ok (.lreturn, 1) := by decide +kernel
theorem dX10_choose_0 : decode cX10_choose 0 = .ok (.lconst 1, 1) := by decide +kernel
theorem dX10_choose_1 : decode cX10_choose 1 = .ok (.lstore_n 2, 1) := by decide +kernel
theorem dX10_choose_2 : decode cX10_choose 2 = .ok (.iconst 1, 1) := by decide +kernel
theorem dX10_choose_3 : decode cX10_choose 3 = .ok (.istore 4, 2) := by decide +kernel
theorem dX10_choose_5 : decode cX10_choose 5 = .ok (.iload 4, 2) := by decide +kernel
theorem dX10_choose_7 : decode cX10_choose 7 = .ok (.iload_n 1, 1) := by decide +kernel
theorem dX10_choose_8 : decode cX10_choose 8 = .ok (.if_icmp .gt 23, 3) := by decide +kernel
theorem dX10_choose_11 : decode cX10_choose 11 = .ok (.lload_n 2, 1) := by decide +kernel
theorem dX10_choose_12 : decode cX10_choose 12 = .ok (.iload_n 0, 1) := by decide +kernel
theorem dX10_choose_13 : decode cX10_choose 13 = .ok (.iload_n 1, 1) := by decide +kernel
theorem dX10_choose_14 : decode cX10_choose 14 = .ok (.isub, 1) := by decide +kernel
theorem dX10_choose_15 : decode cX10_choose 15 = .ok (.iload 4, 2) := by decide +kernel
theorem dX10_choose_17 : decode cX10_choose 17 = .ok (.iadd, 1) := by decide +kernel
theorem dX10_choose_18 : decode cX10_choose 18 = .ok (.i2l, 1) := by decide +kernel
theorem dX10_choose_19 : decode cX10_choose 19 = .ok (.lmul, 1) := by decide +kernel
theorem dX10_choose_20 : decode cX10_choose 20 = .ok (.iload 4, 2) := by decide +kernel
theorem dX10_choose_22 : decode cX10_choose 22 = .ok (.i2l, 1) := by decide +kernel
theorem dX10_choose_23 : decode cX10_choose 23 = .ok (.ldiv, 1) := by decide +kernel
theorem dX10_choose_24 : decode cX10_choose 24 = .ok (.lstore_n 2, 1) := by decide +kernel
theorem dX10_choose_25 : decode cX10_choose 25 = .ok (.iinc 4 1, 3) := by decide +kernel
theorem dX10_choose_28 : decode cX10_choose 28 = .ok (.goto (-23), 3) := by decide +kernel
theorem dX10_choose_31 : decode cX10_choose 31 = .ok (.lload_n 2, 1) := by decide +kernel
theorem dX10_choose_32 : decode cX10_choose 32 = .ok (.lreturn, 1) := by decide +kernel
set_option maxRecDepth 20000 in
theorem ggX10_isBound_X10_in : GoodIn wsX10_isBound wsX10_in := goodIn_r _ [5] (by decide +kernel) (by decide +kernel)
set_option maxRecDepth 20000 in
theorem gX10_isBound_X10_in : GoodIn wsX10_isBound (va_wsS RX10 94 yX10_in wsX10_in) := goodIn_app (goodIn_of _ (by decide +kernel)) ggX10_isBound_X10_in
theorem dX10_isBound_0 : decode cX10_isBound 0 = .ok (.iload_n 0, 1) := by decide +kernel
theorem dX10_isBound_1 : decode cX10_isBound 1 = .ok (.i2l, 1) := by decide +kernel
theorem dX10_isBound_2 : decode cX10_isBound 2 = .ok (.lconst 0, 1) := by decide +kernel
theorem dX10_isBound_3 : decode cX10_isBound 3 = .ok (.ldc2_w 209, 3) := by decide +kernel
theorem dX10_isBound_6 : decode cX10_isBound 6 = .ok (.invokestatic 94, 3) := by decide +kernel
theorem dX10_isBound_9 : decode cX10_isBound 9 = .ok (.ifCond .eq 19, 3) := by decide +kernel
theorem dX10_isBound_12 : decode cX10_isBound 12 = .ok (.iload_n 1, 1) := by decide +kernel
theorem dX10_isBound_13 : decode cX10_isBound 13 = .ok (.i2l, 1) := by decide +kernel
theorem dX10_isBound_14 : decode cX10_isBound 14 = .ok (.lconst 1, 1) := by decide +kernel
theorem dX10_isBound_15 : decode cX10_isBound 15 = .ok (.ldc2_w 209, 3) := by decide +kernel
theorem dX10_isBound_18 : decode cX10_isBound 18 = .ok (.invokestatic 94, 3) := by decide +kernel
theorem dX10_isBound_21 : decode cX10_isBound 21 = .ok (.ifCond .eq 7, 3) := by decide +kernel
theorem dX10_isBound_24 : decode cX10_isBound 24 = .ok (.iconst 1, 1) := by decide +kernel
theorem dX10_isBound_25 : decode cX10_isBound 25 = .ok (.goto 4, 3) := by decide +kernel
theorem dX10_isBound_28 : decode cX10_isBound 28 = .ok (.iconst 0, 1) := by decide +kernel
theorem dX10_isBound_29 : decode cX10_isBound 29 = .ok (.ireturn, 1) := by decide +kernel
set_option maxRecDepth 20000 in
theorem ggX10_again_X10_isBound : GoodIn wsX10_again wsX10_isBound := goodIn_r _ [6, 7, 8, 9, 5, 10] (by decide +kernel) (by decide +kernel)
set_option maxRecDepth 20000 in
theorem gX10_again_X10_isBound : GoodIn wsX10_again (va_wsS RX10 211 yX10_isBound wsX10_isBound) := goodIn_app (goodIn_of _ (by decide +kernel)) ggX10_again_X10_isBound
set_option maxRecDepth 20000 in
theorem ggX10_again_X10_layGood : GoodIn wsX10_again wsX10_layGood := goodIn_r _ [14, 1, 2, 15, 16, 17, 18, 5, 19, 20, 21, 22, 23, 24, 25, 26, 27, 28, 29, 30, 31, 32, 33, 34, 35, 36, 37, 48, 49, 50, 51, 52, 53, 54, 55, 56, 57, 58, 59, 60, 61, 62, 63, 64, 65, 66, 67, 68, 69, 70, 71, 72, 73, 74, 75, 76, 77, 78, 79, 80, 81, 82, 83, 84, 85, 86] (by decide +kernel) (by decide +kernel)
set_option maxRecDepth 20000 in
theorem gX10_again_X10_layGood : GoodIn wsX10_again (wsV RX10 189 RX10 yX10_layGood wsX10_layGood) := goodIn_app (goodIn_of _ (by decide +kernel)) ggX10_again_X10_layGood
set_option maxRecDepth 20000 in
theorem ggX10_again_X10_rightFrom : GoodIn wsX10_again wsX10_rightFrom := goodIn_r _ [41, 15, 48, 49, 50, 51, 52, 53, 54, 55, 56, 57, 58, 59, 60, 61, 62, 63, 64, 65, 66, 67, 68, 69, 70, 71, 72, 73, 74, 75, 76, 77, 78, 79, 80, 81, 82, 83, 84, 85, 86] (by decide +kernel) (by decide +kernel)
set_option maxRecDepth 20000 in
theorem gX10_again_X10_rightFrom : GoodIn wsX10_again (wsV RX10 192 RX10 yX10_rightFrom wsX10_rightFrom) := goodIn_app (goodIn_of _ (by decide +kernel)) ggX10_again_X10_rightFrom
set_option maxRecDepth 20000 in
theorem ggX10_again_X10_choose : GoodIn wsX10_again wsX10_choose := goodIn_r _ [44] (by decide +kernel) (by decide +kernel)
set_option maxRecDepth 20000 in
theorem gX10_again_X10_choose : GoodIn wsX10_again (va_wsS RX10 214 yX10_choose wsX10_choose) := goodIn_app (goodIn_of _ (by decide +kernel)) ggX10_again_X10_choose
set_option maxRecDepth 20000 in
theorem ggX10_again_X10_power : GoodIn wsX10_again wsX10_power := goodIn_r _ [47] (by decide +kernel) (by decide +kernel)
set_option maxRecDepth 20000 in
theorem gX10_again_X10_power : GoodIn wsX10_again (va_wsS RX10 218 yX10_power wsX10_power) := goodIn_app (goodIn_of _ (by decide +kernel)) ggX10_again_X10_power
theorem dX10_again_0 : decode cX10_again 0 = .ok (.iload_n 1, 1) := by decide +kernel
theorem dX10_again_1 : decode cX10_again 1 = .ok (.iload_n 2, 1) := by decide +kernel
theorem dX10_again_2 : decode cX10_again 2 = .ok (.invokestatic 211, 3) := by decide +kernel
theorem dX10_again_5 : decode cX10_again 5 = .ok (.ifCond .ne 6, 3) := by decide +kernel
theorem dX10_again_8 : decode cX10_again 8 = .ok (.bipush (-3), 2) := by decide +kernel
theorem dX10_again_10 : decode cX10_again 10 = .ok (.ireturn, 1) := by decide +kernel
theorem dX10_again_11 : decode cX10_again 11 = .ok (.aload_n 0, 1) := by decide +kernel
theorem dX10_again_12 : decode cX10_again 12 = .ok (.invokevirtual 189, 3) := by decide +kernel
theorem dX10_again_15 : decode cX10_again 15 = .ok (.iconst 1, 1) := by decide +kernel
theorem dX10_again_16 : decode cX10_again 16 = .ok (.istore_n 3, 1) := by decide +kernel
theorem dX10_again_17 : decode cX10_again 17 = .ok (.iload_n 3, 1) := by decide +kernel
theorem dX10_again_18 : decode cX10_again 18 = .ok (.bipush 8, 2) := by decide +kernel
theorem dX10_again_20 : decode cX10_again 20 = .ok (.if_icmp .ge 143, 3) := by decide +kernel
theorem dX10_again_23 : decode cX10_again 23 = .ok (.iconst 1, 1) := by decide +kernel
theorem dX10_again_24 : decode cX10_again 24 = .ok (.istore 4, 2) := by decide +kernel
theorem dX10_again_26 : decode cX10_again 26 = .ok (.iconst 0, 1) := by decide +kernel
theorem dX10_again_27 : decode cX10_again 27 = .ok (.istore 5, 2) := by decide +kernel
theorem dX10_again_29 : decode cX10_again 29 = .ok (.iload 5, 2) := by decide +kernel
theorem dX10_again_31 : decode cX10_again 31 = .ok (.iconst 1, 1) := by decide +kernel
theorem dX10_again_32 : decode cX10_again 32 = .ok (.aload_n 0, 1) := by decide +kernel
theorem dX10_again_33 : decode cX10_again 33 = .ok (.getfield 164, 3) := by decide +kernel
theorem dX10_again_36 : decode cX10_again 36 = .ok (.ishl, 1) := by decide +kernel
theorem dX10_again_37 : decode cX10_again 37 = .ok (.if_icmp .ge 113, 3) := by decide +kernel
theorem dX10_again_40 : decode cX10_again 40 = .ok (.aload_n 0, 1) := by decide +kernel
theorem dX10_again_41 : decode cX10_again 41 = .ok (.iload 5, 2) := by decide +kernel
theorem dX10_again_43 : decode cX10_again 43 = .ok (.iconst 0, 1) := by decide +kernel
theorem dX10_again_44 : decode cX10_again 44 = .ok (.aload_n 0, 1) := by decide +kernel
theorem dX10_again_45 : decode cX10_again 45 = .ok (.getfield 31, 3) := by decide +kernel
theorem dX10_again_48 : decode cX10_again 48 = .ok (.invokevirtual 192, 3) := by decide +kernel
theorem dX10_again_51 : decode cX10_again 51 = .ok (.istore 6, 2) := by decide +kernel
theorem dX10_again_53 : decode cX10_again 53 = .ok (.lconst 0, 1) := by decide +kernel
theorem dX10_again_54 : decode cX10_again 54 = .ok (.lstore 7, 2) := by decide +kernel
theorem dX10_again_56 : decode cX10_again 56 = .ok (.iload_n 3, 1) := by decide +kernel
theorem dX10_again_57 : decode cX10_again 57 = .ok (.iconst 2, 1) := by decide +kernel
theorem dX10_again_58 : decode cX10_again 58 = .ok (.idiv, 1) := by decide +kernel
theorem dX10_again_59 : decode cX10_again 59 = .ok (.iconst 1, 1) := by decide +kernel
theorem dX10_again_60 : decode cX10_again 60 = .ok (.iadd, 1) := by decide +kernel
theorem dX10_again_61 : decode cX10_again 61 = .ok (.istore 9, 2) := by decide +kernel
theorem dX10_again_63 : decode cX10_again 63 = .ok (.iload 9, 2) := by decide +kernel
theorem dX10_again_65 : decode cX10_again 65 = .ok (.iload_n 3, 1) := by decide +kernel
theorem dX10_again_66 : decode cX10_again 66 = .ok (.if_icmp .gt 45, 3) := by decide +kernel
theorem dX10_again_69 : decode cX10_again 69 = .ok (.lload 7, 2) := by decide +kernel
theorem dX10_again_71 : decode cX10_again 71 = .ok (.iload_n 3, 1) := by decide +kernel
theorem dX10_again_72 : decode cX10_again 72 = .ok (.iload 9, 2) := by decide +kernel
theorem dX10_again_74 : decode cX10_again 74 = .ok (.invokestatic 214, 3) := by decide +kernel
theorem dX10_again_77 : decode cX10_again 77 = .ok (.iload 6, 2) := by decide +kernel
theorem dX10_again_79 : decode cX10_again 79 = .ok (.i2l, 1) := by decide +kernel
theorem dX10_again_80 : decode cX10_again 80 = .ok (.iload 9, 2) := by decide +kernel
theorem dX10_again_82 : decode cX10_again 82 = .ok (.invokestatic 218, 3) := by decide +kernel
theorem dX10_again_85 : decode cX10_again 85 = .ok (.lmul, 1) := by decide +kernel
theorem dX10_again_86 : decode cX10_again 86 = .ok (.aload_n 0, 1) := by decide +kernel
theorem dX10_again_87 : decode cX10_again 87 = .ok (.getfield 31, 3) := by decide +kernel
theorem dX10_again_90 : decode cX10_again 90 = .ok (.iload 6, 2) := by decide +kernel
theorem dX10_again_92 : decode cX10_again 92 = .ok (.isub, 1) := by decide +kernel
theorem dX10_again_93 : decode cX10_again 93 = .ok (.i2l, 1) := by decide +kernel
theorem dX10_again_94 : decode cX10_again 94 = .ok (.iload_n 3, 1) := by decide +kernel
theorem dX10_again_95 : decode cX10_again 95 = .ok (.iload 9, 2) := by decide +kernel
theorem dX10_again_97 : decode cX10_again 97 = .ok (.isub, 1) := by decide +kernel
theorem dX10_again_98 : decode cX10_again 98 = .ok (.invokestatic 218, 3) := by decide +kernel
theorem dX10_again_101 : decode cX10_again 101 = .ok (.lmul, 1) := by decide +kernel
theorem dX10_again_102 : decode cX10_again 102 = .ok (.ladd, 1) := by decide +kernel
theorem dX10_again_103 : decode cX10_again 103 = .ok (.lstore 7, 2) := by decide +kernel
theorem dX10_again_105 : decode cX10_again 105 = .ok (.iinc 9 1, 3) := by decide +kernel
theorem dX10_again_108 : decode cX10_again 108 = .ok (.goto (-45), 3) := by decide +kernel
theorem dX10_again_111 : decode cX10_again 111 = .ok (.iload 4, 2) := by decide +kernel
theorem dX10_again_113 : decode cX10_again 113 = .ok (.ifCond .eq 28, 3) := by decide +kernel
theorem dX10_again_116 : decode cX10_again 116 = .ok (.lload 7, 2) := by decide +kernel
theorem dX10_again_118 : decode cX10_again 118 = .ok (.iload_n 2, 1) := by decide +kernel
theorem dX10_again_119 : decode cX10_again 119 = .ok (.i2l, 1) := by decide +kernel
theorem dX10_again_120 : decode cX10_again 120 = .ok (.lmul, 1) := by decide +kernel
theorem dX10_again_121 : decode cX10_again 121 = .ok (.aload_n 0, 1) := by decide +kernel
theorem dX10_again_122 : decode cX10_again 122 = .ok (.getfield 31, 3) := by decide +kernel
theorem dX10_again_125 : decode cX10_again 125 = .ok (.i2l, 1) := by decide +kernel
theorem dX10_again_126 : decode cX10_again 126 = .ok (.iload_n 3, 1) := by decide +kernel
theorem dX10_again_127 : decode cX10_again 127 = .ok (.invokestatic 218, 3) := by decide +kernel
theorem dX10_again_130 : decode cX10_again 130 = .ok (.iload_n 1, 1) := by decide +kernel
theorem dX10_again_131 : decode cX10_again 131 = .ok (.i2l, 1) := by decide +kernel
theorem dX10_again_132 : decode cX10_again 132 = .ok (.lmul, 1) := by decide +kernel
theorem dX10_again_133 : decode cX10_again 133 = .ok (.lcmp, 1) := by decide +kernel
theorem dX10_again_134 : decode cX10_again 134 = .ok (.ifCond .lt 7, 3) := by decide +kernel
theorem dX10_again_137 : decode cX10_again 137 = .ok (.iconst 1, 1) := by decide +kernel
theorem dX10_again_138 : decode cX10_again 138 = .ok (.goto 4, 3) := by decide +kernel
theorem dX10_again_141 : decode cX10_again 141 = .ok (.iconst 0, 1) := by decide +kernel
theorem dX10_again_142 : decode cX10_again 142 = .ok (.istore 4, 2) := by decide +kernel
theorem dX10_again_144 : decode cX10_again 144 = .ok (.iinc 5 1, 3) := by decide +kernel
theorem dX10_again_147 : decode cX10_again 147 = .ok (.goto (-118), 3) := by decide +kernel
theorem dX10_again_150 : decode cX10_again 150 = .ok (.iload 4, 2) := by decide +kernel
theorem dX10_again_152 : decode cX10_again 152 = .ok (.ifCond .eq 5, 3) := by decide +kernel
theorem dX10_again_155 : decode cX10_again 155 = .ok (.iload_n 3, 1) := by decide +kernel
theorem dX10_again_156 : decode cX10_again 156 = .ok (.ireturn, 1) := by decide +kernel
theorem dX10_again_157 : decode cX10_again 157 = .ok (.iinc 3 2, 3) := by decide +kernel
theorem dX10_again_160 : decode cX10_again 160 = .ok (.goto (-143), 3) := by decide +kernel
theorem dX10_again_163 : decode cX10_again 163 = .ok (.iconst (-1), 1) := by decide +kernel
theorem dX10_again_164 : decode cX10_again 164 = .ok (.ireturn, 1) := by decide +kernel
set_option maxRecDepth 20000 in
theorem ggX10_cap_X10_isBound : GoodIn wsX10_cap wsX10_isBound := goodIn_r _ [6, 7, 8, 9, 5, 10] (by decide +kernel) (by decide +kernel)
set_option maxRecDepth 20000 in
theorem gX10_cap_X10_isBound : GoodIn wsX10_cap (va_wsS RX10 211 yX10_isBound wsX10_isBound) := goodIn_app (goodIn_of _ (by decide +kernel)) ggX10_cap_X10_isBound
set_option maxRecDepth 20000 in
theorem ggX10_cap_X10_layGood : GoodIn wsX10_cap wsX10_layGood := goodIn_r _ [14, 1, 2, 15, 16, 17, 18, 5, 19, 20, 21, 22, 23, 24, 25, 26, 27, 28, 29, 30, 31, 32, 33, 34, 35, 36, 37, 45, 46, 47, 48, 49, 50, 51, 52, 53, 54, 55, 56, 57, 58, 59, 60, 61, 62, 63, 64, 65, 66, 67, 68, 69, 70, 71, 72, 73, 74, 75, 76, 77, 78, 79, 80, 81, 82, 83] (by decide +kernel) (by decide +kernel)
set_option maxRecDepth 20000 in
theorem gX10_cap_X10_layGood : GoodIn wsX10_cap (wsV RX10 189 RX10 yX10_layGood wsX10_layGood) := goodIn_app (goodIn_of _ (by decide +kernel)) ggX10_cap_X10_layGood
set_option maxRecDepth 20000 in
theorem ggX10_cap_X10_rightFrom : GoodIn wsX10_cap wsX10_rightFrom := goodIn_r _ [41, 15, 45, 46, 47, 48, 49, 50, 51, 52, 53, 54, 55, 56, 57, 58, 59, 60, 61, 62, 63, 64, 65, 66, 67, 68, 69, 70, 71, 72, 73, 74, 75, 76, 77, 78, 79, 80, 81, 82, 83] (by decide +kernel) (by decide +kernel)
set_option maxRecDepth 20000 in
theorem gX10_cap_X10_rightFrom : GoodIn wsX10_cap (wsV RX10 192 RX10 yX10_rightFrom wsX10_rightFrom) := goodIn_app (goodIn_of _ (by decide +kernel)) ggX10_cap_X10_rightFrom
set_option maxRecDepth 20000 in
theorem ggX10_cap_X10_power : GoodIn wsX10_cap wsX10_power := goodIn_r _ [44] (by decide +kernel) (by decide +kernel)
set_option maxRecDepth 20000 in
theorem gX10_cap_X10_power : GoodIn wsX10_cap (va_wsS RX10 218 yX10_power wsX10_power) := goodIn_app (goodIn_of _ (by decide +kernel)) ggX10_cap_X10_power
theorem dX10_cap_0 : decode cX10_cap 0 = .ok (.iload_n 1, 1) := by decide +kernel
theorem dX10_cap_1 : decode cX10_cap 1 = .ok (.iload_n 2, 1) := by decide +kernel
theorem dX10_cap_2 : decode cX10_cap 2 = .ok (.invokestatic 211, 3) := by decide +kernel
theorem dX10_cap_5 : decode cX10_cap 5 = .ok (.ifCond .ne 6, 3) := by decide +kernel
theorem dX10_cap_8 : decode cX10_cap 8 = .ok (.bipush (-3), 2) := by decide +kernel
theorem dX10_cap_10 : decode cX10_cap 10 = .ok (.ireturn, 1) := by decide +kernel
theorem dX10_cap_11 : decode cX10_cap 11 = .ok (.aload_n 0, 1) := by decide +kernel
theorem dX10_cap_12 : decode cX10_cap 12 = .ok (.invokevirtual 189, 3) := by decide +kernel
theorem dX10_cap_15 : decode cX10_cap 15 = .ok (.iconst 1, 1) := by decide +kernel
theorem dX10_cap_16 : decode cX10_cap 16 = .ok (.istore_n 3, 1) := by decide +kernel
theorem dX10_cap_17 : decode cX10_cap 17 = .ok (.iload_n 3, 1) := by decide +kernel
theorem dX10_cap_18 : decode cX10_cap 18 = .ok (.bipush 8, 2) := by decide +kernel
theorem dX10_cap_20 : decode cX10_cap 20 = .ok (.if_icmp .ge 91, 3) := by decide +kernel
theorem dX10_cap_23 : decode cX10_cap 23 = .ok (.iconst 1, 1) := by decide +kernel
theorem dX10_cap_24 : decode cX10_cap 24 = .ok (.istore 4, 2) := by decide +kernel
theorem dX10_cap_26 : decode cX10_cap 26 = .ok (.iconst 0, 1) := by decide +kernel
theorem dX10_cap_27 : decode cX10_cap 27 = .ok (.istore 5, 2) := by decide +kernel
theorem dX10_cap_29 : decode cX10_cap 29 = .ok (.iload 5, 2) := by decide +kernel
theorem dX10_cap_31 : decode cX10_cap 31 = .ok (.iconst 1, 1) := by decide +kernel
theorem dX10_cap_32 : decode cX10_cap 32 = .ok (.aload_n 0, 1) := by decide +kernel
theorem dX10_cap_33 : decode cX10_cap 33 = .ok (.getfield 164, 3) := by decide +kernel
theorem dX10_cap_36 : decode cX10_cap 36 = .ok (.ishl, 1) := by decide +kernel
theorem dX10_cap_37 : decode cX10_cap 37 = .ok (.if_icmp .ge 61, 3) := by decide +kernel
theorem dX10_cap_40 : decode cX10_cap 40 = .ok (.iload 4, 2) := by decide +kernel
theorem dX10_cap_42 : decode cX10_cap 42 = .ok (.ifCond .eq 47, 3) := by decide +kernel
theorem dX10_cap_45 : decode cX10_cap 45 = .ok (.aload_n 0, 1) := by decide +kernel
theorem dX10_cap_46 : decode cX10_cap 46 = .ok (.getfield 31, 3) := by decide +kernel
theorem dX10_cap_49 : decode cX10_cap 49 = .ok (.aload_n 0, 1) := by decide +kernel
theorem dX10_cap_50 : decode cX10_cap 50 = .ok (.iload 5, 2) := by decide +kernel
theorem dX10_cap_52 : decode cX10_cap 52 = .ok (.iconst 0, 1) := by decide +kernel
theorem dX10_cap_53 : decode cX10_cap 53 = .ok (.aload_n 0, 1) := by decide +kernel
theorem dX10_cap_54 : decode cX10_cap 54 = .ok (.getfield 31, 3) := by decide +kernel
theorem dX10_cap_57 : decode cX10_cap 57 = .ok (.invokevirtual 192, 3) := by decide +kernel
theorem dX10_cap_60 : decode cX10_cap 60 = .ok (.isub, 1) := by decide +kernel
theorem dX10_cap_61 : decode cX10_cap 61 = .ok (.i2l, 1) := by decide +kernel
theorem dX10_cap_62 : decode cX10_cap 62 = .ok (.iload_n 3, 1) := by decide +kernel
theorem dX10_cap_63 : decode cX10_cap 63 = .ok (.invokestatic 218, 3) := by decide +kernel
theorem dX10_cap_66 : decode cX10_cap 66 = .ok (.iload_n 2, 1) := by decide +kernel
theorem dX10_cap_67 : decode cX10_cap 67 = .ok (.i2l, 1) := by decide +kernel
theorem dX10_cap_68 : decode cX10_cap 68 = .ok (.lmul, 1) := by decide +kernel
theorem dX10_cap_69 : decode cX10_cap 69 = .ok (.aload_n 0, 1) := by decide +kernel
theorem dX10_cap_70 : decode cX10_cap 70 = .ok (.getfield 31, 3) := by decide +kernel
theorem dX10_cap_73 : decode cX10_cap 73 = .ok (.i2l, 1) := by decide +kernel
theorem dX10_cap_74 : decode cX10_cap 74 = .ok (.iload_n 3, 1) := by decide +kernel
theorem dX10_cap_75 : decode cX10_cap 75 = .ok (.invokestatic 218, 3) := by decide +kernel
theorem dX10_cap_78 : decode cX10_cap 78 = .ok (.iload_n 1, 1) := by decide +kernel
theorem dX10_cap_79 : decode cX10_cap 79 = .ok (.i2l, 1) := by decide +kernel
theorem dX10_cap_80 : decode cX10_cap 80 = .ok (.lmul, 1) := by decide +kernel
theorem dX10_cap_81 : decode cX10_cap 81 = .ok (.lcmp, 1) := by decide +kernel
theorem dX10_cap_82 : decode cX10_cap 82 = .ok (.ifCond .gt 7, 3) := by decide +kernel
theorem dX10_cap_85 : decode cX10_cap 85 = .ok (.iconst 1, 1) := by decide +kernel
theorem dX10_cap_86 : decode cX10_cap 86 = .ok (.goto 4, 3) := by decide +kernel
theorem dX10_cap_89 : decode cX10_cap 89 = .ok (.iconst 0, 1) := by decide +kernel
theorem dX10_cap_90 : decode cX10_cap 90 = .ok (.istore 4, 2) := by decide +kernel
theorem dX10_cap_92 : decode cX10_cap 92 = .ok (.iinc 5 1, 3) := by decide +kernel
theorem dX10_cap_95 : decode cX10_cap 95 = .ok (.goto (-66), 3) := by decide +kernel
theorem dX10_cap_98 : decode cX10_cap 98 = .ok (.iload 4, 2) := by decide +kernel
theorem dX10_cap_100 : decode cX10_cap 100 = .ok (.ifCond .eq 5, 3) := by decide +kernel
theorem dX10_cap_103 : decode cX10_cap 103 = .ok (.iload_n 3, 1) := by decide +kernel
theorem dX10_cap_104 : decode cX10_cap 104 = .ok (.ireturn, 1) := by decide +kernel
theorem dX10_cap_105 : decode cX10_cap 105 = .ok (.iinc 3 1, 3) := by decide +kernel
theorem dX10_cap_108 : decode cX10_cap 108 = .ok (.goto (-91), 3) := by decide +kernel
theorem dX10_cap_111 : decode cX10_cap 111 = .ok (.iconst (-1), 1) := by decide +kernel
theorem dX10_cap_112 : decode cX10_cap 112 = .ok (.ireturn, 1) := by decide +kernel
set_option maxRecDepth 20000 in
theorem ggX10_knots_X10_in : GoodIn wsX10_knots wsX10_in := goodIn_r _ [9] (by decide +kernel) (by decide +kernel)
set_option maxRecDepth 20000 in
theorem gX10_knots_X10_in : GoodIn wsX10_knots (va_wsS RX10 94 yX10_in wsX10_in) := goodIn_app (goodIn_of _ (by decide +kernel)) ggX10_knots_X10_in
theorem dX10_knots_0 : decode cX10_knots 0 = .ok (.iload_n 1, 1) := by decide +kernel
theorem dX10_knots_1 : decode cX10_knots 1 = .ok (.i2l, 1) := by decide +kernel
theorem dX10_knots_2 : decode cX10_knots 2 = .ok (.lconst 1, 1) := by decide +kernel
theorem dX10_knots_3 : decode cX10_knots 3 = .ok (.ldc2_w 92, 3) := by decide +kernel
theorem dX10_knots_6 : decode cX10_knots 6 = .ok (.invokestatic 94, 3) := by decide +kernel
theorem dX10_knots_9 : decode cX10_knots 9 = .ok (.ifCond .ne 6, 3) := by decide +kernel
theorem dX10_knots_12 : decode cX10_knots 12 = .ok (.bipush (-3), 2) := by decide +kernel
theorem dX10_knots_14 : decode cX10_knots 14 = .ok (.ireturn, 1) := by decide +kernel
theorem dX10_knots_15 : decode cX10_knots 15 = .ok (.aload_n 0, 1) := by decide +kernel
theorem dX10_knots_16 : decode cX10_knots 16 = .ok (.iload_n 1, 1) := by decide +kernel
theorem dX10_knots_17 : decode cX10_knots 17 = .ok (.putfield 35, 3) := by decide +kernel
theorem dX10_knots_20 : decode cX10_knots 20 = .ok (.aload_n 0, 1) := by decide +kernel
theorem dX10_knots_21 : decode cX10_knots 21 = .ok (.iconst 0, 1) := by decide +kernel
theorem dX10_knots_22 : decode cX10_knots 22 = .ok (.putfield 222, 3) := by decide +kernel
theorem dX10_knots_25 : decode cX10_knots 25 = .ok (.aload_n 0, 1) := by decide +kernel
theorem dX10_knots_26 : decode cX10_knots 26 = .ok (.iconst 0, 1) := by decide +kernel
theorem dX10_knots_27 : decode cX10_knots 27 = .ok (.putfield 225, 3) := by decide +kernel
theorem dX10_knots_30 : decode cX10_knots 30 = .ok (.aload_n 0, 1) := by decide +kernel
theorem dX10_knots_31 : decode cX10_knots 31 = .ok (.iconst 0, 1) := by decide +kernel
theorem dX10_knots_32 : decode cX10_knots 32 = .ok (.putfield 228, 3) := by decide +kernel
theorem dX10_knots_35 : decode cX10_knots 35 = .ok (.iconst 1, 1) := by decide +kernel
theorem dX10_knots_36 : decode cX10_knots 36 = .ok (.ireturn, 1) := by decide +kernel
set_option maxRecDepth 20000 in
theorem ggX10_isKnot_X10_in : GoodIn wsX10_isKnot wsX10_in := goodIn_r _ [5] (by decide +kernel) (by decide +kernel)
set_option maxRecDepth 20000 in
theorem gX10_isKnot_X10_in : GoodIn wsX10_isKnot (va_wsS RX10 94 yX10_in wsX10_in) := goodIn_app (goodIn_of _ (by decide +kernel)) ggX10_isKnot_X10_in
theorem dX10_isKnot_0 : decode cX10_isKnot 0 = .ok (.iload_n 1, 1) := by decide +kernel
theorem dX10_isKnot_1 : decode cX10_isKnot 1 = .ok (.i2l, 1) := by decide +kernel
theorem dX10_isKnot_2 : decode cX10_isKnot 2 = .ok (.lconst 0, 1) := by decide +kernel
theorem dX10_isKnot_3 : decode cX10_isKnot 3 = .ok (.aload_n 0, 1) := by decide +kernel
theorem dX10_isKnot_4 : decode cX10_isKnot 4 = .ok (.getfield 35, 3) := by decide +kernel
theorem dX10_isKnot_7 : decode cX10_isKnot 7 = .ok (.iconst 1, 1) := by decide +kernel
theorem dX10_isKnot_8 : decode cX10_isKnot 8 = .ok (.isub, 1) := by decide +kernel
theorem dX10_isKnot_9 : decode cX10_isKnot 9 = .ok (.i2l, 1) := by decide +kernel
theorem dX10_isKnot_10 : decode cX10_isKnot 10 = .ok (.invokestatic 94, 3) := by decide +kernel
theorem dX10_isKnot_13 : decode cX10_isKnot 13 = .ok (.ireturn, 1) := by decide +kernel
set_option maxRecDepth 20000 in
theorem ggX10_areKnots_X10_in : GoodIn wsX10_areKnots wsX10_in := goodIn_r _ [5] (by decide +kernel) (by decide +kernel)
set_option maxRecDepth 20000 in
theorem gX10_areKnots_X10_in : GoodIn wsX10_areKnots (va_wsS RX10 94 yX10_in wsX10_in) := goodIn_app (goodIn_of _ (by decide +kernel)) ggX10_areKnots_X10_in
theorem dX10_areKnots_0 : decode cX10_areKnots 0 = .ok (.iload_n 1, 1) := by decide +kernel
theorem dX10_areKnots_1 : decode cX10_areKnots 1 = .ok (.i2l, 1) := by decide +kernel
theorem dX10_areKnots_2 : decode cX10_areKnots 2 = .ok (.lconst 0, 1) := by decide +kernel
theorem dX10_areKnots_3 : decode cX10_areKnots 3 = .ok (.iconst 1, 1) := by decide +kernel
theorem dX10_areKnots_4 : decode cX10_areKnots 4 = .ok (.aload_n 0, 1) := by decide +kernel
theorem dX10_areKnots_5 : decode cX10_areKnots 5 = .ok (.getfield 35, 3) := by decide +kernel
theorem dX10_areKnots_8 : decode cX10_areKnots 8 = .ok (.ishl, 1) := by decide +kernel
theorem dX10_areKnots_9 : decode cX10_areKnots 9 = .ok (.iconst 1, 1) := by decide +kernel
theorem dX10_areKnots_10 : decode cX10_areKnots 10 = .ok (.isub, 1) := by decide +kernel
theorem dX10_areKnots_11 : decode cX10_areKnots 11 = .ok (.i2l, 1) := by decide +kernel
theorem dX10_areKnots_12 : decode cX10_areKnots 12 = .ok (.invokestatic 94, 3) := by decide +kernel
theorem dX10_areKnots_15 : decode cX10_areKnots 15 = .ok (.ireturn, 1) := by decide +kernel
set_option maxRecDepth 20000 in
theorem ggX10_edge_X10_isKnot : GoodIn wsX10_edge wsX10_isKnot := goodIn_r _ [10, 11, 12, 13, 9, 14, 15, 16, 17, 18, 19, 20, 21, 22, 23, 24, 25, 26, 27, 28, 29, 30, 31, 32, 33, 34, 35, 36, 37, 38, 39, 40, 41, 42, 43, 44, 45, 46, 47, 48, 49, 50, 51, 52, 53] (by decide +kernel) (by decide +kernel)
set_option maxRecDepth 20000 in
theorem gX10_edge_X10_isKnot : GoodIn wsX10_edge (wsV RX10 231 RX10 yX10_isKnot wsX10_isKnot) := goodIn_app (goodIn_of _ (by decide +kernel)) ggX10_edge_X10_isKnot
set_option maxRecDepth 20000 in
theorem ggX10_edge_X10_in : GoodIn wsX10_edge wsX10_in := goodIn_r _ [14] (by decide +kernel) (by decide +kernel)
set_option maxRecDepth 20000 in
theorem gX10_edge_X10_in : GoodIn wsX10_edge (va_wsS RX10 94 yX10_in wsX10_in) := goodIn_app (goodIn_of _ (by decide +kernel)) ggX10_edge_X10_in
theorem dX10_edge_0 : decode cX10_edge 0 = .ok (.aload_n 0, 1) := by decide +kernel
theorem dX10_edge_1 : decode cX10_edge 1 = .ok (.iload_n 1, 1) := by decide +kernel
theorem dX10_edge_2 : decode cX10_edge 2 = .ok (.invokevirtual 231, 3) := by decide +kernel
theorem dX10_edge_5 : decode cX10_edge 5 = .ok (.ifCond .eq 16, 3) := by decide +kernel
theorem dX10_edge_8 : decode cX10_edge 8 = .ok (.aload_n 0, 1) := by decide +kernel
theorem dX10_edge_9 : decode cX10_edge 9 = .ok (.iload_n 2, 1) := by decide +kernel
theorem dX10_edge_10 : decode cX10_edge 10 = .ok (.invokevirtual 231, 3) := by decide +kernel
theorem dX10_edge_13 : decode cX10_edge 13 = .ok (.ifCond .eq 8, 3) := by decide +kernel
theorem dX10_edge_16 : decode cX10_edge 16 = .ok (.iload_n 1, 1) := by decide +kernel
theorem dX10_edge_17 : decode cX10_edge 17 = .ok (.iload_n 2, 1) := by decide +kernel
theorem dX10_edge_18 : decode cX10_edge 18 = .ok (.if_icmp .ne 6, 3) := by decide +kernel
theorem dX10_edge_21 : decode cX10_edge 21 = .ok (.bipush (-2), 2) := by decide +kernel
theorem dX10_edge_23 : decode cX10_edge 23 = .ok (.ireturn, 1) := by decide +kernel
theorem dX10_edge_24 : decode cX10_edge 24 = .ok (.iload_n 3, 1) := by decide +kernel
theorem dX10_edge_25 : decode cX10_edge 25 = .ok (.i2l, 1) := by decide +kernel
theorem dX10_edge_26 : decode cX10_edge 26 = .ok (.lconst 1, 1) := by decide +kernel
theorem dX10_edge_27 : decode cX10_edge 27 = .ok (.ldc2_w 234, 3) := by decide +kernel
theorem dX10_edge_30 : decode cX10_edge 30 = .ok (.invokestatic 94, 3) := by decide +kernel
theorem dX10_edge_33 : decode cX10_edge 33 = .ok (.ifCond .ne 6, 3) := by decide +kernel
theorem dX10_edge_36 : decode cX10_edge 36 = .ok (.bipush (-3), 2) := by decide +kernel
theorem dX10_edge_38 : decode cX10_edge 38 = .ok (.ireturn, 1) := by decide +kernel
theorem dX10_edge_39 : decode cX10_edge 39 = .ok (.aload_n 0, 1) := by decide +kernel
theorem dX10_edge_40 : decode cX10_edge 40 = .ok (.getfield 222, 3) := by decide +kernel
theorem dX10_edge_43 : decode cX10_edge 43 = .ok (.bipush 16, 2) := by decide +kernel
theorem dX10_edge_45 : decode cX10_edge 45 = .ok (.if_icmp .ne 6, 3) := by decide +kernel
theorem dX10_edge_48 : decode cX10_edge 48 = .ok (.bipush (-5), 2) := by decide +kernel
theorem dX10_edge_50 : decode cX10_edge 50 = .ok (.ireturn, 1) := by decide +kernel
theorem dX10_edge_51 : decode cX10_edge 51 = .ok (.aload_n 0, 1) := by decide +kernel
theorem dX10_edge_52 : decode cX10_edge 52 = .ok (.getfield 38, 3) := by decide +kernel
theorem dX10_edge_55 : decode cX10_edge 55 = .ok (.aload_n 0, 1) := by decide +kernel
theorem dX10_edge_56 : decode cX10_edge 56 = .ok (.getfield 222, 3) := by decide +kernel
theorem dX10_edge_59 : decode cX10_edge 59 = .ok (.iload_n 1, 1) := by decide +kernel
theorem dX10_edge_60 : decode cX10_edge 60 = .ok (.iastore, 1) := by decide +kernel
theorem dX10_edge_61 : decode cX10_edge 61 = .ok (.aload_n 0, 1) := by decide +kernel
theorem dX10_edge_62 : decode cX10_edge 62 = .ok (.getfield 41, 3) := by decide +kernel
theorem dX10_edge_65 : decode cX10_edge 65 = .ok (.aload_n 0, 1) := by decide +kernel
theorem dX10_edge_66 : decode cX10_edge 66 = .ok (.getfield 222, 3) := by decide +kernel
theorem dX10_edge_69 : decode cX10_edge 69 = .ok (.iload_n 2, 1) := by decide +kernel
theorem dX10_edge_70 : decode cX10_edge 70 = .ok (.iastore, 1) := by decide +kernel
theorem dX10_edge_71 : decode cX10_edge 71 = .ok (.aload_n 0, 1) := by decide +kernel
theorem dX10_edge_72 : decode cX10_edge 72 = .ok (.getfield 44, 3) := by decide +kernel
theorem dX10_edge_75 : decode cX10_edge 75 = .ok (.aload_n 0, 1) := by decide +kernel
theorem dX10_edge_76 : decode cX10_edge 76 = .ok (.getfield 222, 3) := by decide +kernel
theorem dX10_edge_79 : decode cX10_edge 79 = .ok (.iload_n 3, 1) := by decide +kernel
theorem dX10_edge_80 : decode cX10_edge 80 = .ok (.iastore, 1) := by decide +kernel
theorem dX10_edge_81 : decode cX10_edge 81 = .ok (.aload_n 0, 1) := by decide +kernel
theorem dX10_edge_82 : decode cX10_edge 82 = .ok (.dup, 1) := by decide +kernel
theorem dX10_edge_83 : decode cX10_edge 83 = .ok (.getfield 222, 3) := by decide +kernel
theorem dX10_edge_86 : decode cX10_edge 86 = .ok (.iconst 1, 1) := by decide +kernel
theorem dX10_edge_87 : decode cX10_edge 87 = .ok (.iadd, 1) := by decide +kernel
theorem dX10_edge_88 : decode cX10_edge 88 = .ok (.putfield 222, 3) := by decide +kernel
theorem dX10_edge_91 : decode cX10_edge 91 = .ok (.aload_n 0, 1) := by decide +kernel
theorem dX10_edge_92 : decode cX10_edge 92 = .ok (.getfield 222, 3) := by decide +kernel
theorem dX10_edge_95 : decode cX10_edge 95 = .ok (.ireturn, 1) := by decide +kernel
set_option maxRecDepth 20000 in
theorem ggX10_cord_X10_areKnots : GoodIn wsX10_cord wsX10_areKnots := goodIn_r _ [7, 8, 9, 10, 6, 11, 15, 16, 17, 18, 19, 20, 21, 22, 23, 24, 25, 26, 27, 28, 29, 30, 31, 32, 33, 34, 35, 36, 37, 38, 39, 40, 41, 42, 43, 44, 45, 46, 47, 48, 49, 50, 51, 52, 53] (by decide +kernel) (by decide +kernel)
set_option maxRecDepth 20000 in
theorem gX10_cord_X10_areKnots : GoodIn wsX10_cord (wsV RX10 236 RX10 yX10_areKnots wsX10_areKnots) := goodIn_app (goodIn_of _ (by decide +kernel)) ggX10_cord_X10_areKnots
set_option maxRecDepth 20000 in
theorem ggX10_cord_X10_bits : GoodIn wsX10_cord wsX10_bits := goodIn_r _ [14] (by decide +kernel) (by decide +kernel)
set_option maxRecDepth 20000 in
theorem gX10_cord_X10_bits : GoodIn wsX10_cord (va_wsS RX10 239 yX10_bits wsX10_bits) := goodIn_app (goodIn_of _ (by decide +kernel)) ggX10_cord_X10_bits
theorem dX10_cord_0 : decode cX10_cord 0 = .ok (.aload_n 0, 1) := by decide +kernel
theorem dX10_cord_1 : decode cX10_cord 1 = .ok (.iload_n 1, 1) := by decide +kernel
theorem dX10_cord_2 : decode cX10_cord 2 = .ok (.invokevirtual 236, 3) := by decide +kernel
theorem dX10_cord_5 : decode cX10_cord 5 = .ok (.ifCond .eq 11, 3) := by decide +kernel
theorem dX10_cord_8 : decode cX10_cord 8 = .ok (.iload_n 1, 1) := by decide +kernel
theorem dX10_cord_9 : decode cX10_cord 9 = .ok (.invokestatic 239, 3) := by decide +kernel
theorem dX10_cord_12 : decode cX10_cord 12 = .ok (.iconst 2, 1) := by decide +kernel
theorem dX10_cord_13 : decode cX10_cord 13 = .ok (.if_icmp .ge 6, 3) := by decide +kernel
theorem dX10_cord_16 : decode cX10_cord 16 = .ok (.bipush (-3), 2) := by decide +kernel
theorem dX10_cord_18 : decode cX10_cord 18 = .ok (.ireturn, 1) := by decide +kernel
theorem dX10_cord_19 : decode cX10_cord 19 = .ok (.aload_n 0, 1) := by decide +kernel
theorem dX10_cord_20 : decode cX10_cord 20 = .ok (.getfield 225, 3) := by decide +kernel
theorem dX10_cord_23 : decode cX10_cord 23 = .ok (.bipush 10, 2) := by decide +kernel
theorem dX10_cord_25 : decode cX10_cord 25 = .ok (.if_icmp .ne 6, 3) := by decide +kernel
theorem dX10_cord_28 : decode cX10_cord 28 = .ok (.bipush (-5), 2) := by decide +kernel
theorem dX10_cord_30 : decode cX10_cord 30 = .ok (.ireturn, 1) := by decide +kernel
theorem dX10_cord_31 : decode cX10_cord 31 = .ok (.aload_n 0, 1) := by decide +kernel
theorem dX10_cord_32 : decode cX10_cord 32 = .ok (.getfield 47, 3) := by decide +kernel
theorem dX10_cord_35 : decode cX10_cord 35 = .ok (.aload_n 0, 1) := by decide +kernel
theorem dX10_cord_36 : decode cX10_cord 36 = .ok (.getfield 225, 3) := by decide +kernel
theorem dX10_cord_39 : decode cX10_cord 39 = .ok (.iload_n 1, 1) := by decide +kernel
theorem dX10_cord_40 : decode cX10_cord 40 = .ok (.iastore, 1) := by decide +kernel
theorem dX10_cord_41 : decode cX10_cord 41 = .ok (.aload_n 0, 1) := by decide +kernel
theorem dX10_cord_42 : decode cX10_cord 42 = .ok (.dup, 1) := by decide +kernel
theorem dX10_cord_43 : decode cX10_cord 43 = .ok (.getfield 225, 3) := by decide +kernel
theorem dX10_cord_46 : decode cX10_cord 46 = .ok (.iconst 1, 1) := by decide +kernel
theorem dX10_cord_47 : decode cX10_cord 47 = .ok (.iadd, 1) := by decide +kernel
theorem dX10_cord_48 : decode cX10_cord 48 = .ok (.putfield 225, 3) := by decide +kernel
theorem dX10_cord_51 : decode cX10_cord 51 = .ok (.aload_n 0, 1) := by decide +kernel
theorem dX10_cord_52 : decode cX10_cord 52 = .ok (.getfield 225, 3) := by decide +kernel
theorem dX10_cord_55 : decode cX10_cord 55 = .ok (.ireturn, 1) := by decide +kernel
theorem dX10_measureOf_0 : decode cX10_measureOf 0 = .ok (.iconst 0, 1) := by decide +kernel
theorem dX10_measureOf_1 : decode cX10_measureOf 1 = .ok (.istore_n 3, 1) := by decide +kernel
theorem dX10_measureOf_2 : decode cX10_measureOf 2 = .ok (.iconst 0, 1) := by decide +kernel
theorem dX10_measureOf_3 : decode cX10_measureOf 3 = .ok (.istore 4, 2) := by decide +kernel
theorem dX10_measureOf_5 : decode cX10_measureOf 5 = .ok (.iload 4, 2) := by decide +kernel
theorem dX10_measureOf_7 : decode cX10_measureOf 7 = .ok (.aload_n 0, 1) := by decide +kernel
theorem dX10_measureOf_8 : decode cX10_measureOf 8 = .ok (.getfield 222, 3) := by decide +kernel
theorem dX10_measureOf_11 : decode cX10_measureOf 11 = .ok (.if_icmp .ge 52, 3) := by decide +kernel
theorem dX10_measureOf_14 : decode cX10_measureOf 14 = .ok (.iload_n 1, 1) := by decide +kernel
theorem dX10_measureOf_15 : decode cX10_measureOf 15 = .ok (.ifCond .ne 48, 3) := by decide +kernel
theorem dX10_measureOf_18 : decode cX10_measureOf 18 = .ok (.iload_n 3, 1) := by decide +kernel
theorem dX10_measureOf_19 : decode cX10_measureOf 19 = .ok (.iload_n 2, 1) := by decide +kernel
theorem dX10_measureOf_20 : decode cX10_measureOf 20 = .ok (.aload_n 0, 1) := by decide +kernel
theorem dX10_measureOf_21 : decode cX10_measureOf 21 = .ok (.getfield 38, 3) := by decide +kernel
theorem dX10_measureOf_24 : decode cX10_measureOf 24 = .ok (.iload 4, 2) := by decide +kernel
theorem dX10_measureOf_26 : decode cX10_measureOf 26 = .ok (.iaload, 1) := by decide +kernel
theorem dX10_measureOf_27 : decode cX10_measureOf 27 = .ok (.ishr, 1) := by decide +kernel
theorem dX10_measureOf_28 : decode cX10_measureOf 28 = .ok (.iconst 1, 1) := by decide +kernel
theorem dX10_measureOf_29 : decode cX10_measureOf 29 = .ok (.iand, 1) := by decide +kernel
theorem dX10_measureOf_30 : decode cX10_measureOf 30 = .ok (.iload_n 2, 1) := by decide +kernel
theorem dX10_measureOf_31 : decode cX10_measureOf 31 = .ok (.aload_n 0, 1) := by decide +kernel
theorem dX10_measureOf_32 : decode cX10_measureOf 32 = .ok (.getfield 41, 3) := by decide +kernel
theorem dX10_measureOf_35 : decode cX10_measureOf 35 = .ok (.iload 4, 2) := by decide +kernel
theorem dX10_measureOf_37 : decode cX10_measureOf 37 = .ok (.iaload, 1) := by decide +kernel
theorem dX10_measureOf_38 : decode cX10_measureOf 38 = .ok (.ishr, 1) := by decide +kernel
theorem dX10_measureOf_39 : decode cX10_measureOf 39 = .ok (.iconst 1, 1) := by decide +kernel
theorem dX10_measureOf_40 : decode cX10_measureOf 40 = .ok (.iand, 1) := by decide +kernel
theorem dX10_measureOf_41 : decode cX10_measureOf 41 = .ok (.if_icmp .eq 13, 3) := by decide +kernel
theorem dX10_measureOf_44 : decode cX10_measureOf 44 = .ok (.aload_n 0, 1) := by decide +kernel
theorem dX10_measureOf_45 : decode cX10_measureOf 45 = .ok (.getfield 44, 3) := by decide +kernel
theorem dX10_measureOf_48 : decode cX10_measureOf 48 = .ok (.iload 4, 2) := by decide +kernel
theorem dX10_measureOf_50 : decode cX10_measureOf 50 = .ok (.iaload, 1) := by decide +kernel
theorem dX10_measureOf_51 : decode cX10_measureOf 51 = .ok (.goto 4, 3) := by decide +kernel
theorem dX10_measureOf_54 : decode cX10_measureOf 54 = .ok (.iconst 0, 1) := by decide +kernel
theorem dX10_measureOf_55 : decode cX10_measureOf 55 = .ok (.iadd, 1) := by decide +kernel
theorem dX10_measureOf_56 : decode cX10_measureOf 56 = .ok (.istore_n 3, 1) := by decide +kernel
theorem dX10_measureOf_57 : decode cX10_measureOf 57 = .ok (.iinc 4 1, 3) := by decide +kernel
theorem dX10_measureOf_60 : decode cX10_measureOf 60 = .ok (.goto (-55), 3) := by decide +kernel
theorem dX10_measureOf_63 : decode cX10_measureOf 63 = .ok (.iconst 0, 1) := by decide +kernel
theorem dX10_measureOf_64 : decode cX10_measureOf 64 = .ok (.istore 4, 2) := by decide +kernel
theorem dX10_measureOf_66 : decode cX10_measureOf 66 = .ok (.iload 4, 2) := by decide +kernel
theorem dX10_measureOf_68 : decode cX10_measureOf 68 = .ok (.aload_n 0, 1) := by decide +kernel
theorem dX10_measureOf_69 : decode cX10_measureOf 69 = .ok (.getfield 225, 3) := by decide +kernel
theorem dX10_measureOf_72 : decode cX10_measureOf 72 = .ok (.if_icmp .ge 53, 3) := by decide +kernel
theorem dX10_measureOf_75 : decode cX10_measureOf 75 = .ok (.iload_n 1, 1) := by decide +kernel
theorem dX10_measureOf_76 : decode cX10_measureOf 76 = .ok (.iconst 1, 1) := by decide +kernel
theorem dX10_measureOf_77 : decode cX10_measureOf 77 = .ok (.if_icmp .ne 48, 3) := by decide +kernel
theorem dX10_measureOf_80 : decode cX10_measureOf 80 = .ok (.iload_n 3, 1) := by decide +kernel
theorem dX10_measureOf_81 : decode cX10_measureOf 81 = .ok (.iload_n 2, 1) := by decide +kernel
theorem dX10_measureOf_82 : decode cX10_measureOf 82 = .ok (.aload_n 0, 1) := by decide +kernel
theorem dX10_measureOf_83 : decode cX10_measureOf 83 = .ok (.getfield 47, 3) := by decide +kernel
theorem dX10_measureOf_86 : decode cX10_measureOf 86 = .ok (.iload 4, 2) := by decide +kernel
theorem dX10_measureOf_88 : decode cX10_measureOf 88 = .ok (.iaload, 1) := by decide +kernel
theorem dX10_measureOf_89 : decode cX10_measureOf 89 = .ok (.iand, 1) := by decide +kernel
theorem dX10_measureOf_90 : decode cX10_measureOf 90 = .ok (.ifCond .eq 22, 3) := by decide +kernel
theorem dX10_measureOf_93 : decode cX10_measureOf 93 = .ok (.iload_n 2, 1) := by decide +kernel
theorem dX10_measureOf_94 : decode cX10_measureOf 94 = .ok (.aload_n 0, 1) := by decide +kernel
theorem dX10_measureOf_95 : decode cX10_measureOf 95 = .ok (.getfield 47, 3) := by decide +kernel
theorem dX10_measureOf_98 : decode cX10_measureOf 98 = .ok (.iload 4, 2) := by decide +kernel
theorem dX10_measureOf_100 : decode cX10_measureOf 100 = .ok (.iaload, 1) := by decide +kernel
theorem dX10_measureOf_101 : decode cX10_measureOf 101 = .ok (.iand, 1) := by decide +kernel
theorem dX10_measureOf_102 : decode cX10_measureOf 102 = .ok (.aload_n 0, 1) := by decide +kernel
theorem dX10_measureOf_103 : decode cX10_measureOf 103 = .ok (.getfield 47, 3) := by decide +kernel
theorem dX10_measureOf_106 : decode cX10_measureOf 106 = .ok (.iload 4, 2) := by decide +kernel
theorem dX10_measureOf_108 : decode cX10_measureOf 108 = .ok (.iaload, 1) := by decide +kernel
theorem dX10_measureOf_109 : decode cX10_measureOf 109 = .ok (.if_icmp .ne 7, 3) := by decide +kernel
theorem dX10_measureOf_112 : decode cX10_measureOf 112 = .ok (.iconst 1, 1) := by decide +kernel
theorem dX10_measureOf_113 : decode cX10_measureOf 113 = .ok (.goto 4, 3) := by decide +kernel
theorem dX10_measureOf_116 : decode cX10_measureOf 116 = .ok (.iconst 0, 1) := by decide +kernel
theorem dX10_measureOf_117 : decode cX10_measureOf 117 = .ok (.iadd, 1) := by decide +kernel
theorem dX10_measureOf_118 : decode cX10_measureOf 118 = .ok (.istore_n 3, 1) := by decide +kernel
theorem dX10_measureOf_119 : decode cX10_measureOf 119 = .ok (.iinc 4 1, 3) := by decide +kernel
theorem dX10_measureOf_122 : decode cX10_measureOf 122 = .ok (.goto (-56), 3) := by decide +kernel
theorem dX10_measureOf_125 : decode cX10_measureOf 125 = .ok (.iload_n 3, 1) := by decide +kernel
theorem dX10_measureOf_126 : decode cX10_measureOf 126 = .ok (.ireturn, 1) := by decide +kernel
set_option maxRecDepth 20000 in
theorem ggX10_measure_X10_in : GoodIn wsX10_measure wsX10_in := goodIn_r _ [4] (by decide +kernel) (by decide +kernel)
set_option maxRecDepth 20000 in
theorem gX10_measure_X10_in : GoodIn wsX10_measure (va_wsS RX10 94 yX10_in wsX10_in) := goodIn_app (goodIn_of _ (by decide +kernel)) ggX10_measure_X10_in
set_option maxRecDepth 20000 in
theorem ggX10_measure_X10_areKnots : GoodIn wsX10_measure wsX10_areKnots := goodIn_r _ [8, 9, 1, 2, 3, 4, 20, 21, 22, 23, 24, 25, 26, 27, 28, 29, 30, 31, 32, 33, 34, 35, 36, 37, 38, 39, 40, 41, 42, 43, 44, 45, 46, 47, 48, 49, 50, 51, 52, 53, 54, 55, 56, 57, 58] (by decide +kernel) (by decide +kernel)
set_option maxRecDepth 20000 in
theorem gX10_measure_X10_areKnots : GoodIn wsX10_measure (wsV RX10 236 RX10 yX10_areKnots wsX10_areKnots) := goodIn_app (goodIn_of _ (by decide +kernel)) ggX10_measure_X10_areKnots
set_option maxRecDepth 20000 in
theorem ggX10_measure_X10_measureOf : GoodIn wsX10_measure wsX10_measureOf := goodIn_r _ [13, 14, 15, 16, 17, 18, 19, 20, 21, 22, 23, 24, 25, 26, 27, 28, 29, 30, 31, 32, 33, 34, 35, 36, 37, 38, 39, 40, 41, 42, 43, 44, 45, 46, 47, 48, 49, 50, 51, 52, 53, 54, 55, 56, 57, 58] (by decide +kernel) (by decide +kernel)
set_option maxRecDepth 20000 in
theorem gX10_measure_X10_measureOf : GoodIn wsX10_measure (wsV RX10 242 RX10 yX10_measureOf wsX10_measureOf) := goodIn_app (goodIn_of _ (by decide +kernel)) ggX10_measure_X10_measureOf
theorem dX10_measure_0 : decode cX10_measure 0 = .ok (.iload_n 1, 1) := by decide +kernel
theorem dX10_measure_1 : decode cX10_measure 1 = .ok (.i2l, 1) := by decide +kernel
theorem dX10_measure_2 : decode cX10_measure 2 = .ok (.lconst 0, 1) := by decide +kernel
theorem dX10_measure_3 : decode cX10_measure 3 = .ok (.lconst 1, 1) := by decide +kernel
theorem dX10_measure_4 : decode cX10_measure 4 = .ok (.invokestatic 94, 3) := by decide +kernel
theorem dX10_measure_7 : decode cX10_measure 7 = .ok (.ifCond .eq 20, 3) := by decide +kernel
theorem dX10_measure_10 : decode cX10_measure 10 = .ok (.aload_n 0, 1) := by decide +kernel
theorem dX10_measure_11 : decode cX10_measure 11 = .ok (.iload_n 2, 1) := by decide +kernel
theorem dX10_measure_12 : decode cX10_measure 12 = .ok (.invokevirtual 236, 3) := by decide +kernel
theorem dX10_measure_15 : decode cX10_measure 15 = .ok (.ifCond .eq 12, 3) := by decide +kernel
theorem dX10_measure_18 : decode cX10_measure 18 = .ok (.aload_n 0, 1) := by decide +kernel
theorem dX10_measure_19 : decode cX10_measure 19 = .ok (.iload_n 1, 1) := by decide +kernel
theorem dX10_measure_20 : decode cX10_measure 20 = .ok (.iload_n 2, 1) := by decide +kernel
theorem dX10_measure_21 : decode cX10_measure 21 = .ok (.invokevirtual 242, 3) := by decide +kernel
theorem dX10_measure_24 : decode cX10_measure 24 = .ok (.goto 5, 3) := by decide +kernel
theorem dX10_measure_27 : decode cX10_measure 27 = .ok (.bipush (-3), 2) := by decide +kernel
theorem dX10_measure_29 : decode cX10_measure 29 = .ok (.ireturn, 1) := by decide +kernel
set_option maxRecDepth 20000 in
theorem ggX10_sumOf_X10_measureOf : GoodIn wsX10_sumOf wsX10_measureOf := goodIn_r _ [6, 7, 8, 9, 10, 11, 12, 13, 14, 15, 16, 17, 18, 19, 20, 21, 22, 23, 24, 25, 26, 27, 28, 29, 30, 31, 32, 33, 34, 35, 36, 37, 38, 39, 40, 41, 42, 43, 44, 45, 46, 47, 48, 49, 50, 51] (by decide +kernel) (by decide +kernel)
set_option maxRecDepth 20000 in
theorem gX10_sumOf_X10_measureOf : GoodIn wsX10_sumOf (wsV RX10 242 RX10 yX10_measureOf wsX10_measureOf) := goodIn_app (goodIn_of _ (by decide +kernel)) ggX10_sumOf_X10_measureOf
theorem dX10_sumOf_0 : decode cX10_sumOf 0 = .ok (.iconst 0, 1) := by decide +kernel
theorem dX10_sumOf_1 : decode cX10_sumOf 1 = .ok (.istore 4, 2) := by decide +kernel
theorem dX10_sumOf_3 : decode cX10_sumOf 3 = .ok (.iconst 0, 1) := by decide +kernel
theorem dX10_sumOf_4 : decode cX10_sumOf 4 = .ok (.istore 5, 2) := by decide +kernel
theorem dX10_sumOf_6 : decode cX10_sumOf 6 = .ok (.iload 5, 2) := by decide +kernel
theorem dX10_sumOf_8 : decode cX10_sumOf 8 = .ok (.iconst 1, 1) := by decide +kernel
theorem dX10_sumOf_9 : decode cX10_sumOf 9 = .ok (.aload_n 0, 1) := by decide +kernel
theorem dX10_sumOf_10 : decode cX10_sumOf 10 = .ok (.getfield 35, 3) := by decide +kernel
theorem dX10_sumOf_13 : decode cX10_sumOf 13 = .ok (.ishl, 1) := by decide +kernel
theorem dX10_sumOf_14 : decode cX10_sumOf 14 = .ok (.if_icmp .ge 33, 3) := by decide +kernel
theorem dX10_sumOf_17 : decode cX10_sumOf 17 = .ok (.iload 4, 2) := by decide +kernel
theorem dX10_sumOf_19 : decode cX10_sumOf 19 = .ok (.iload 5, 2) := by decide +kernel
theorem dX10_sumOf_21 : decode cX10_sumOf 21 = .ok (.iload_n 2, 1) := by decide +kernel
theorem dX10_sumOf_22 : decode cX10_sumOf 22 = .ok (.iand, 1) := by decide +kernel
theorem dX10_sumOf_23 : decode cX10_sumOf 23 = .ok (.iload_n 3, 1) := by decide +kernel
theorem dX10_sumOf_24 : decode cX10_sumOf 24 = .ok (.if_icmp .ne 13, 3) := by decide +kernel
theorem dX10_sumOf_27 : decode cX10_sumOf 27 = .ok (.aload_n 0, 1) := by decide +kernel
theorem dX10_sumOf_28 : decode cX10_sumOf 28 = .ok (.iload_n 1, 1) := by decide +kernel
theorem dX10_sumOf_29 : decode cX10_sumOf 29 = .ok (.iload 5, 2) := by decide +kernel
theorem dX10_sumOf_31 : decode cX10_sumOf 31 = .ok (.invokevirtual 242, 3) := by decide +kernel
theorem dX10_sumOf_34 : decode cX10_sumOf 34 = .ok (.goto 4, 3) := by decide +kernel
theorem dX10_sumOf_37 : decode cX10_sumOf 37 = .ok (.iconst 0, 1) := by decide +kernel
theorem dX10_sumOf_38 : decode cX10_sumOf 38 = .ok (.iadd, 1) := by decide +kernel
theorem dX10_sumOf_39 : decode cX10_sumOf 39 = .ok (.istore 4, 2) := by decide +kernel
theorem dX10_sumOf_41 : decode cX10_sumOf 41 = .ok (.iinc 5 1, 3) := by decide +kernel
theorem dX10_sumOf_44 : decode cX10_sumOf 44 = .ok (.goto (-38), 3) := by decide +kernel
theorem dX10_sumOf_47 : decode cX10_sumOf 47 = .ok (.iload 4, 2) := by decide +kernel
theorem dX10_sumOf_49 : decode cX10_sumOf 49 = .ok (.ireturn, 1) := by decide +kernel
set_option maxRecDepth 20000 in
theorem ggX10_expect_X10_in : GoodIn wsX10_expect wsX10_in := goodIn_r _ [5] (by decide +kernel) (by decide +kernel)
set_option maxRecDepth 20000 in
theorem gX10_expect_X10_in : GoodIn wsX10_expect (va_wsS RX10 94 yX10_in wsX10_in) := goodIn_app (goodIn_of _ (by decide +kernel)) ggX10_expect_X10_in
set_option maxRecDepth 20000 in
theorem ggX10_expect_X10_areKnots : GoodIn wsX10_expect wsX10_areKnots := goodIn_r _ [9, 1, 2, 3, 4, 5, 36, 37, 38, 39, 40, 41, 42, 43, 44, 45, 46, 47, 48, 49, 50, 51, 52, 53, 54, 55, 56, 57, 58, 59, 60, 61, 62, 63, 64, 65, 66, 67, 68, 69, 70, 71, 72, 73, 74] (by decide +kernel) (by decide +kernel)
set_option maxRecDepth 20000 in
theorem gX10_expect_X10_areKnots : GoodIn wsX10_expect (wsV RX10 236 RX10 yX10_areKnots wsX10_areKnots) := goodIn_app (goodIn_of _ (by decide +kernel)) ggX10_expect_X10_areKnots
set_option maxRecDepth 20000 in
theorem ggX10_expect_X10_isPart : GoodIn wsX10_expect wsX10_isPart := goodIn_r _ [12, 2, 3, 4, 5] (by decide +kernel) (by decide +kernel)
set_option maxRecDepth 20000 in
theorem gX10_expect_X10_isPart : GoodIn wsX10_expect (va_wsS RX10 186 yX10_isPart wsX10_isPart) := goodIn_app (goodIn_of _ (by decide +kernel)) ggX10_expect_X10_isPart
set_option maxRecDepth 20000 in
theorem ggX10_expect_X10_sumOf : GoodIn wsX10_expect wsX10_sumOf := goodIn_r _ [16, 1, 17, 18, 19, 4, 20, 21, 22, 23, 24, 25, 26, 36, 37, 38, 39, 40, 41, 42, 43, 44, 45, 46, 47, 48, 49, 50, 51, 52, 53, 54, 55, 56, 57, 58, 59, 60, 61, 62, 63, 64, 65, 66, 67, 68, 69, 70, 71, 72, 73, 74] (by decide +kernel) (by decide +kernel)
set_option maxRecDepth 20000 in
theorem gX10_expect_X10_sumOf : GoodIn wsX10_expect (wsV RX10 245 RX10 yX10_sumOf wsX10_sumOf) := goodIn_app (goodIn_of _ (by decide +kernel)) ggX10_expect_X10_sumOf
set_option maxRecDepth 20000 in
theorem ggX10_expect_X10_bits : GoodIn wsX10_expect wsX10_bits := goodIn_r _ [29] (by decide +kernel) (by decide +kernel)
set_option maxRecDepth 20000 in
theorem gX10_expect_X10_bits : GoodIn wsX10_expect (va_wsS RX10 239 yX10_bits wsX10_bits) := goodIn_app (goodIn_of _ (by decide +kernel)) ggX10_expect_X10_bits
set_option maxRecDepth 20000 in
theorem ggX10_expect_X10_partOf : GoodIn wsX10_expect wsX10_partOf := goodIn_r _ [32, 33, 34, 4, 35] (by decide +kernel) (by decide +kernel)
set_option maxRecDepth 20000 in
theorem gX10_expect_X10_partOf : GoodIn wsX10_expect (va_wsS RX10 196 yX10_partOf wsX10_partOf) := goodIn_app (goodIn_of _ (by decide +kernel)) ggX10_expect_X10_partOf
theorem dX10_expect_0 : decode cX10_expect 0 = .ok (.iload_n 1, 1) := by decide +kernel
theorem dX10_expect_1 : decode cX10_expect 1 = .ok (.i2l, 1) := by decide +kernel
theorem dX10_expect_2 : decode cX10_expect 2 = .ok (.lconst 0, 1) := by decide +kernel
theorem dX10_expect_3 : decode cX10_expect 3 = .ok (.lconst 1, 1) := by decide +kernel
theorem dX10_expect_4 : decode cX10_expect 4 = .ok (.invokestatic 94, 3) := by decide +kernel
theorem dX10_expect_7 : decode cX10_expect 7 = .ok (.ifCond .eq 35, 3) := by decide +kernel
theorem dX10_expect_10 : decode cX10_expect 10 = .ok (.aload_n 0, 1) := by decide +kernel
theorem dX10_expect_11 : decode cX10_expect 11 = .ok (.iload_n 2, 1) := by decide +kernel
theorem dX10_expect_12 : decode cX10_expect 12 = .ok (.invokevirtual 236, 3) := by decide +kernel
theorem dX10_expect_15 : decode cX10_expect 15 = .ok (.ifCond .eq 27, 3) := by decide +kernel
theorem dX10_expect_18 : decode cX10_expect 18 = .ok (.aload_n 0, 1) := by decide +kernel
theorem dX10_expect_19 : decode cX10_expect 19 = .ok (.iload_n 3, 1) := by decide +kernel
theorem dX10_expect_20 : decode cX10_expect 20 = .ok (.invokevirtual 236, 3) := by decide +kernel
theorem dX10_expect_23 : decode cX10_expect 23 = .ok (.ifCond .eq 19, 3) := by decide +kernel
theorem dX10_expect_26 : decode cX10_expect 26 = .ok (.iload_n 3, 1) := by decide +kernel
theorem dX10_expect_27 : decode cX10_expect 27 = .ok (.iload_n 2, 1) := by decide +kernel
theorem dX10_expect_28 : decode cX10_expect 28 = .ok (.iconst (-1), 1) := by decide +kernel
theorem dX10_expect_29 : decode cX10_expect 29 = .ok (.ixor, 1) := by decide +kernel
theorem dX10_expect_30 : decode cX10_expect 30 = .ok (.iand, 1) := by decide +kernel
theorem dX10_expect_31 : decode cX10_expect 31 = .ok (.ifCond .ne 11, 3) := by decide +kernel
theorem dX10_expect_34 : decode cX10_expect 34 = .ok (.iload 4, 2) := by decide +kernel
theorem dX10_expect_36 : decode cX10_expect 36 = .ok (.invokestatic 186, 3) := by decide +kernel
theorem dX10_expect_39 : decode cX10_expect 39 = .ok (.ifCond .ne 6, 3) := by decide +kernel
theorem dX10_expect_42 : decode cX10_expect 42 = .ok (.bipush (-3), 2) := by decide +kernel
theorem dX10_expect_44 : decode cX10_expect 44 = .ok (.ireturn, 1) := by decide +kernel
theorem dX10_expect_45 : decode cX10_expect 45 = .ok (.aload_n 0, 1) := by decide +kernel
theorem dX10_expect_46 : decode cX10_expect 46 = .ok (.iload_n 1, 1) := by decide +kernel
theorem dX10_expect_47 : decode cX10_expect 47 = .ok (.iload_n 2, 1) := by decide +kernel
theorem dX10_expect_48 : decode cX10_expect 48 = .ok (.iload_n 3, 1) := by decide +kernel
theorem dX10_expect_49 : decode cX10_expect 49 = .ok (.invokevirtual 245, 3) := by decide +kernel
theorem dX10_expect_52 : decode cX10_expect 52 = .ok (.i2l, 1) := by decide +kernel
theorem dX10_expect_53 : decode cX10_expect 53 = .ok (.lconst 1, 1) := by decide +kernel
theorem dX10_expect_54 : decode cX10_expect 54 = .ok (.aload_n 0, 1) := by decide +kernel
theorem dX10_expect_55 : decode cX10_expect 55 = .ok (.getfield 35, 3) := by decide +kernel
theorem dX10_expect_58 : decode cX10_expect 58 = .ok (.iload_n 2, 1) := by decide +kernel
theorem dX10_expect_59 : decode cX10_expect 59 = .ok (.invokestatic 239, 3) := by decide +kernel
theorem dX10_expect_62 : decode cX10_expect 62 = .ok (.isub, 1) := by decide +kernel
theorem dX10_expect_63 : decode cX10_expect 63 = .ok (.lshl, 1) := by decide +kernel
theorem dX10_expect_64 : decode cX10_expect 64 = .ok (.iload 4, 2) := by decide +kernel
theorem dX10_expect_66 : decode cX10_expect 66 = .ok (.invokestatic 196, 3) := by decide +kernel
theorem dX10_expect_69 : decode cX10_expect 69 = .ok (.ireturn, 1) := by decide +kernel
set_option maxRecDepth 20000 in
theorem ggX10_byMeans_X10_in : GoodIn wsX10_byMeans wsX10_in := goodIn_r _ [5] (by decide +kernel) (by decide +kernel)
set_option maxRecDepth 20000 in
theorem gX10_byMeans_X10_in : GoodIn wsX10_byMeans (va_wsS RX10 94 yX10_in wsX10_in) := goodIn_app (goodIn_of _ (by decide +kernel)) ggX10_byMeans_X10_in
set_option maxRecDepth 20000 in
theorem ggX10_byMeans_X10_sumOf : GoodIn wsX10_byMeans wsX10_sumOf := goodIn_r _ [9, 1, 10, 11, 12, 4, 13, 14, 15, 16, 17, 18, 19, 20, 21, 22, 23, 24, 25, 26, 27, 28, 29, 30, 31, 32, 33, 34, 35, 36, 37, 38, 39, 40, 41, 42, 43, 44, 45, 46, 47, 48, 49, 50, 51, 52, 53, 54, 55, 56, 57, 58] (by decide +kernel) (by decide +kernel)
set_option maxRecDepth 20000 in
theorem gX10_byMeans_X10_sumOf : GoodIn wsX10_byMeans (wsV RX10 245 RX10 yX10_sumOf wsX10_sumOf) := goodIn_app (goodIn_of _ (by decide +kernel)) ggX10_byMeans_X10_sumOf
theorem dX10_byMeans_0 : decode cX10_byMeans 0 = .ok (.iload_n 1, 1) := by decide +kernel
theorem dX10_byMeans_1 : decode cX10_byMeans 1 = .ok (.i2l, 1) := by decide +kernel
theorem dX10_byMeans_2 : decode cX10_byMeans 2 = .ok (.lconst 0, 1) := by decide +kernel
theorem dX10_byMeans_3 : decode cX10_byMeans 3 = .ok (.lconst 1, 1) := by decide +kernel
theorem dX10_byMeans_4 : decode cX10_byMeans 4 = .ok (.invokestatic 94, 3) := by decide +kernel
theorem dX10_byMeans_7 : decode cX10_byMeans 7 = .ok (.ifCond .ne 6, 3) := by decide +kernel
theorem dX10_byMeans_10 : decode cX10_byMeans 10 = .ok (.bipush (-3), 2) := by decide +kernel
theorem dX10_byMeans_12 : decode cX10_byMeans 12 = .ok (.ireturn, 1) := by decide +kernel
theorem dX10_byMeans_13 : decode cX10_byMeans 13 = .ok (.iconst 0, 1) := by decide +kernel
theorem dX10_byMeans_14 : decode cX10_byMeans 14 = .ok (.istore_n 2, 1) := by decide +kernel
theorem dX10_byMeans_15 : decode cX10_byMeans 15 = .ok (.iconst 0, 1) := by decide +kernel
theorem dX10_byMeans_16 : decode cX10_byMeans 16 = .ok (.istore_n 3, 1) := by decide +kernel
theorem dX10_byMeans_17 : decode cX10_byMeans 17 = .ok (.iload_n 3, 1) := by decide +kernel
theorem dX10_byMeans_18 : decode cX10_byMeans 18 = .ok (.aload_n 0, 1) := by decide +kernel
theorem dX10_byMeans_19 : decode cX10_byMeans 19 = .ok (.getfield 35, 3) := by decide +kernel
theorem dX10_byMeans_22 : decode cX10_byMeans 22 = .ok (.if_icmp .ge 71, 3) := by decide +kernel
theorem dX10_byMeans_25 : decode cX10_byMeans 25 = .ok (.iconst 2, 1) := by decide +kernel
theorem dX10_byMeans_26 : decode cX10_byMeans 26 = .ok (.iload_n 3, 1) := by decide +kernel
theorem dX10_byMeans_27 : decode cX10_byMeans 27 = .ok (.ishl, 1) := by decide +kernel
theorem dX10_byMeans_28 : decode cX10_byMeans 28 = .ok (.iconst 1, 1) := by decide +kernel
theorem dX10_byMeans_29 : decode cX10_byMeans 29 = .ok (.isub, 1) := by decide +kernel
theorem dX10_byMeans_30 : decode cX10_byMeans 30 = .ok (.istore 4, 2) := by decide +kernel
theorem dX10_byMeans_32 : decode cX10_byMeans 32 = .ok (.aload_n 0, 1) := by decide +kernel
theorem dX10_byMeans_33 : decode cX10_byMeans 33 = .ok (.iload_n 1, 1) := by decide +kernel
theorem dX10_byMeans_34 : decode cX10_byMeans 34 = .ok (.iload 4, 2) := by decide +kernel
theorem dX10_byMeans_36 : decode cX10_byMeans 36 = .ok (.iload_n 2, 1) := by decide +kernel
theorem dX10_byMeans_37 : decode cX10_byMeans 37 = .ok (.invokevirtual 245, 3) := by decide +kernel
theorem dX10_byMeans_40 : decode cX10_byMeans 40 = .ok (.istore 5, 2) := by decide +kernel
theorem dX10_byMeans_42 : decode cX10_byMeans 42 = .ok (.aload_n 0, 1) := by decide +kernel
theorem dX10_byMeans_43 : decode cX10_byMeans 43 = .ok (.iload_n 1, 1) := by decide +kernel
theorem dX10_byMeans_44 : decode cX10_byMeans 44 = .ok (.iload 4, 2) := by decide +kernel
theorem dX10_byMeans_46 : decode cX10_byMeans 46 = .ok (.iload_n 2, 1) := by decide +kernel
theorem dX10_byMeans_47 : decode cX10_byMeans 47 = .ok (.iconst 1, 1) := by decide +kernel
theorem dX10_byMeans_48 : decode cX10_byMeans 48 = .ok (.iload_n 3, 1) := by decide +kernel
theorem dX10_byMeans_49 : decode cX10_byMeans 49 = .ok (.ishl, 1) := by decide +kernel
theorem dX10_byMeans_50 : decode cX10_byMeans 50 = .ok (.ior, 1) := by decide +kernel
theorem dX10_byMeans_51 : decode cX10_byMeans 51 = .ok (.invokevirtual 245, 3) := by decide +kernel
theorem dX10_byMeans_54 : decode cX10_byMeans 54 = .ok (.istore 6, 2) := by decide +kernel
theorem dX10_byMeans_56 : decode cX10_byMeans 56 = .ok (.iload_n 2, 1) := by decide +kernel
theorem dX10_byMeans_57 : decode cX10_byMeans 57 = .ok (.iload_n 1, 1) := by decide +kernel
theorem dX10_byMeans_58 : decode cX10_byMeans 58 = .ok (.ifCond .ne 13, 3) := by decide +kernel
theorem dX10_byMeans_61 : decode cX10_byMeans 61 = .ok (.iload 6, 2) := by decide +kernel
theorem dX10_byMeans_63 : decode cX10_byMeans 63 = .ok (.iload 5, 2) := by decide +kernel
theorem dX10_byMeans_65 : decode cX10_byMeans 65 = .ok (.if_icmp .le 19, 3) := by decide +kernel
theorem dX10_byMeans_68 : decode cX10_byMeans 68 = .ok (.goto 10, 3) := by decide +kernel
theorem dX10_byMeans_71 : decode cX10_byMeans 71 = .ok (.iload 6, 2) := by decide +kernel
theorem dX10_byMeans_73 : decode cX10_byMeans 73 = .ok (.iload 5, 2) := by decide +kernel
theorem dX10_byMeans_75 : decode cX10_byMeans 75 = .ok (.if_icmp .ge 9, 3) := by decide +kernel
theorem dX10_byMeans_78 : decode cX10_byMeans 78 = .ok (.iconst 1, 1) := by decide +kernel
theorem dX10_byMeans_79 : decode cX10_byMeans 79 = .ok (.iload_n 3, 1) := by decide +kernel
theorem dX10_byMeans_80 : decode cX10_byMeans 80 = .ok (.ishl, 1) := by decide +kernel
theorem dX10_byMeans_81 : decode cX10_byMeans 81 = .ok (.goto 4, 3) := by decide +kernel
theorem dX10_byMeans_84 : decode cX10_byMeans 84 = .ok (.iconst 0, 1) := by decide +kernel
theorem dX10_byMeans_85 : decode cX10_byMeans 85 = .ok (.ior, 1) := by decide +kernel
theorem dX10_byMeans_86 : decode cX10_byMeans 86 = .ok (.istore_n 2, 1) := by decide +kernel
theorem dX10_byMeans_87 : decode cX10_byMeans 87 = .ok (.iinc 3 1, 3) := by decide +kernel
theorem dX10_byMeans_90 : decode cX10_byMeans 90 = .ok (.goto (-73), 3) := by decide +kernel
theorem dX10_byMeans_93 : decode cX10_byMeans 93 = .ok (.iload_n 2, 1) := by decide +kernel
theorem dX10_byMeans_94 : decode cX10_byMeans 94 = .ok (.ireturn, 1) := by decide +kernel
set_option maxRecDepth 20000 in
theorem ggX10_isBetter_X10_measureOf : GoodIn wsX10_isBetter wsX10_measureOf := goodIn_r _ [5, 6, 7, 8, 9, 10, 11, 12, 13, 14, 15, 16, 17, 18, 19, 20, 21, 22, 23, 24, 25, 26, 27, 28, 29, 30, 31, 32, 33, 34, 35, 36, 37, 38, 39, 40, 41, 42, 43, 44, 45, 46, 47, 48, 49, 50] (by decide +kernel) (by decide +kernel)
set_option maxRecDepth 20000 in
theorem gX10_isBetter_X10_measureOf : GoodIn wsX10_isBetter (wsV RX10 242 RX10 yX10_measureOf wsX10_measureOf) := goodIn_app (goodIn_of _ (by decide +kernel)) ggX10_isBetter_X10_measureOf
theorem dX10_isBetter_0 : decode cX10_isBetter 0 = .ok (.iload_n 1, 1) := by decide +kernel
theorem dX10_isBetter_1 : decode cX10_isBetter 1 = .ok (.ifCond .ne 26, 3) := by decide +kernel
theorem dX10_isBetter_4 : decode cX10_isBetter 4 = .ok (.aload_n 0, 1) := by decide +kernel
theorem dX10_isBetter_5 : decode cX10_isBetter 5 = .ok (.iconst 0, 1) := by decide +kernel
theorem dX10_isBetter_6 : decode cX10_isBetter 6 = .ok (.iload_n 2, 1) := by decide +kernel
theorem dX10_isBetter_7 : decode cX10_isBetter 7 = .ok (.invokevirtual 242, 3) := by decide +kernel
theorem dX10_isBetter_10 : decode cX10_isBetter 10 = .ok (.aload_n 0, 1) := by decide +kernel
theorem dX10_isBetter_11 : decode cX10_isBetter 11 = .ok (.iconst 0, 1) := by decide +kernel
theorem dX10_isBetter_12 : decode cX10_isBetter 12 = .ok (.iload_n 3, 1) := by decide +kernel
theorem dX10_isBetter_13 : decode cX10_isBetter 13 = .ok (.invokevirtual 242, 3) := by decide +kernel
theorem dX10_isBetter_16 : decode cX10_isBetter 16 = .ok (.if_icmp .le 7, 3) := by decide +kernel
theorem dX10_isBetter_19 : decode cX10_isBetter 19 = .ok (.iconst 1, 1) := by decide +kernel
theorem dX10_isBetter_20 : decode cX10_isBetter 20 = .ok (.goto 27, 3) := by decide +kernel
theorem dX10_isBetter_23 : decode cX10_isBetter 23 = .ok (.iconst 0, 1) := by decide +kernel
theorem dX10_isBetter_24 : decode cX10_isBetter 24 = .ok (.goto 23, 3) := by decide +kernel
theorem dX10_isBetter_27 : decode cX10_isBetter 27 = .ok (.aload_n 0, 1) := by decide +kernel
theorem dX10_isBetter_28 : decode cX10_isBetter 28 = .ok (.iconst 1, 1) := by decide +kernel
theorem dX10_isBetter_29 : decode cX10_isBetter 29 = .ok (.iload_n 2, 1) := by decide +kernel
theorem dX10_isBetter_30 : decode cX10_isBetter 30 = .ok (.invokevirtual 242, 3) := by decide +kernel
theorem dX10_isBetter_33 : decode cX10_isBetter 33 = .ok (.aload_n 0, 1) := by decide +kernel
theorem dX10_isBetter_34 : decode cX10_isBetter 34 = .ok (.iconst 1, 1) := by decide +kernel
theorem dX10_isBetter_35 : decode cX10_isBetter 35 = .ok (.iload_n 3, 1) := by decide +kernel
theorem dX10_isBetter_36 : decode cX10_isBetter 36 = .ok (.invokevirtual 242, 3) := by decide +kernel
theorem dX10_isBetter_39 : decode cX10_isBetter 39 = .ok (.if_icmp .ge 7, 3) := by decide +kernel
theorem dX10_isBetter_42 : decode cX10_isBetter 42 = .ok (.iconst 1, 1) := by decide +kernel
theorem dX10_isBetter_43 : decode cX10_isBetter 43 = .ok (.goto 4, 3) := by decide +kernel
theorem dX10_isBetter_46 : decode cX10_isBetter 46 = .ok (.iconst 0, 1) := by decide +kernel
theorem dX10_isBetter_47 : decode cX10_isBetter 47 = .ok (.ireturn, 1) := by decide +kernel
set_option maxRecDepth 20000 in
theorem ggX10_best_X10_in : GoodIn wsX10_best wsX10_in := goodIn_r _ [5] (by decide +kernel) (by decide +kernel)
set_option maxRecDepth 20000 in
theorem gX10_best_X10_in : GoodIn wsX10_best (va_wsS RX10 94 yX10_in wsX10_in) := goodIn_app (goodIn_of _ (by decide +kernel)) ggX10_best_X10_in
set_option maxRecDepth 20000 in
theorem ggX10_best_X10_isBetter : GoodIn wsX10_best wsX10_isBetter := goodIn_r _ [9, 10, 11, 12, 4, 13, 14, 15, 16, 17, 18, 19, 20, 21, 22, 23, 24, 25, 26, 27, 28, 29, 30, 31, 32, 33, 34, 35, 36, 37, 38, 39, 40, 41, 42, 43, 44, 45, 46, 47, 48, 49, 50, 51, 52, 53, 54, 55, 56, 57, 58] (by decide +kernel) (by decide +kernel)
set_option maxRecDepth 20000 in
theorem gX10_best_X10_isBetter : GoodIn wsX10_best (wsV RX10 248 RX10 yX10_isBetter wsX10_isBetter) := goodIn_app (goodIn_of _ (by decide +kernel)) ggX10_best_X10_isBetter
theorem dX10_best_0 : decode cX10_best 0 = .ok (.iload_n 1, 1) := by decide +kernel
theorem dX10_best_1 : decode cX10_best 1 = .ok (.i2l, 1) := by decide +kernel
theorem dX10_best_2 : decode cX10_best 2 = .ok (.lconst 0, 1) := by decide +kernel
theorem dX10_best_3 : decode cX10_best 3 = .ok (.lconst 1, 1) := by decide +kernel
theorem dX10_best_4 : decode cX10_best 4 = .ok (.invokestatic 94, 3) := by decide +kernel
theorem dX10_best_7 : decode cX10_best 7 = .ok (.ifCond .ne 6, 3) := by decide +kernel
theorem dX10_best_10 : decode cX10_best 10 = .ok (.bipush (-3), 2) := by decide +kernel
theorem dX10_best_12 : decode cX10_best 12 = .ok (.ireturn, 1) := by decide +kernel
theorem dX10_best_13 : decode cX10_best 13 = .ok (.iconst 0, 1) := by decide +kernel
theorem dX10_best_14 : decode cX10_best 14 = .ok (.istore_n 2, 1) := by decide +kernel
theorem dX10_best_15 : decode cX10_best 15 = .ok (.iconst 1, 1) := by decide +kernel
theorem dX10_best_16 : decode cX10_best 16 = .ok (.istore_n 3, 1) := by decide +kernel
theorem dX10_best_17 : decode cX10_best 17 = .ok (.iload_n 3, 1) := by decide +kernel
theorem dX10_best_18 : decode cX10_best 18 = .ok (.iconst 1, 1) := by decide +kernel
theorem dX10_best_19 : decode cX10_best 19 = .ok (.aload_n 0, 1) := by decide +kernel
theorem dX10_best_20 : decode cX10_best 20 = .ok (.getfield 35, 3) := by decide +kernel
theorem dX10_best_23 : decode cX10_best 23 = .ok (.ishl, 1) := by decide +kernel
theorem dX10_best_24 : decode cX10_best 24 = .ok (.if_icmp .ge 25, 3) := by decide +kernel
theorem dX10_best_27 : decode cX10_best 27 = .ok (.aload_n 0, 1) := by decide +kernel
theorem dX10_best_28 : decode cX10_best 28 = .ok (.iload_n 1, 1) := by decide +kernel
theorem dX10_best_29 : decode cX10_best 29 = .ok (.iload_n 3, 1) := by decide +kernel
theorem dX10_best_30 : decode cX10_best 30 = .ok (.iload_n 2, 1) := by decide +kernel
theorem dX10_best_31 : decode cX10_best 31 = .ok (.invokevirtual 248, 3) := by decide +kernel
theorem dX10_best_34 : decode cX10_best 34 = .ok (.ifCond .eq 7, 3) := by decide +kernel
theorem dX10_best_37 : decode cX10_best 37 = .ok (.iload_n 3, 1) := by decide +kernel
theorem dX10_best_38 : decode cX10_best 38 = .ok (.goto 4, 3) := by decide +kernel
theorem dX10_best_41 : decode cX10_best 41 = .ok (.iload_n 2, 1) := by decide +kernel
theorem dX10_best_42 : decode cX10_best 42 = .ok (.istore_n 2, 1) := by decide +kernel
theorem dX10_best_43 : decode cX10_best 43 = .ok (.iinc 3 1, 3) := by decide +kernel
theorem dX10_best_46 : decode cX10_best 46 = .ok (.goto (-29), 3) := by decide +kernel
theorem dX10_best_49 : decode cX10_best 49 = .ok (.iload_n 2, 1) := by decide +kernel
theorem dX10_best_50 : decode cX10_best 50 = .ok (.ireturn, 1) := by decide +kernel
set_option maxRecDepth 20000 in
theorem ggX10_heap_X10_areKnots : GoodIn wsX10_heap wsX10_areKnots := goodIn_r _ [7, 8, 9, 10, 6, 11, 12, 13, 14, 15, 16, 17, 18, 19, 20, 21, 22, 23, 24, 25, 26, 27, 28, 29, 30, 31, 32, 33, 34, 35, 36, 37, 38, 39, 40, 41, 42, 43, 44, 45, 46, 47, 48, 49, 50] (by decide +kernel) (by decide +kernel)
set_option maxRecDepth 20000 in
theorem gX10_heap_X10_areKnots : GoodIn wsX10_heap (wsV RX10 236 RX10 yX10_areKnots wsX10_areKnots) := goodIn_app (goodIn_of _ (by decide +kernel)) ggX10_heap_X10_areKnots
theorem dX10_heap_0 : decode cX10_heap 0 = .ok (.aload_n 0, 1) := by decide +kernel
theorem dX10_heap_1 : decode cX10_heap 1 = .ok (.iload_n 1, 1) := by decide +kernel
theorem dX10_heap_2 : decode cX10_heap 2 = .ok (.invokevirtual 236, 3) := by decide +kernel
theorem dX10_heap_5 : decode cX10_heap 5 = .ok (.ifCond .ne 6, 3) := by decide +kernel
theorem dX10_heap_8 : decode cX10_heap 8 = .ok (.bipush (-3), 2) := by decide +kernel
theorem dX10_heap_10 : decode cX10_heap 10 = .ok (.ireturn, 1) := by decide +kernel
theorem dX10_heap_11 : decode cX10_heap 11 = .ok (.aload_n 0, 1) := by decide +kernel
theorem dX10_heap_12 : decode cX10_heap 12 = .ok (.getfield 228, 3) := by decide +kernel
theorem dX10_heap_15 : decode cX10_heap 15 = .ok (.bipush 32, 2) := by decide +kernel
theorem dX10_heap_17 : decode cX10_heap 17 = .ok (.if_icmp .ne 6, 3) := by decide +kernel
theorem dX10_heap_20 : decode cX10_heap 20 = .ok (.bipush (-5), 2) := by decide +kernel
theorem dX10_heap_22 : decode cX10_heap 22 = .ok (.ireturn, 1) := by decide +kernel
theorem dX10_heap_23 : decode cX10_heap 23 = .ok (.aload_n 0, 1) := by decide +kernel
theorem dX10_heap_24 : decode cX10_heap 24 = .ok (.getfield 50, 3) := by decide +kernel
theorem dX10_heap_27 : decode cX10_heap 27 = .ok (.aload_n 0, 1) := by decide +kernel
theorem dX10_heap_28 : decode cX10_heap 28 = .ok (.getfield 228, 3) := by decide +kernel
theorem dX10_heap_31 : decode cX10_heap 31 = .ok (.iload_n 1, 1) := by decide +kernel
theorem dX10_heap_32 : decode cX10_heap 32 = .ok (.iastore, 1) := by decide +kernel
theorem dX10_heap_33 : decode cX10_heap 33 = .ok (.aload_n 0, 1) := by decide +kernel
theorem dX10_heap_34 : decode cX10_heap 34 = .ok (.dup, 1) := by decide +kernel
theorem dX10_heap_35 : decode cX10_heap 35 = .ok (.getfield 228, 3) := by decide +kernel
theorem dX10_heap_38 : decode cX10_heap 38 = .ok (.iconst 1, 1) := by decide +kernel
theorem dX10_heap_39 : decode cX10_heap 39 = .ok (.iadd, 1) := by decide +kernel
theorem dX10_heap_40 : decode cX10_heap 40 = .ok (.putfield 228, 3) := by decide +kernel
theorem dX10_heap_43 : decode cX10_heap 43 = .ok (.aload_n 0, 1) := by decide +kernel
theorem dX10_heap_44 : decode cX10_heap 44 = .ok (.getfield 228, 3) := by decide +kernel
theorem dX10_heap_47 : decode cX10_heap 47 = .ok (.ireturn, 1) := by decide +kernel
set_option maxRecDepth 20000 in
theorem ggX10_made_X10_in : GoodIn wsX10_made wsX10_in := goodIn_r _ [9] (by decide +kernel) (by decide +kernel)
set_option maxRecDepth 20000 in
theorem gX10_made_X10_in : GoodIn wsX10_made (va_wsS RX10 94 yX10_in wsX10_in) := goodIn_app (goodIn_of _ (by decide +kernel)) ggX10_made_X10_in
set_option maxRecDepth 20000 in
theorem ggX10_made_X10_bits : GoodIn wsX10_made wsX10_bits := goodIn_r _ [12] (by decide +kernel) (by decide +kernel)
set_option maxRecDepth 20000 in
theorem gX10_made_X10_bits : GoodIn wsX10_made (va_wsS RX10 239 yX10_bits wsX10_bits) := goodIn_app (goodIn_of _ (by decide +kernel)) ggX10_made_X10_bits
theorem dX10_made_0 : decode cX10_made 0 = .ok (.iload_n 1, 1) := by decide +kernel
theorem dX10_made_1 : decode cX10_made 1 = .ok (.i2l, 1) := by decide +kernel
theorem dX10_made_2 : decode cX10_made 2 = .ok (.ldc2_w 200, 3) := by decide +kernel
theorem dX10_made_5 : decode cX10_made 5 = .ok (.ldc2_w 252, 3) := by decide +kernel
theorem dX10_made_8 : decode cX10_made 8 = .ok (.invokestatic 94, 3) := by decide +kernel
theorem dX10_made_11 : decode cX10_made 11 = .ok (.ifCond .ne 6, 3) := by decide +kernel
theorem dX10_made_14 : decode cX10_made 14 = .ok (.bipush (-3), 2) := by decide +kernel
theorem dX10_made_16 : decode cX10_made 16 = .ok (.ireturn, 1) := by decide +kernel
theorem dX10_made_17 : decode cX10_made 17 = .ok (.iconst 0, 1) := by decide +kernel
theorem dX10_made_18 : decode cX10_made 18 = .ok (.istore_n 2, 1) := by decide +kernel
theorem dX10_made_19 : decode cX10_made 19 = .ok (.iconst 1, 1) := by decide +kernel
theorem dX10_made_20 : decode cX10_made 20 = .ok (.iload_n 2, 1) := by decide +kernel
theorem dX10_made_21 : decode cX10_made 21 = .ok (.ishl, 1) := by decide +kernel
theorem dX10_made_22 : decode cX10_made 22 = .ok (.aload_n 0, 1) := by decide +kernel
theorem dX10_made_23 : decode cX10_made 23 = .ok (.getfield 35, 3) := by decide +kernel
theorem dX10_made_26 : decode cX10_made 26 = .ok (.if_icmp .gt 9, 3) := by decide +kernel
theorem dX10_made_29 : decode cX10_made 29 = .ok (.iinc 2 1, 3) := by decide +kernel
theorem dX10_made_32 : decode cX10_made 32 = .ok (.goto (-13), 3) := by decide +kernel
theorem dX10_made_35 : decode cX10_made 35 = .ok (.iload_n 2, 1) := by decide +kernel
theorem dX10_made_36 : decode cX10_made 36 = .ok (.iload_n 1, 1) := by decide +kernel
theorem dX10_made_37 : decode cX10_made 37 = .ok (.iconst 3, 1) := by decide +kernel
theorem dX10_made_38 : decode cX10_made 38 = .ok (.if_icmp .ne 7, 3) := by decide +kernel
theorem dX10_made_41 : decode cX10_made 41 = .ok (.iconst 1, 1) := by decide +kernel
theorem dX10_made_42 : decode cX10_made 42 = .ok (.goto 4, 3) := by decide +kernel
theorem dX10_made_45 : decode cX10_made 45 = .ok (.iconst 0, 1) := by decide +kernel
theorem dX10_made_46 : decode cX10_made 46 = .ok (.iadd, 1) := by decide +kernel
theorem dX10_made_47 : decode cX10_made 47 = .ok (.istore_n 2, 1) := by decide +kernel
theorem dX10_made_48 : decode cX10_made 48 = .ok (.aload_n 0, 1) := by decide +kernel
theorem dX10_made_49 : decode cX10_made 49 = .ok (.iconst 1, 1) := by decide +kernel
theorem dX10_made_50 : decode cX10_made 50 = .ok (.iload_n 2, 1) := by decide +kernel
theorem dX10_made_51 : decode cX10_made 51 = .ok (.ishl, 1) := by decide +kernel
theorem dX10_made_52 : decode cX10_made 52 = .ok (.putfield 228, 3) := by decide +kernel
theorem dX10_made_55 : decode cX10_made 55 = .ok (.iconst 0, 1) := by decide +kernel
theorem dX10_made_56 : decode cX10_made 56 = .ok (.istore_n 3, 1) := by decide +kernel
theorem dX10_made_57 : decode cX10_made 57 = .ok (.iload_n 3, 1) := by decide +kernel
theorem dX10_made_58 : decode cX10_made 58 = .ok (.aload_n 0, 1) := by decide +kernel
theorem dX10_made_59 : decode cX10_made 59 = .ok (.getfield 228, 3) := by decide +kernel
theorem dX10_made_62 : decode cX10_made 62 = .ok (.if_icmp .ge 77, 3) := by decide +kernel
theorem dX10_made_65 : decode cX10_made 65 = .ok (.aload_n 0, 1) := by decide +kernel
theorem dX10_made_66 : decode cX10_made 66 = .ok (.getfield 50, 3) := by decide +kernel
theorem dX10_made_69 : decode cX10_made 69 = .ok (.iload_n 3, 1) := by decide +kernel
theorem dX10_made_70 : decode cX10_made 70 = .ok (.iconst 0, 1) := by decide +kernel
theorem dX10_made_71 : decode cX10_made 71 = .ok (.iastore, 1) := by decide +kernel
theorem dX10_made_72 : decode cX10_made 72 = .ok (.iconst 0, 1) := by decide +kernel
theorem dX10_made_73 : decode cX10_made 73 = .ok (.istore 4, 2) := by decide +kernel
theorem dX10_made_75 : decode cX10_made 75 = .ok (.iload 4, 2) := by decide +kernel
theorem dX10_made_77 : decode cX10_made 77 = .ok (.aload_n 0, 1) := by decide +kernel
theorem dX10_made_78 : decode cX10_made 78 = .ok (.getfield 35, 3) := by decide +kernel
theorem dX10_made_81 : decode cX10_made 81 = .ok (.if_icmp .ge 52, 3) := by decide +kernel
theorem dX10_made_84 : decode cX10_made 84 = .ok (.iload_n 1, 1) := by decide +kernel
theorem dX10_made_85 : decode cX10_made 85 = .ok (.iconst 2, 1) := by decide +kernel
theorem dX10_made_86 : decode cX10_made 86 = .ok (.if_icmp .ne 10, 3) := by decide +kernel
theorem dX10_made_89 : decode cX10_made 89 = .ok (.iload 4, 2) := by decide +kernel
theorem dX10_made_91 : decode cX10_made 91 = .ok (.iconst 1, 1) := by decide +kernel
theorem dX10_made_92 : decode cX10_made 92 = .ok (.iadd, 1) := by decide +kernel
theorem dX10_made_93 : decode cX10_made 93 = .ok (.goto 11, 3) := by decide +kernel
theorem dX10_made_96 : decode cX10_made 96 = .ok (.iconst 2, 1) := by decide +kernel
theorem dX10_made_97 : decode cX10_made 97 = .ok (.iload 4, 2) := by decide +kernel
theorem dX10_made_99 : decode cX10_made 99 = .ok (.iconst 1, 1) := by decide +kernel
theorem dX10_made_100 : decode cX10_made 100 = .ok (.iadd, 1) := by decide +kernel
theorem dX10_made_101 : decode cX10_made 101 = .ok (.imul, 1) := by decide +kernel
theorem dX10_made_102 : decode cX10_made 102 = .ok (.iconst 1, 1) := by decide +kernel
theorem dX10_made_103 : decode cX10_made 103 = .ok (.iadd, 1) := by decide +kernel
theorem dX10_made_104 : decode cX10_made 104 = .ok (.istore 5, 2) := by decide +kernel
theorem dX10_made_106 : decode cX10_made 106 = .ok (.aload_n 0, 1) := by decide +kernel
theorem dX10_made_107 : decode cX10_made 107 = .ok (.getfield 50, 3) := by decide +kernel
theorem dX10_made_110 : decode cX10_made 110 = .ok (.iload_n 3, 1) := by decide +kernel
theorem dX10_made_111 : decode cX10_made 111 = .ok (.dup2, 1) := by decide +kernel
theorem dX10_made_112 : decode cX10_made 112 = .ok (.iaload, 1) := by decide +kernel
theorem dX10_made_113 : decode cX10_made 113 = .ok (.iload_n 3, 1) := by decide +kernel
theorem dX10_made_114 : decode cX10_made 114 = .ok (.iload 5, 2) := by decide +kernel
theorem dX10_made_116 : decode cX10_made 116 = .ok (.iand, 1) := by decide +kernel
theorem dX10_made_117 : decode cX10_made 117 = .ok (.invokestatic 239, 3) := by decide +kernel
theorem dX10_made_120 : decode cX10_made 120 = .ok (.iconst 2, 1) := by decide +kernel
theorem dX10_made_121 : decode cX10_made 121 = .ok (.irem, 1) := by decide +kernel
theorem dX10_made_122 : decode cX10_made 122 = .ok (.iload 4, 2) := by decide +kernel
theorem dX10_made_124 : decode cX10_made 124 = .ok (.ishl, 1) := by decide +kernel
theorem dX10_made_125 : decode cX10_made 125 = .ok (.ior, 1) := by decide +kernel
theorem dX10_made_126 : decode cX10_made 126 = .ok (.iastore, 1) := by decide +kernel
theorem dX10_made_127 : decode cX10_made 127 = .ok (.iinc 4 1, 3) := by decide +kernel
theorem dX10_made_130 : decode cX10_made 130 = .ok (.goto (-55), 3) := by decide +kernel
theorem dX10_made_133 : decode cX10_made 133 = .ok (.iinc 3 1, 3) := by decide +kernel
theorem dX10_made_136 : decode cX10_made 136 = .ok (.goto (-79), 3) := by decide +kernel
theorem dX10_made_139 : decode cX10_made 139 = .ok (.aload_n 0, 1) := by decide +kernel
theorem dX10_made_140 : decode cX10_made 140 = .ok (.getfield 228, 3) := by decide +kernel
theorem dX10_made_143 : decode cX10_made 143 = .ok (.ireturn, 1) := by decide +kernel
set_option maxRecDepth 20000 in
theorem ggX10_of_X10_in : GoodIn wsX10_of wsX10_in := goodIn_r _ [6] (by decide +kernel) (by decide +kernel)
set_option maxRecDepth 20000 in
theorem gX10_of_X10_in : GoodIn wsX10_of (va_wsS RX10 94 yX10_in wsX10_in) := goodIn_app (goodIn_of _ (by decide +kernel)) ggX10_of_X10_in
set_option maxRecDepth 20000 in
theorem ggX10_of_X10_isBetter : GoodIn wsX10_of wsX10_isBetter := goodIn_r _ [10, 11, 12, 13, 5, 14, 15, 16, 17, 18, 19, 20, 21, 22, 23, 24, 25, 26, 27, 28, 29, 30, 31, 32, 33, 34, 35, 36, 37, 38, 39, 40, 41, 42, 43, 44, 45, 46, 47, 48, 49, 50, 51, 52, 53, 54, 55, 56, 57, 58, 59] (by decide +kernel) (by decide +kernel)
set_option maxRecDepth 20000 in
theorem gX10_of_X10_isBetter : GoodIn wsX10_of (wsV RX10 248 RX10 yX10_isBetter wsX10_isBetter) := goodIn_app (goodIn_of _ (by decide +kernel)) ggX10_of_X10_isBetter
theorem dX10_of_0 : decode cX10_of 0 = .ok (.iload_n 1, 1) := by decide +kernel
theorem dX10_of_1 : decode cX10_of 1 = .ok (.i2l, 1) := by decide +kernel
theorem dX10_of_2 : decode cX10_of 2 = .ok (.lconst 0, 1) := by decide +kernel
theorem dX10_of_3 : decode cX10_of 3 = .ok (.lconst 1, 1) := by decide +kernel
theorem dX10_of_4 : decode cX10_of 4 = .ok (.invokestatic 94, 3) := by decide +kernel
theorem dX10_of_7 : decode cX10_of 7 = .ok (.ifCond .ne 6, 3) := by decide +kernel
theorem dX10_of_10 : decode cX10_of 10 = .ok (.bipush (-3), 2) := by decide +kernel
theorem dX10_of_12 : decode cX10_of 12 = .ok (.ireturn, 1) := by decide +kernel
theorem dX10_of_13 : decode cX10_of 13 = .ok (.aload_n 0, 1) := by decide +kernel
theorem dX10_of_14 : decode cX10_of 14 = .ok (.getfield 228, 3) := by decide +kernel
theorem dX10_of_17 : decode cX10_of 17 = .ok (.ifCond .ne 5, 3) := by decide +kernel
theorem dX10_of_20 : decode cX10_of 20 = .ok (.iconst (-1), 1) := by decide +kernel
theorem dX10_of_21 : decode cX10_of 21 = .ok (.ireturn, 1) := by decide +kernel
theorem dX10_of_22 : decode cX10_of 22 = .ok (.aload_n 0, 1) := by decide +kernel
theorem dX10_of_23 : decode cX10_of 23 = .ok (.getfield 50, 3) := by decide +kernel
theorem dX10_of_26 : decode cX10_of 26 = .ok (.iconst 0, 1) := by decide +kernel
theorem dX10_of_27 : decode cX10_of 27 = .ok (.iaload, 1) := by decide +kernel
theorem dX10_of_28 : decode cX10_of 28 = .ok (.istore_n 2, 1) := by decide +kernel
theorem dX10_of_29 : decode cX10_of 29 = .ok (.iconst 1, 1) := by decide +kernel
theorem dX10_of_30 : decode cX10_of 30 = .ok (.istore_n 3, 1) := by decide +kernel
theorem dX10_of_31 : decode cX10_of 31 = .ok (.iload_n 3, 1) := by decide +kernel
theorem dX10_of_32 : decode cX10_of 32 = .ok (.aload_n 0, 1) := by decide +kernel
theorem dX10_of_33 : decode cX10_of 33 = .ok (.getfield 228, 3) := by decide +kernel
theorem dX10_of_36 : decode cX10_of 36 = .ok (.if_icmp .ge 35, 3) := by decide +kernel
theorem dX10_of_39 : decode cX10_of 39 = .ok (.aload_n 0, 1) := by decide +kernel
theorem dX10_of_40 : decode cX10_of 40 = .ok (.iload_n 1, 1) := by decide +kernel
theorem dX10_of_41 : decode cX10_of 41 = .ok (.aload_n 0, 1) := by decide +kernel
theorem dX10_of_42 : decode cX10_of 42 = .ok (.getfield 50, 3) := by decide +kernel
theorem dX10_of_45 : decode cX10_of 45 = .ok (.iload_n 3, 1) := by decide +kernel
theorem dX10_of_46 : decode cX10_of 46 = .ok (.iaload, 1) := by decide +kernel
theorem dX10_of_47 : decode cX10_of 47 = .ok (.iload_n 2, 1) := by decide +kernel
theorem dX10_of_48 : decode cX10_of 48 = .ok (.invokevirtual 248, 3) := by decide +kernel
theorem dX10_of_51 : decode cX10_of 51 = .ok (.ifCond .eq 12, 3) := by decide +kernel
theorem dX10_of_54 : decode cX10_of 54 = .ok (.aload_n 0, 1) := by decide +kernel
theorem dX10_of_55 : decode cX10_of 55 = .ok (.getfield 50, 3) := by decide +kernel
theorem dX10_of_58 : decode cX10_of 58 = .ok (.iload_n 3, 1) := by decide +kernel
theorem dX10_of_59 : decode cX10_of 59 = .ok (.iaload, 1) := by decide +kernel
theorem dX10_of_60 : decode cX10_of 60 = .ok (.goto 4, 3) := by decide +kernel
theorem dX10_of_63 : decode cX10_of 63 = .ok (.iload_n 2, 1) := by decide +kernel
theorem dX10_of_64 : decode cX10_of 64 = .ok (.istore_n 2, 1) := by decide +kernel
theorem dX10_of_65 : decode cX10_of 65 = .ok (.iinc 3 1, 3) := by decide +kernel
theorem dX10_of_68 : decode cX10_of 68 = .ok (.goto (-37), 3) := by decide +kernel
theorem dX10_of_71 : decode cX10_of 71 = .ok (.iload_n 2, 1) := by decide +kernel
theorem dX10_of_72 : decode cX10_of 72 = .ok (.ireturn, 1) := by decide +kernel
theorem dX10_often_0 : decode cX10_often 0 = .ok (.iconst 0, 1) := by decide +kernel
theorem dX10_often_1 : decode cX10_often 1 = .ok (.istore_n 3, 1) := by decide +kernel
theorem dX10_often_2 : decode cX10_often 2 = .ok (.iconst 0, 1) := by decide +kernel
theorem dX10_often_3 : decode cX10_often 3 = .ok (.istore 4, 2) := by decide +kernel
theorem dX10_often_5 : decode cX10_often 5 = .ok (.iload 4, 2) := by decide +kernel
theorem dX10_often_7 : decode cX10_often 7 = .ok (.aload_n 0, 1) := by decide +kernel
theorem dX10_often_8 : decode cX10_often 8 = .ok (.getfield 228, 3) := by decide +kernel
theorem dX10_often_11 : decode cX10_often 11 = .ok (.if_icmp .ge 30, 3) := by decide +kernel
theorem dX10_often_14 : decode cX10_often 14 = .ok (.iload_n 3, 1) := by decide +kernel
theorem dX10_often_15 : decode cX10_often 15 = .ok (.aload_n 0, 1) := by decide +kernel
theorem dX10_often_16 : decode cX10_often 16 = .ok (.getfield 50, 3) := by decide +kernel
theorem dX10_often_19 : decode cX10_often 19 = .ok (.iload 4, 2) := by decide +kernel
theorem dX10_often_21 : decode cX10_often 21 = .ok (.iaload, 1) := by decide +kernel
theorem dX10_often_22 : decode cX10_often 22 = .ok (.iload_n 1, 1) := by decide +kernel
theorem dX10_often_23 : decode cX10_often 23 = .ok (.iand, 1) := by decide +kernel
theorem dX10_often_24 : decode cX10_often 24 = .ok (.iload_n 2, 1) := by decide +kernel
theorem dX10_often_25 : decode cX10_often 25 = .ok (.if_icmp .ne 7, 3) := by decide +kernel
theorem dX10_often_28 : decode cX10_often 28 = .ok (.iconst 1, 1) := by decide +kernel
theorem dX10_often_29 : decode cX10_often 29 = .ok (.goto 4, 3) := by decide +kernel
theorem dX10_often_32 : decode cX10_often 32 = .ok (.iconst 0, 1) := by decide +kernel
theorem dX10_often_33 : decode cX10_often 33 = .ok (.iadd, 1) := by decide +kernel
theorem dX10_often_34 : decode cX10_often 34 = .ok (.istore_n 3, 1) := by decide +kernel
theorem dX10_often_35 : decode cX10_often 35 = .ok (.iinc 4 1, 3) := by decide +kernel
theorem dX10_often_38 : decode cX10_often 38 = .ok (.goto (-33), 3) := by decide +kernel
theorem dX10_often_41 : decode cX10_often 41 = .ok (.iload_n 3, 1) := by decide +kernel
theorem dX10_often_42 : decode cX10_often 42 = .ok (.ireturn, 1) := by decide +kernel
set_option maxRecDepth 20000 in
theorem ggX10_even_X10_in : GoodIn wsX10_even wsX10_in := goodIn_r _ [7] (by decide +kernel) (by decide +kernel)
set_option maxRecDepth 20000 in
theorem gX10_even_X10_in : GoodIn wsX10_even (va_wsS RX10 94 yX10_in wsX10_in) := goodIn_app (goodIn_of _ (by decide +kernel)) ggX10_even_X10_in
set_option maxRecDepth 20000 in
theorem ggX10_even_X10_bits : GoodIn wsX10_even wsX10_bits := goodIn_r _ [10] (by decide +kernel) (by decide +kernel)
set_option maxRecDepth 20000 in
theorem gX10_even_X10_bits : GoodIn wsX10_even (va_wsS RX10 239 yX10_bits wsX10_bits) := goodIn_app (goodIn_of _ (by decide +kernel)) ggX10_even_X10_bits
set_option maxRecDepth 20000 in
theorem ggX10_even_X10_often : GoodIn wsX10_even wsX10_often := goodIn_r _ [14, 3, 15, 16, 17, 18, 19, 20, 21, 22, 23, 24, 25, 26, 27, 28, 29, 30, 31, 32, 33, 34, 35, 36, 37, 38, 39, 40, 41, 42, 43, 44, 45, 46, 47, 48, 49, 50, 51, 52, 53, 54] (by decide +kernel) (by decide +kernel)
set_option maxRecDepth 20000 in
theorem gX10_even_X10_often : GoodIn wsX10_even (wsV RX10 254 RX10 yX10_often wsX10_often) := goodIn_app (goodIn_of _ (by decide +kernel)) ggX10_even_X10_often
theorem dX10_even_0 : decode cX10_even 0 = .ok (.iload_n 1, 1) := by decide +kernel
theorem dX10_even_1 : decode cX10_even 1 = .ok (.i2l, 1) := by decide +kernel
theorem dX10_even_2 : decode cX10_even 2 = .ok (.lconst 1, 1) := by decide +kernel
theorem dX10_even_3 : decode cX10_even 3 = .ok (.ldc2_w 252, 3) := by decide +kernel
theorem dX10_even_6 : decode cX10_even 6 = .ok (.invokestatic 94, 3) := by decide +kernel
theorem dX10_even_9 : decode cX10_even 9 = .ok (.ifCond .eq 11, 3) := by decide +kernel
theorem dX10_even_12 : decode cX10_even 12 = .ok (.iload_n 1, 1) := by decide +kernel
theorem dX10_even_13 : decode cX10_even 13 = .ok (.aload_n 0, 1) := by decide +kernel
theorem dX10_even_14 : decode cX10_even 14 = .ok (.getfield 35, 3) := by decide +kernel
theorem dX10_even_17 : decode cX10_even 17 = .ok (.if_icmp .le 6, 3) := by decide +kernel
theorem dX10_even_20 : decode cX10_even 20 = .ok (.bipush (-3), 2) := by decide +kernel
theorem dX10_even_22 : decode cX10_even 22 = .ok (.ireturn, 1) := by decide +kernel
theorem dX10_even_23 : decode cX10_even 23 = .ok (.aload_n 0, 1) := by decide +kernel
theorem dX10_even_24 : decode cX10_even 24 = .ok (.getfield 228, 3) := by decide +kernel
theorem dX10_even_27 : decode cX10_even 27 = .ok (.ifCond .ne 6, 3) := by decide +kernel
theorem dX10_even_30 : decode cX10_even 30 = .ok (.bipush (-4), 2) := by decide +kernel
theorem dX10_even_32 : decode cX10_even 32 = .ok (.ireturn, 1) := by decide +kernel
theorem dX10_even_33 : decode cX10_even 33 = .ok (.iconst 1, 1) := by decide +kernel
theorem dX10_even_34 : decode cX10_even 34 = .ok (.istore_n 2, 1) := by decide +kernel
theorem dX10_even_35 : decode cX10_even 35 = .ok (.iconst 1, 1) := by decide +kernel
theorem dX10_even_36 : decode cX10_even 36 = .ok (.istore_n 3, 1) := by decide +kernel
theorem dX10_even_37 : decode cX10_even 37 = .ok (.iload_n 3, 1) := by decide +kernel
theorem dX10_even_38 : decode cX10_even 38 = .ok (.iconst 1, 1) := by decide +kernel
theorem dX10_even_39 : decode cX10_even 39 = .ok (.aload_n 0, 1) := by decide +kernel
theorem dX10_even_40 : decode cX10_even 40 = .ok (.getfield 35, 3) := by decide +kernel
theorem dX10_even_43 : decode cX10_even 43 = .ok (.ishl, 1) := by decide +kernel
theorem dX10_even_44 : decode cX10_even 44 = .ok (.if_icmp .ge 74, 3) := by decide +kernel
theorem dX10_even_47 : decode cX10_even 47 = .ok (.iconst 0, 1) := by decide +kernel
theorem dX10_even_48 : decode cX10_even 48 = .ok (.istore 4, 2) := by decide +kernel
theorem dX10_even_50 : decode cX10_even 50 = .ok (.iload 4, 2) := by decide +kernel
theorem dX10_even_52 : decode cX10_even 52 = .ok (.iconst 1, 1) := by decide +kernel
theorem dX10_even_53 : decode cX10_even 53 = .ok (.aload_n 0, 1) := by decide +kernel
theorem dX10_even_54 : decode cX10_even 54 = .ok (.getfield 35, 3) := by decide +kernel
theorem dX10_even_57 : decode cX10_even 57 = .ok (.ishl, 1) := by decide +kernel
theorem dX10_even_58 : decode cX10_even 58 = .ok (.if_icmp .ge 54, 3) := by decide +kernel
theorem dX10_even_61 : decode cX10_even 61 = .ok (.iload_n 3, 1) := by decide +kernel
theorem dX10_even_62 : decode cX10_even 62 = .ok (.invokestatic 239, 3) := by decide +kernel
theorem dX10_even_65 : decode cX10_even 65 = .ok (.iload_n 1, 1) := by decide +kernel
theorem dX10_even_66 : decode cX10_even 66 = .ok (.if_icmp .ne 46, 3) := by decide +kernel
theorem dX10_even_69 : decode cX10_even 69 = .ok (.iload_n 2, 1) := by decide +kernel
theorem dX10_even_70 : decode cX10_even 70 = .ok (.ifCond .eq 34, 3) := by decide +kernel
theorem dX10_even_73 : decode cX10_even 73 = .ok (.iload 4, 2) := by decide +kernel
theorem dX10_even_75 : decode cX10_even 75 = .ok (.iload_n 3, 1) := by decide +kernel
theorem dX10_even_76 : decode cX10_even 76 = .ok (.iconst (-1), 1) := by decide +kernel
theorem dX10_even_77 : decode cX10_even 77 = .ok (.ixor, 1) := by decide +kernel
theorem dX10_even_78 : decode cX10_even 78 = .ok (.iand, 1) := by decide +kernel
theorem dX10_even_79 : decode cX10_even 79 = .ok (.ifCond .ne 21, 3) := by decide +kernel
theorem dX10_even_82 : decode cX10_even 82 = .ok (.aload_n 0, 1) := by decide +kernel
theorem dX10_even_83 : decode cX10_even 83 = .ok (.iload_n 3, 1) := by decide +kernel
theorem dX10_even_84 : decode cX10_even 84 = .ok (.iload 4, 2) := by decide +kernel
theorem dX10_even_86 : decode cX10_even 86 = .ok (.invokevirtual 254, 3) := by decide +kernel
theorem dX10_even_89 : decode cX10_even 89 = .ok (.iconst 1, 1) := by decide +kernel
theorem dX10_even_90 : decode cX10_even 90 = .ok (.iload_n 1, 1) := by decide +kernel
theorem dX10_even_91 : decode cX10_even 91 = .ok (.ishl, 1) := by decide +kernel
theorem dX10_even_92 : decode cX10_even 92 = .ok (.imul, 1) := by decide +kernel
theorem dX10_even_93 : decode cX10_even 93 = .ok (.aload_n 0, 1) := by decide +kernel
theorem dX10_even_94 : decode cX10_even 94 = .ok (.getfield 228, 3) := by decide +kernel
theorem dX10_even_97 : decode cX10_even 97 = .ok (.if_icmp .ne 7, 3) := by decide +kernel
theorem dX10_even_100 : decode cX10_even 100 = .ok (.iconst 1, 1) := by decide +kernel
theorem dX10_even_101 : decode cX10_even 101 = .ok (.goto 4, 3) := by decide +kernel
theorem dX10_even_104 : decode cX10_even 104 = .ok (.iconst 0, 1) := by decide +kernel
theorem dX10_even_105 : decode cX10_even 105 = .ok (.istore_n 2, 1) := by decide +kernel
theorem dX10_even_106 : decode cX10_even 106 = .ok (.iinc 4 1, 3) := by decide +kernel
theorem dX10_even_109 : decode cX10_even 109 = .ok (.goto (-59), 3) := by decide +kernel
theorem dX10_even_112 : decode cX10_even 112 = .ok (.iinc 3 1, 3) := by decide +kernel
theorem dX10_even_115 : decode cX10_even 115 = .ok (.goto (-78), 3) := by decide +kernel
theorem dX10_even_118 : decode cX10_even 118 = .ok (.iload_n 2, 1) := by decide +kernel
theorem dX10_even_119 : decode cX10_even 119 = .ok (.ifCond .eq 7, 3) := by decide +kernel
theorem dX10_even_122 : decode cX10_even 122 = .ok (.iconst 1, 1) := by decide +kernel
theorem dX10_even_123 : decode cX10_even 123 = .ok (.goto 4, 3) := by decide +kernel
theorem dX10_even_126 : decode cX10_even 126 = .ok (.iconst 0, 1) := by decide +kernel
theorem dX10_even_127 : decode cX10_even 127 = .ok (.ireturn, 1) := by decide +kernel
set_option maxRecDepth 20000 in
theorem ggX10_error_X10_in : GoodIn wsX10_error wsX10_in := goodIn_r _ [8] (by decide +kernel) (by decide +kernel)
set_option maxRecDepth 20000 in
theorem gX10_error_X10_in : GoodIn wsX10_error (va_wsS RX10 94 yX10_in wsX10_in) := goodIn_app (goodIn_of _ (by decide +kernel)) ggX10_error_X10_in
set_option maxRecDepth 20000 in
theorem ggX10_error_X10_isPart : GoodIn wsX10_error wsX10_isPart := goodIn_r _ [11, 5, 6, 7, 8] (by decide +kernel) (by decide +kernel)
set_option maxRecDepth 20000 in
theorem gX10_error_X10_isPart : GoodIn wsX10_error (va_wsS RX10 186 yX10_isPart wsX10_isPart) := goodIn_app (goodIn_of _ (by decide +kernel)) ggX10_error_X10_isPart
set_option maxRecDepth 20000 in
theorem ggX10_error_X10_bits : GoodIn wsX10_error wsX10_bits := goodIn_r _ [14] (by decide +kernel) (by decide +kernel)
set_option maxRecDepth 20000 in
theorem gX10_error_X10_bits : GoodIn wsX10_error (va_wsS RX10 239 yX10_bits wsX10_bits) := goodIn_app (goodIn_of _ (by decide +kernel)) ggX10_error_X10_bits
set_option maxRecDepth 20000 in
theorem ggX10_error_X10_partOf : GoodIn wsX10_error wsX10_partOf := goodIn_r _ [17, 18, 19, 7, 20] (by decide +kernel) (by decide +kernel)
set_option maxRecDepth 20000 in
theorem gX10_error_X10_partOf : GoodIn wsX10_error (va_wsS RX10 196 yX10_partOf wsX10_partOf) := goodIn_app (goodIn_of _ (by decide +kernel)) ggX10_error_X10_partOf
theorem dX10_error_0 : decode cX10_error 0 = .ok (.iload_n 1, 1) := by decide +kernel
theorem dX10_error_1 : decode cX10_error 1 = .ok (.i2l, 1) := by decide +kernel
theorem dX10_error_2 : decode cX10_error 2 = .ok (.lconst 1, 1) := by decide +kernel
theorem dX10_error_3 : decode cX10_error 3 = .ok (.ldc2_w 92, 3) := by decide +kernel
theorem dX10_error_6 : decode cX10_error 6 = .ok (.invokestatic 94, 3) := by decide +kernel
theorem dX10_error_9 : decode cX10_error 9 = .ok (.ifCond .eq 10, 3) := by decide +kernel
theorem dX10_error_12 : decode cX10_error 12 = .ok (.iload_n 2, 1) := by decide +kernel
theorem dX10_error_13 : decode cX10_error 13 = .ok (.invokestatic 186, 3) := by decide +kernel
theorem dX10_error_16 : decode cX10_error 16 = .ok (.ifCond .ne 6, 3) := by decide +kernel
theorem dX10_error_19 : decode cX10_error 19 = .ok (.bipush (-3), 2) := by decide +kernel
theorem dX10_error_21 : decode cX10_error 21 = .ok (.ireturn, 1) := by decide +kernel
theorem dX10_error_22 : decode cX10_error 22 = .ok (.aload_n 0, 1) := by decide +kernel
theorem dX10_error_23 : decode cX10_error 23 = .ok (.getfield 228, 3) := by decide +kernel
theorem dX10_error_26 : decode cX10_error 26 = .ok (.ifCond .ne 6, 3) := by decide +kernel
theorem dX10_error_29 : decode cX10_error 29 = .ok (.bipush (-4), 2) := by decide +kernel
theorem dX10_error_31 : decode cX10_error 31 = .ok (.ireturn, 1) := by decide +kernel
theorem dX10_error_32 : decode cX10_error 32 = .ok (.iconst 0, 1) := by decide +kernel
theorem dX10_error_33 : decode cX10_error 33 = .ok (.istore_n 3, 1) := by decide +kernel
theorem dX10_error_34 : decode cX10_error 34 = .ok (.iconst 1, 1) := by decide +kernel
theorem dX10_error_35 : decode cX10_error 35 = .ok (.istore 4, 2) := by decide +kernel
theorem dX10_error_37 : decode cX10_error 37 = .ok (.iload 4, 2) := by decide +kernel
theorem dX10_error_39 : decode cX10_error 39 = .ok (.iconst 1, 1) := by decide +kernel
theorem dX10_error_40 : decode cX10_error 40 = .ok (.aload_n 0, 1) := by decide +kernel
theorem dX10_error_41 : decode cX10_error 41 = .ok (.getfield 35, 3) := by decide +kernel
theorem dX10_error_44 : decode cX10_error 44 = .ok (.ishl, 1) := by decide +kernel
theorem dX10_error_45 : decode cX10_error 45 = .ok (.if_icmp .ge 96, 3) := by decide +kernel
theorem dX10_error_48 : decode cX10_error 48 = .ok (.iconst 0, 1) := by decide +kernel
theorem dX10_error_49 : decode cX10_error 49 = .ok (.istore 5, 2) := by decide +kernel
theorem dX10_error_51 : decode cX10_error 51 = .ok (.iconst 0, 1) := by decide +kernel
theorem dX10_error_52 : decode cX10_error 52 = .ok (.istore 6, 2) := by decide +kernel
theorem dX10_error_54 : decode cX10_error 54 = .ok (.iload 6, 2) := by decide +kernel
theorem dX10_error_56 : decode cX10_error 56 = .ok (.aload_n 0, 1) := by decide +kernel
theorem dX10_error_57 : decode cX10_error 57 = .ok (.getfield 228, 3) := by decide +kernel
theorem dX10_error_60 : decode cX10_error 60 = .ok (.if_icmp .ge 47, 3) := by decide +kernel
theorem dX10_error_63 : decode cX10_error 63 = .ok (.iload 4, 2) := by decide +kernel
theorem dX10_error_65 : decode cX10_error 65 = .ok (.invokestatic 239, 3) := by decide +kernel
theorem dX10_error_68 : decode cX10_error 68 = .ok (.iload_n 1, 1) := by decide +kernel
theorem dX10_error_69 : decode cX10_error 69 = .ok (.if_icmp .gt 38, 3) := by decide +kernel
theorem dX10_error_72 : decode cX10_error 72 = .ok (.iload 5, 2) := by decide +kernel
theorem dX10_error_74 : decode cX10_error 74 = .ok (.aload_n 0, 1) := by decide +kernel
theorem dX10_error_75 : decode cX10_error 75 = .ok (.getfield 50, 3) := by decide +kernel
theorem dX10_error_78 : decode cX10_error 78 = .ok (.iload 6, 2) := by decide +kernel
theorem dX10_error_80 : decode cX10_error 80 = .ok (.iaload, 1) := by decide +kernel
theorem dX10_error_81 : decode cX10_error 81 = .ok (.iload 4, 2) := by decide +kernel
theorem dX10_error_83 : decode cX10_error 83 = .ok (.iand, 1) := by decide +kernel
theorem dX10_error_84 : decode cX10_error 84 = .ok (.invokestatic 239, 3) := by decide +kernel
theorem dX10_error_87 : decode cX10_error 87 = .ok (.iconst 2, 1) := by decide +kernel
theorem dX10_error_88 : decode cX10_error 88 = .ok (.irem, 1) := by decide +kernel
theorem dX10_error_89 : decode cX10_error 89 = .ok (.iconst 1, 1) := by decide +kernel
theorem dX10_error_90 : decode cX10_error 90 = .ok (.if_icmp .ne 7, 3) := by decide +kernel
theorem dX10_error_93 : decode cX10_error 93 = .ok (.iconst 1, 1) := by decide +kernel
theorem dX10_error_94 : decode cX10_error 94 = .ok (.goto 4, 3) := by decide +kernel
theorem dX10_error_97 : decode cX10_error 97 = .ok (.iconst (-1), 1) := by decide +kernel
theorem dX10_error_98 : decode cX10_error 98 = .ok (.iadd, 1) := by decide +kernel
theorem dX10_error_99 : decode cX10_error 99 = .ok (.istore 5, 2) := by decide +kernel
theorem dX10_error_101 : decode cX10_error 101 = .ok (.iinc 6 1, 3) := by decide +kernel
theorem dX10_error_104 : decode cX10_error 104 = .ok (.goto (-50), 3) := by decide +kernel
theorem dX10_error_107 : decode cX10_error 107 = .ok (.iload 5, 2) := by decide +kernel
theorem dX10_error_109 : decode cX10_error 109 = .ok (.ifCond .ge 9, 3) := by decide +kernel
theorem dX10_error_112 : decode cX10_error 112 = .ok (.iload 5, 2) := by decide +kernel
theorem dX10_error_114 : decode cX10_error 114 = .ok (.ineg, 1) := by decide +kernel
theorem dX10_error_115 : decode cX10_error 115 = .ok (.goto 5, 3) := by decide +kernel
theorem dX10_error_118 : decode cX10_error 118 = .ok (.iload 5, 2) := by decide +kernel
theorem dX10_error_120 : decode cX10_error 120 = .ok (.istore 5, 2) := by decide +kernel
theorem dX10_error_122 : decode cX10_error 122 = .ok (.iload 5, 2) := by decide +kernel
theorem dX10_error_124 : decode cX10_error 124 = .ok (.iload_n 3, 1) := by decide +kernel
theorem dX10_error_125 : decode cX10_error 125 = .ok (.if_icmp .le 8, 3) := by decide +kernel
theorem dX10_error_128 : decode cX10_error 128 = .ok (.iload 5, 2) := by decide +kernel
theorem dX10_error_130 : decode cX10_error 130 = .ok (.goto 4, 3) := by decide +kernel
theorem dX10_error_133 : decode cX10_error 133 = .ok (.iload_n 3, 1) := by decide +kernel
theorem dX10_error_134 : decode cX10_error 134 = .ok (.istore_n 3, 1) := by decide +kernel
theorem dX10_error_135 : decode cX10_error 135 = .ok (.iinc 4 1, 3) := by decide +kernel
theorem dX10_error_138 : decode cX10_error 138 = .ok (.goto (-101), 3) := by decide +kernel
theorem dX10_error_141 : decode cX10_error 141 = .ok (.iload_n 3, 1) := by decide +kernel
theorem dX10_error_142 : decode cX10_error 142 = .ok (.i2l, 1) := by decide +kernel
theorem dX10_error_143 : decode cX10_error 143 = .ok (.aload_n 0, 1) := by decide +kernel
theorem dX10_error_144 : decode cX10_error 144 = .ok (.getfield 228, 3) := by decide +kernel
theorem dX10_error_147 : decode cX10_error 147 = .ok (.i2l, 1) := by decide +kernel
theorem dX10_error_148 : decode cX10_error 148 = .ok (.iload_n 2, 1) := by decide +kernel
theorem dX10_error_149 : decode cX10_error 149 = .ok (.invokestatic 196, 3) := by decide +kernel
theorem dX10_error_152 : decode cX10_error 152 = .ok (.ireturn, 1) := by decide +kernel
set_option maxRecDepth 20000 in
theorem ggX10_least_X10_in : GoodIn wsX10_least wsX10_in := goodIn_r _ [6] (by decide +kernel) (by decide +kernel)
set_option maxRecDepth 20000 in
theorem gX10_least_X10_in : GoodIn wsX10_least (va_wsS RX10 94 yX10_in wsX10_in) := goodIn_app (goodIn_of _ (by decide +kernel)) ggX10_least_X10_in
set_option maxRecDepth 20000 in
theorem ggX10_least_X10_isBound : GoodIn wsX10_least wsX10_isBound := goodIn_r _ [9, 10, 3, 4, 5, 6] (by decide +kernel) (by decide +kernel)
set_option maxRecDepth 20000 in
theorem gX10_least_X10_isBound : GoodIn wsX10_least (va_wsS RX10 211 yX10_isBound wsX10_isBound) := goodIn_app (goodIn_of _ (by decide +kernel)) ggX10_least_X10_isBound
set_option maxRecDepth 20000 in
theorem ggX10_least_X10_bits : GoodIn wsX10_least wsX10_bits := goodIn_r _ [13] (by decide +kernel) (by decide +kernel)
set_option maxRecDepth 20000 in
theorem gX10_least_X10_bits : GoodIn wsX10_least (va_wsS RX10 239 yX10_bits wsX10_bits) := goodIn_app (goodIn_of _ (by decide +kernel)) ggX10_least_X10_bits
set_option maxRecDepth 20000 in
theorem ggX10_least_X10_isWithin : GoodIn wsX10_least wsX10_isWithin := goodIn_r _ [16, 11, 12, 5, 13] (by decide +kernel) (by decide +kernel)
set_option maxRecDepth 20000 in
theorem gX10_least_X10_isWithin : GoodIn wsX10_least (va_wsS RX10 259 yX10_isWithin wsX10_isWithin) := goodIn_app (goodIn_of _ (by decide +kernel)) ggX10_least_X10_isWithin
theorem dX10_least_0 : decode cX10_least 0 = .ok (.iload_n 1, 1) := by decide +kernel
theorem dX10_least_1 : decode cX10_least 1 = .ok (.i2l, 1) := by decide +kernel
theorem dX10_least_2 : decode cX10_least 2 = .ok (.lconst 1, 1) := by decide +kernel
theorem dX10_least_3 : decode cX10_least 3 = .ok (.ldc2_w 257, 3) := by decide +kernel
theorem dX10_least_6 : decode cX10_least 6 = .ok (.invokestatic 94, 3) := by decide +kernel
theorem dX10_least_9 : decode cX10_least 9 = .ok (.ifCond .eq 24, 3) := by decide +kernel
theorem dX10_least_12 : decode cX10_least 12 = .ok (.iload_n 2, 1) := by decide +kernel
theorem dX10_least_13 : decode cX10_least 13 = .ok (.i2l, 1) := by decide +kernel
theorem dX10_least_14 : decode cX10_least 14 = .ok (.lconst 1, 1) := by decide +kernel
theorem dX10_least_15 : decode cX10_least 15 = .ok (.ldc2_w 257, 3) := by decide +kernel
theorem dX10_least_18 : decode cX10_least 18 = .ok (.invokestatic 94, 3) := by decide +kernel
theorem dX10_least_21 : decode cX10_least 21 = .ok (.ifCond .eq 12, 3) := by decide +kernel
theorem dX10_least_24 : decode cX10_least 24 = .ok (.iload_n 3, 1) := by decide +kernel
theorem dX10_least_25 : decode cX10_least 25 = .ok (.iload 4, 2) := by decide +kernel
theorem dX10_least_27 : decode cX10_least 27 = .ok (.invokestatic 211, 3) := by decide +kernel
theorem dX10_least_30 : decode cX10_least 30 = .ok (.ifCond .ne 6, 3) := by decide +kernel
theorem dX10_least_33 : decode cX10_least 33 = .ok (.bipush (-3), 2) := by decide +kernel
theorem dX10_least_35 : decode cX10_least 35 = .ok (.ireturn, 1) := by decide +kernel
theorem dX10_least_36 : decode cX10_least 36 = .ok (.iconst (-1), 1) := by decide +kernel
theorem dX10_least_37 : decode cX10_least 37 = .ok (.istore 5, 2) := by decide +kernel
theorem dX10_least_39 : decode cX10_least 39 = .ok (.ldc 205, 2) := by decide +kernel
theorem dX10_least_41 : decode cX10_least 41 = .ok (.istore 6, 2) := by decide +kernel
theorem dX10_least_43 : decode cX10_least 43 = .ok (.iconst 1, 1) := by decide +kernel
theorem dX10_least_44 : decode cX10_least 44 = .ok (.istore 7, 2) := by decide +kernel
theorem dX10_least_46 : decode cX10_least 46 = .ok (.iload 7, 2) := by decide +kernel
theorem dX10_least_48 : decode cX10_least 48 = .ok (.iconst 1, 1) := by decide +kernel
theorem dX10_least_49 : decode cX10_least 49 = .ok (.iconst 1, 1) := by decide +kernel
theorem dX10_least_50 : decode cX10_least 50 = .ok (.iload_n 1, 1) := by decide +kernel
theorem dX10_least_51 : decode cX10_least 51 = .ok (.ishl, 1) := by decide +kernel
theorem dX10_least_52 : decode cX10_least 52 = .ok (.ishl, 1) := by decide +kernel
theorem dX10_least_53 : decode cX10_least 53 = .ok (.if_icmp .ge 46, 3) := by decide +kernel
theorem dX10_least_56 : decode cX10_least 56 = .ok (.iload 7, 2) := by decide +kernel
theorem dX10_least_58 : decode cX10_least 58 = .ok (.invokestatic 239, 3) := by decide +kernel
theorem dX10_least_61 : decode cX10_least 61 = .ok (.istore 8, 2) := by decide +kernel
theorem dX10_least_63 : decode cX10_least 63 = .ok (.iload 8, 2) := by decide +kernel
theorem dX10_least_65 : decode cX10_least 65 = .ok (.iload 6, 2) := by decide +kernel
theorem dX10_least_67 : decode cX10_least 67 = .ok (.if_icmp .ge 26, 3) := by decide +kernel
theorem dX10_least_70 : decode cX10_least 70 = .ok (.iload_n 1, 1) := by decide +kernel
theorem dX10_least_71 : decode cX10_least 71 = .ok (.iload_n 2, 1) := by decide +kernel
theorem dX10_least_72 : decode cX10_least 72 = .ok (.iload 7, 2) := by decide +kernel
theorem dX10_least_74 : decode cX10_least 74 = .ok (.iload 8, 2) := by decide +kernel
theorem dX10_least_76 : decode cX10_least 76 = .ok (.iload_n 3, 1) := by decide +kernel
theorem dX10_least_77 : decode cX10_least 77 = .ok (.iload 4, 2) := by decide +kernel
theorem dX10_least_79 : decode cX10_least 79 = .ok (.invokestatic 259, 3) := by decide +kernel
theorem dX10_least_82 : decode cX10_least 82 = .ok (.ifCond .eq 11, 3) := by decide +kernel
theorem dX10_least_85 : decode cX10_least 85 = .ok (.iload 7, 2) := by decide +kernel
theorem dX10_least_87 : decode cX10_least 87 = .ok (.istore 5, 2) := by decide +kernel
theorem dX10_least_89 : decode cX10_least 89 = .ok (.iload 8, 2) := by decide +kernel
theorem dX10_least_91 : decode cX10_least 91 = .ok (.istore 6, 2) := by decide +kernel
theorem dX10_least_93 : decode cX10_least 93 = .ok (.iinc 7 1, 3) := by decide +kernel
theorem dX10_least_96 : decode cX10_least 96 = .ok (.goto (-50), 3) := by decide +kernel
theorem dX10_least_99 : decode cX10_least 99 = .ok (.iload 5, 2) := by decide +kernel
theorem dX10_least_101 : decode cX10_least 101 = .ok (.ireturn, 1) := by decide +kernel
set_option maxRecDepth 20000 in
theorem ggX10_isWithin_X10_bits : GoodIn wsX10_isWithin wsX10_bits := goodIn_r _ [4] (by decide +kernel) (by decide +kernel)
set_option maxRecDepth 20000 in
theorem gX10_isWithin_X10_bits : GoodIn wsX10_isWithin (va_wsS RX10 239 yX10_bits wsX10_bits) := goodIn_app (goodIn_of _ (by decide +kernel)) ggX10_isWithin_X10_bits
theorem dX10_isWithin_0 : decode cX10_isWithin 0 = .ok (.iconst 1, 1) := by decide +kernel
theorem dX10_isWithin_1 : decode cX10_isWithin 1 = .ok (.istore 6, 2) := by decide +kernel
theorem dX10_isWithin_3 : decode cX10_isWithin 3 = .ok (.iload 6, 2) := by decide +kernel
theorem dX10_isWithin_5 : decode cX10_isWithin 5 = .ok (.iconst 1, 1) := by decide +kernel
theorem dX10_isWithin_6 : decode cX10_isWithin 6 = .ok (.iload_n 0, 1) := by decide +kernel
theorem dX10_isWithin_7 : decode cX10_isWithin 7 = .ok (.ishl, 1) := by decide +kernel
theorem dX10_isWithin_8 : decode cX10_isWithin 8 = .ok (.if_icmp .ge 100, 3) := by decide +kernel
theorem dX10_isWithin_11 : decode cX10_isWithin 11 = .ok (.iload 6, 2) := by decide +kernel
theorem dX10_isWithin_13 : decode cX10_isWithin 13 = .ok (.invokestatic 239, 3) := by decide +kernel
theorem dX10_isWithin_16 : decode cX10_isWithin 16 = .ok (.iload_n 1, 1) := by decide +kernel
theorem dX10_isWithin_17 : decode cX10_isWithin 17 = .ok (.if_icmp .gt 85, 3) := by decide +kernel
theorem dX10_isWithin_20 : decode cX10_isWithin 20 = .ok (.iconst 0, 1) := by decide +kernel
theorem dX10_isWithin_21 : decode cX10_isWithin 21 = .ok (.istore 7, 2) := by decide +kernel
theorem dX10_isWithin_23 : decode cX10_isWithin 23 = .ok (.iconst 0, 1) := by decide +kernel
theorem dX10_isWithin_24 : decode cX10_isWithin 24 = .ok (.istore 8, 2) := by decide +kernel
theorem dX10_isWithin_26 : decode cX10_isWithin 26 = .ok (.iload 8, 2) := by decide +kernel
theorem dX10_isWithin_28 : decode cX10_isWithin 28 = .ok (.iconst 1, 1) := by decide +kernel
theorem dX10_isWithin_29 : decode cX10_isWithin 29 = .ok (.iload_n 0, 1) := by decide +kernel
theorem dX10_isWithin_30 : decode cX10_isWithin 30 = .ok (.ishl, 1) := by decide +kernel
theorem dX10_isWithin_31 : decode cX10_isWithin 31 = .ok (.if_icmp .ge 46, 3) := by decide +kernel
theorem dX10_isWithin_34 : decode cX10_isWithin 34 = .ok (.iload 7, 2) := by decide +kernel
theorem dX10_isWithin_36 : decode cX10_isWithin 36 = .ok (.iload_n 2, 1) := by decide +kernel
theorem dX10_isWithin_37 : decode cX10_isWithin 37 = .ok (.iload 8, 2) := by decide +kernel
theorem dX10_isWithin_39 : decode cX10_isWithin 39 = .ok (.ishr, 1) := by decide +kernel
theorem dX10_isWithin_40 : decode cX10_isWithin 40 = .ok (.iconst 1, 1) := by decide +kernel
theorem dX10_isWithin_41 : decode cX10_isWithin 41 = .ok (.iand, 1) := by decide +kernel
theorem dX10_isWithin_42 : decode cX10_isWithin 42 = .ok (.ifCond .ne 7, 3) := by decide +kernel
theorem dX10_isWithin_45 : decode cX10_isWithin 45 = .ok (.iconst 0, 1) := by decide +kernel
theorem dX10_isWithin_46 : decode cX10_isWithin 46 = .ok (.goto 22, 3) := by decide +kernel
theorem dX10_isWithin_49 : decode cX10_isWithin 49 = .ok (.iload 8, 2) := by decide +kernel
theorem dX10_isWithin_51 : decode cX10_isWithin 51 = .ok (.iload 6, 2) := by decide +kernel
theorem dX10_isWithin_53 : decode cX10_isWithin 53 = .ok (.iand, 1) := by decide +kernel
theorem dX10_isWithin_54 : decode cX10_isWithin 54 = .ok (.invokestatic 239, 3) := by decide +kernel
theorem dX10_isWithin_57 : decode cX10_isWithin 57 = .ok (.iconst 2, 1) := by decide +kernel
theorem dX10_isWithin_58 : decode cX10_isWithin 58 = .ok (.irem, 1) := by decide +kernel
theorem dX10_isWithin_59 : decode cX10_isWithin 59 = .ok (.iconst 1, 1) := by decide +kernel
theorem dX10_isWithin_60 : decode cX10_isWithin 60 = .ok (.if_icmp .ne 7, 3) := by decide +kernel
theorem dX10_isWithin_63 : decode cX10_isWithin 63 = .ok (.iconst 1, 1) := by decide +kernel
theorem dX10_isWithin_64 : decode cX10_isWithin 64 = .ok (.goto 4, 3) := by decide +kernel
theorem dX10_isWithin_67 : decode cX10_isWithin 67 = .ok (.iconst (-1), 1) := by decide +kernel
theorem dX10_isWithin_68 : decode cX10_isWithin 68 = .ok (.iadd, 1) := by decide +kernel
theorem dX10_isWithin_69 : decode cX10_isWithin 69 = .ok (.istore 7, 2) := by decide +kernel
theorem dX10_isWithin_71 : decode cX10_isWithin 71 = .ok (.iinc 8 1, 3) := by decide +kernel
theorem dX10_isWithin_74 : decode cX10_isWithin 74 = .ok (.goto (-48), 3) := by decide +kernel
theorem dX10_isWithin_77 : decode cX10_isWithin 77 = .ok (.iload 7, 2) := by decide +kernel
theorem dX10_isWithin_79 : decode cX10_isWithin 79 = .ok (.ifCond .ge 9, 3) := by decide +kernel
theorem dX10_isWithin_82 : decode cX10_isWithin 82 = .ok (.iload 7, 2) := by decide +kernel
theorem dX10_isWithin_84 : decode cX10_isWithin 84 = .ok (.ineg, 1) := by decide +kernel
theorem dX10_isWithin_85 : decode cX10_isWithin 85 = .ok (.goto 5, 3) := by decide +kernel
theorem dX10_isWithin_88 : decode cX10_isWithin 88 = .ok (.iload 7, 2) := by decide +kernel
theorem dX10_isWithin_90 : decode cX10_isWithin 90 = .ok (.iload 5, 2) := by decide +kernel
theorem dX10_isWithin_92 : decode cX10_isWithin 92 = .ok (.imul, 1) := by decide +kernel
theorem dX10_isWithin_93 : decode cX10_isWithin 93 = .ok (.iload 4, 2) := by decide +kernel
theorem dX10_isWithin_95 : decode cX10_isWithin 95 = .ok (.iload_n 3, 1) := by decide +kernel
theorem dX10_isWithin_96 : decode cX10_isWithin 96 = .ok (.imul, 1) := by decide +kernel
theorem dX10_isWithin_97 : decode cX10_isWithin 97 = .ok (.if_icmp .le 5, 3) := by decide +kernel
theorem dX10_isWithin_100 : decode cX10_isWithin 100 = .ok (.iconst 0, 1) := by decide +kernel
theorem dX10_isWithin_101 : decode cX10_isWithin 101 = .ok (.ireturn, 1) := by decide +kernel
theorem dX10_isWithin_102 : decode cX10_isWithin 102 = .ok (.iinc 6 1, 3) := by decide +kernel
theorem dX10_isWithin_105 : decode cX10_isWithin 105 = .ok (.goto (-102), 3) := by decide +kernel
theorem dX10_isWithin_108 : decode cX10_isWithin 108 = .ok (.iconst 1, 1) := by decide +kernel
theorem dX10_isWithin_109 : decode cX10_isWithin 109 = .ok (.ireturn, 1) := by decide +kernel
set_option maxRecDepth 20000 in
theorem ggX10_walks_X10_areKnots : GoodIn wsX10_walks wsX10_areKnots := goodIn_r _ [13, 14, 15, 16, 12, 17, 18, 19, 20, 21, 22, 23, 24, 25, 26, 27, 28, 29, 30, 31, 32, 33, 34, 35, 36, 37, 38, 39, 40, 41, 42, 43, 44, 45, 46, 47, 48, 49, 50, 51, 52, 53, 54, 55, 56] (by decide +kernel) (by decide +kernel)
set_option maxRecDepth 20000 in
theorem gX10_walks_X10_areKnots : GoodIn wsX10_walks (wsV RX10 236 RX10 yX10_areKnots wsX10_areKnots) := goodIn_app (goodIn_of _ (by decide +kernel)) ggX10_walks_X10_areKnots
set_option maxRecDepth 20000 in
theorem ggX10_walks_X10_in : GoodIn wsX10_walks wsX10_in := goodIn_r _ [17] (by decide +kernel) (by decide +kernel)
set_option maxRecDepth 20000 in
theorem gX10_walks_X10_in : GoodIn wsX10_walks (va_wsS RX10 94 yX10_in wsX10_in) := goodIn_app (goodIn_of _ (by decide +kernel)) ggX10_walks_X10_in
theorem dX10_walks_0 : decode cX10_walks 0 = .ok (.aload_n 0, 1) := by decide +kernel
theorem dX10_walks_1 : decode cX10_walks 1 = .ok (.iload_n 1, 1) := by decide +kernel
theorem dX10_walks_2 : decode cX10_walks 2 = .ok (.invokevirtual 236, 3) := by decide +kernel
theorem dX10_walks_5 : decode cX10_walks 5 = .ok (.ifCond .eq 15, 3) := by decide +kernel
theorem dX10_walks_8 : decode cX10_walks 8 = .ok (.iload_n 2, 1) := by decide +kernel
theorem dX10_walks_9 : decode cX10_walks 9 = .ok (.i2l, 1) := by decide +kernel
theorem dX10_walks_10 : decode cX10_walks 10 = .ok (.lconst 0, 1) := by decide +kernel
theorem dX10_walks_11 : decode cX10_walks 11 = .ok (.ldc2_w 92, 3) := by decide +kernel
theorem dX10_walks_14 : decode cX10_walks 14 = .ok (.invokestatic 94, 3) := by decide +kernel
theorem dX10_walks_17 : decode cX10_walks 17 = .ok (.ifCond .ne 6, 3) := by decide +kernel
theorem dX10_walks_20 : decode cX10_walks 20 = .ok (.bipush (-3), 2) := by decide +kernel
theorem dX10_walks_22 : decode cX10_walks 22 = .ok (.ireturn, 1) := by decide +kernel
theorem dX10_walks_23 : decode cX10_walks 23 = .ok (.iconst 0, 1) := by decide +kernel
theorem dX10_walks_24 : decode cX10_walks 24 = .ok (.istore_n 3, 1) := by decide +kernel
theorem dX10_walks_25 : decode cX10_walks 25 = .ok (.iload_n 3, 1) := by decide +kernel
theorem dX10_walks_26 : decode cX10_walks 26 = .ok (.bipush 8, 2) := by decide +kernel
theorem dX10_walks_28 : decode cX10_walks 28 = .ok (.if_icmp .ge 21, 3) := by decide +kernel
theorem dX10_walks_31 : decode cX10_walks 31 = .ok (.aload_n 0, 1) := by decide +kernel
theorem dX10_walks_32 : decode cX10_walks 32 = .ok (.getfield 81, 3) := by decide +kernel
theorem dX10_walks_35 : decode cX10_walks 35 = .ok (.iload_n 3, 1) := by decide +kernel
theorem dX10_walks_36 : decode cX10_walks 36 = .ok (.iload_n 1, 1) := by decide +kernel
theorem dX10_walks_37 : decode cX10_walks 37 = .ok (.iload_n 3, 1) := by decide +kernel
theorem dX10_walks_38 : decode cX10_walks 38 = .ok (.ishr, 1) := by decide +kernel
theorem dX10_walks_39 : decode cX10_walks 39 = .ok (.iconst 1, 1) := by decide +kernel
theorem dX10_walks_40 : decode cX10_walks 40 = .ok (.iand, 1) := by decide +kernel
theorem dX10_walks_41 : decode cX10_walks 41 = .ok (.i2l, 1) := by decide +kernel
theorem dX10_walks_42 : decode cX10_walks 42 = .ok (.lastore, 1) := by decide +kernel
theorem dX10_walks_43 : decode cX10_walks 43 = .ok (.iinc 3 1, 3) := by decide +kernel
theorem dX10_walks_46 : decode cX10_walks 46 = .ok (.goto (-21), 3) := by decide +kernel
theorem dX10_walks_49 : decode cX10_walks 49 = .ok (.iconst 0, 1) := by decide +kernel
theorem dX10_walks_50 : decode cX10_walks 50 = .ok (.istore_n 3, 1) := by decide +kernel
theorem dX10_walks_51 : decode cX10_walks 51 = .ok (.iload_n 3, 1) := by decide +kernel
theorem dX10_walks_52 : decode cX10_walks 52 = .ok (.iload_n 2, 1) := by decide +kernel
theorem dX10_walks_53 : decode cX10_walks 53 = .ok (.if_icmp .ge 190, 3) := by decide +kernel
theorem dX10_walks_56 : decode cX10_walks 56 = .ok (.iconst 0, 1) := by decide +kernel
theorem dX10_walks_57 : decode cX10_walks 57 = .ok (.istore 4, 2) := by decide +kernel
theorem dX10_walks_59 : decode cX10_walks 59 = .ok (.iload 4, 2) := by decide +kernel
theorem dX10_walks_61 : decode cX10_walks 61 = .ok (.bipush 8, 2) := by decide +kernel
theorem dX10_walks_63 : decode cX10_walks 63 = .ok (.if_icmp .ge 17, 3) := by decide +kernel
theorem dX10_walks_66 : decode cX10_walks 66 = .ok (.aload_n 0, 1) := by decide +kernel
theorem dX10_walks_67 : decode cX10_walks 67 = .ok (.getfield 85, 3) := by decide +kernel
theorem dX10_walks_70 : decode cX10_walks 70 = .ok (.iload 4, 2) := by decide +kernel
theorem dX10_walks_72 : decode cX10_walks 72 = .ok (.lconst 0, 1) := by decide +kernel
theorem dX10_walks_73 : decode cX10_walks 73 = .ok (.lastore, 1) := by decide +kernel
theorem dX10_walks_74 : decode cX10_walks 74 = .ok (.iinc 4 1, 3) := by decide +kernel
theorem dX10_walks_77 : decode cX10_walks 77 = .ok (.goto (-18), 3) := by decide +kernel
theorem dX10_walks_80 : decode cX10_walks 80 = .ok (.iconst 0, 1) := by decide +kernel
theorem dX10_walks_81 : decode cX10_walks 81 = .ok (.istore 4, 2) := by decide +kernel
theorem dX10_walks_83 : decode cX10_walks 83 = .ok (.iload 4, 2) := by decide +kernel
theorem dX10_walks_85 : decode cX10_walks 85 = .ok (.aload_n 0, 1) := by decide +kernel
theorem dX10_walks_86 : decode cX10_walks 86 = .ok (.getfield 222, 3) := by decide +kernel
theorem dX10_walks_89 : decode cX10_walks 89 = .ok (.if_icmp .ge 118, 3) := by decide +kernel
theorem dX10_walks_92 : decode cX10_walks 92 = .ok (.iload_n 1, 1) := by decide +kernel
theorem dX10_walks_93 : decode cX10_walks 93 = .ok (.aload_n 0, 1) := by decide +kernel
theorem dX10_walks_94 : decode cX10_walks 94 = .ok (.getfield 38, 3) := by decide +kernel
theorem dX10_walks_97 : decode cX10_walks 97 = .ok (.iload 4, 2) := by decide +kernel
theorem dX10_walks_99 : decode cX10_walks 99 = .ok (.iaload, 1) := by decide +kernel
theorem dX10_walks_100 : decode cX10_walks 100 = .ok (.ishr, 1) := by decide +kernel
theorem dX10_walks_101 : decode cX10_walks 101 = .ok (.iconst 1, 1) := by decide +kernel
theorem dX10_walks_102 : decode cX10_walks 102 = .ok (.iand, 1) := by decide +kernel
theorem dX10_walks_103 : decode cX10_walks 103 = .ok (.iconst 1, 1) := by decide +kernel
theorem dX10_walks_104 : decode cX10_walks 104 = .ok (.if_icmp .ne 22, 3) := by decide +kernel
theorem dX10_walks_107 : decode cX10_walks 107 = .ok (.iload_n 1, 1) := by decide +kernel
theorem dX10_walks_108 : decode cX10_walks 108 = .ok (.aload_n 0, 1) := by decide +kernel
theorem dX10_walks_109 : decode cX10_walks 109 = .ok (.getfield 41, 3) := by decide +kernel
theorem dX10_walks_112 : decode cX10_walks 112 = .ok (.iload 4, 2) := by decide +kernel
theorem dX10_walks_114 : decode cX10_walks 114 = .ok (.iaload, 1) := by decide +kernel
theorem dX10_walks_115 : decode cX10_walks 115 = .ok (.ishr, 1) := by decide +kernel
theorem dX10_walks_116 : decode cX10_walks 116 = .ok (.iconst 1, 1) := by decide +kernel
theorem dX10_walks_117 : decode cX10_walks 117 = .ok (.iand, 1) := by decide +kernel
theorem dX10_walks_118 : decode cX10_walks 118 = .ok (.iconst 1, 1) := by decide +kernel
theorem dX10_walks_119 : decode cX10_walks 119 = .ok (.if_icmp .ne 7, 3) := by decide +kernel
theorem dX10_walks_122 : decode cX10_walks 122 = .ok (.iconst 1, 1) := by decide +kernel
theorem dX10_walks_123 : decode cX10_walks 123 = .ok (.goto 4, 3) := by decide +kernel
theorem dX10_walks_126 : decode cX10_walks 126 = .ok (.iconst 0, 1) := by decide +kernel
theorem dX10_walks_127 : decode cX10_walks 127 = .ok (.istore 5, 2) := by decide +kernel
theorem dX10_walks_129 : decode cX10_walks 129 = .ok (.aload_n 0, 1) := by decide +kernel
theorem dX10_walks_130 : decode cX10_walks 130 = .ok (.getfield 85, 3) := by decide +kernel
theorem dX10_walks_133 : decode cX10_walks 133 = .ok (.aload_n 0, 1) := by decide +kernel
theorem dX10_walks_134 : decode cX10_walks 134 = .ok (.getfield 38, 3) := by decide +kernel
theorem dX10_walks_137 : decode cX10_walks 137 = .ok (.iload 4, 2) := by decide +kernel
theorem dX10_walks_139 : decode cX10_walks 139 = .ok (.iaload, 1) := by decide +kernel
theorem dX10_walks_140 : decode cX10_walks 140 = .ok (.dup2, 1) := by decide +kernel
theorem dX10_walks_141 : decode cX10_walks 141 = .ok (.laload, 1) := by decide +kernel
theorem dX10_walks_142 : decode cX10_walks 142 = .ok (.iload 5, 2) := by decide +kernel
theorem dX10_walks_144 : decode cX10_walks 144 = .ok (.ifCond .eq 18, 3) := by decide +kernel
theorem dX10_walks_147 : decode cX10_walks 147 = .ok (.aload_n 0, 1) := by decide +kernel
theorem dX10_walks_148 : decode cX10_walks 148 = .ok (.getfield 81, 3) := by decide +kernel
theorem dX10_walks_151 : decode cX10_walks 151 = .ok (.aload_n 0, 1) := by decide +kernel
theorem dX10_walks_152 : decode cX10_walks 152 = .ok (.getfield 41, 3) := by decide +kernel
theorem dX10_walks_155 : decode cX10_walks 155 = .ok (.iload 4, 2) := by decide +kernel
theorem dX10_walks_157 : decode cX10_walks 157 = .ok (.iaload, 1) := by decide +kernel
theorem dX10_walks_158 : decode cX10_walks 158 = .ok (.laload, 1) := by decide +kernel
theorem dX10_walks_159 : decode cX10_walks 159 = .ok (.goto 4, 3) := by decide +kernel
theorem dX10_walks_162 : decode cX10_walks 162 = .ok (.lconst 0, 1) := by decide +kernel
theorem dX10_walks_163 : decode cX10_walks 163 = .ok (.ladd, 1) := by decide +kernel
theorem dX10_walks_164 : decode cX10_walks 164 = .ok (.lastore, 1) := by decide +kernel
theorem dX10_walks_165 : decode cX10_walks 165 = .ok (.aload_n 0, 1) := by decide +kernel
theorem dX10_walks_166 : decode cX10_walks 166 = .ok (.getfield 85, 3) := by decide +kernel
theorem dX10_walks_169 : decode cX10_walks 169 = .ok (.aload_n 0, 1) := by decide +kernel
theorem dX10_walks_170 : decode cX10_walks 170 = .ok (.getfield 41, 3) := by decide +kernel
theorem dX10_walks_173 : decode cX10_walks 173 = .ok (.iload 4, 2) := by decide +kernel
theorem dX10_walks_175 : decode cX10_walks 175 = .ok (.iaload, 1) := by decide +kernel
theorem dX10_walks_176 : decode cX10_walks 176 = .ok (.dup2, 1) := by decide +kernel
theorem dX10_walks_177 : decode cX10_walks 177 = .ok (.laload, 1) := by decide +kernel
theorem dX10_walks_178 : decode cX10_walks 178 = .ok (.iload 5, 2) := by decide +kernel
theorem dX10_walks_180 : decode cX10_walks 180 = .ok (.ifCond .eq 18, 3) := by decide +kernel
theorem dX10_walks_183 : decode cX10_walks 183 = .ok (.aload_n 0, 1) := by decide +kernel
theorem dX10_walks_184 : decode cX10_walks 184 = .ok (.getfield 81, 3) := by decide +kernel
theorem dX10_walks_187 : decode cX10_walks 187 = .ok (.aload_n 0, 1) := by decide +kernel
theorem dX10_walks_188 : decode cX10_walks 188 = .ok (.getfield 38, 3) := by decide +kernel
theorem dX10_walks_191 : decode cX10_walks 191 = .ok (.iload 4, 2) := by decide +kernel
theorem dX10_walks_193 : decode cX10_walks 193 = .ok (.iaload, 1) := by decide +kernel
theorem dX10_walks_194 : decode cX10_walks 194 = .ok (.laload, 1) := by decide +kernel
theorem dX10_walks_195 : decode cX10_walks 195 = .ok (.goto 4, 3) := by decide +kernel
theorem dX10_walks_198 : decode cX10_walks 198 = .ok (.lconst 0, 1) := by decide +kernel
theorem dX10_walks_199 : decode cX10_walks 199 = .ok (.ladd, 1) := by decide +kernel
theorem dX10_walks_200 : decode cX10_walks 200 = .ok (.lastore, 1) := by decide +kernel
theorem dX10_walks_201 : decode cX10_walks 201 = .ok (.iinc 4 1, 3) := by decide +kernel
theorem dX10_walks_204 : decode cX10_walks 204 = .ok (.goto (-121), 3) := by decide +kernel
theorem dX10_walks_207 : decode cX10_walks 207 = .ok (.iconst 0, 1) := by decide +kernel
theorem dX10_walks_208 : decode cX10_walks 208 = .ok (.istore 4, 2) := by decide +kernel
theorem dX10_walks_210 : decode cX10_walks 210 = .ok (.iload 4, 2) := by decide +kernel
theorem dX10_walks_212 : decode cX10_walks 212 = .ok (.bipush 8, 2) := by decide +kernel
theorem dX10_walks_214 : decode cX10_walks 214 = .ok (.if_icmp .ge 23, 3) := by decide +kernel
theorem dX10_walks_217 : decode cX10_walks 217 = .ok (.aload_n 0, 1) := by decide +kernel
theorem dX10_walks_218 : decode cX10_walks 218 = .ok (.getfield 81, 3) := by decide +kernel
theorem dX10_walks_221 : decode cX10_walks 221 = .ok (.iload 4, 2) := by decide +kernel
theorem dX10_walks_223 : decode cX10_walks 223 = .ok (.aload_n 0, 1) := by decide +kernel
theorem dX10_walks_224 : decode cX10_walks 224 = .ok (.getfield 85, 3) := by decide +kernel
theorem dX10_walks_227 : decode cX10_walks 227 = .ok (.iload 4, 2) := by decide +kernel
theorem dX10_walks_229 : decode cX10_walks 229 = .ok (.laload, 1) := by decide +kernel
theorem dX10_walks_230 : decode cX10_walks 230 = .ok (.lastore, 1) := by decide +kernel
theorem dX10_walks_231 : decode cX10_walks 231 = .ok (.iinc 4 1, 3) := by decide +kernel
theorem dX10_walks_234 : decode cX10_walks 234 = .ok (.goto (-24), 3) := by decide +kernel
theorem dX10_walks_237 : decode cX10_walks 237 = .ok (.iinc 3 1, 3) := by decide +kernel
theorem dX10_walks_240 : decode cX10_walks 240 = .ok (.goto (-189), 3) := by decide +kernel
theorem dX10_walks_243 : decode cX10_walks 243 = .ok (.lconst 0, 1) := by decide +kernel
theorem dX10_walks_244 : decode cX10_walks 244 = .ok (.lstore_n 3, 1) := by decide +kernel
theorem dX10_walks_245 : decode cX10_walks 245 = .ok (.iconst 0, 1) := by decide +kernel
theorem dX10_walks_246 : decode cX10_walks 246 = .ok (.istore 5, 2) := by decide +kernel
theorem dX10_walks_248 : decode cX10_walks 248 = .ok (.iload 5, 2) := by decide +kernel
theorem dX10_walks_250 : decode cX10_walks 250 = .ok (.bipush 8, 2) := by decide +kernel
theorem dX10_walks_252 : decode cX10_walks 252 = .ok (.if_icmp .ge 19, 3) := by decide +kernel
theorem dX10_walks_255 : decode cX10_walks 255 = .ok (.lload_n 3, 1) := by decide +kernel
theorem dX10_walks_256 : decode cX10_walks 256 = .ok (.aload_n 0, 1) := by decide +kernel
theorem dX10_walks_257 : decode cX10_walks 257 = .ok (.getfield 81, 3) := by decide +kernel
theorem dX10_walks_260 : decode cX10_walks 260 = .ok (.iload 5, 2) := by decide +kernel
theorem dX10_walks_262 : decode cX10_walks 262 = .ok (.laload, 1) := by decide +kernel
theorem dX10_walks_263 : decode cX10_walks 263 = .ok (.ladd, 1) := by decide +kernel
theorem dX10_walks_264 : decode cX10_walks 264 = .ok (.lstore_n 3, 1) := by decide +kernel
theorem dX10_walks_265 : decode cX10_walks 265 = .ok (.iinc 5 1, 3) := by decide +kernel
theorem dX10_walks_268 : decode cX10_walks 268 = .ok (.goto (-20), 3) := by decide +kernel
theorem dX10_walks_271 : decode cX10_walks 271 = .ok (.lload_n 3, 1) := by decide +kernel
theorem dX10_walks_272 : decode cX10_walks 272 = .ok (.ldc2_w 263, 3) := by decide +kernel
theorem dX10_walks_275 : decode cX10_walks 275 = .ok (.lcmp, 1) := by decide +kernel
theorem dX10_walks_276 : decode cX10_walks 276 = .ok (.ifCond .le 9, 3) := by decide +kernel
theorem dX10_walks_279 : decode cX10_walks 279 = .ok (.ldc_w 265, 3) := by decide +kernel
theorem dX10_walks_282 : decode cX10_walks 282 = .ok (.goto 5, 3) := by decide +kernel
theorem dX10_walks_285 : decode cX10_walks 285 = .ok (.lload_n 3, 1) := by decide +kernel
theorem dX10_walks_286 : decode cX10_walks 286 = .ok (.l2i, 1) := by decide +kernel
theorem dX10_walks_287 : decode cX10_walks 287 = .ok (.ireturn, 1) := by decide +kernel
set_option maxRecDepth 20000 in
theorem ggX10_isSum_X10_in : GoodIn wsX10_isSum wsX10_in := goodIn_r _ [4] (by decide +kernel) (by decide +kernel)
set_option maxRecDepth 20000 in
theorem gX10_isSum_X10_in : GoodIn wsX10_isSum (va_wsS RX10 94 yX10_in wsX10_in) := goodIn_app (goodIn_of _ (by decide +kernel)) ggX10_isSum_X10_in
theorem dX10_isSum_0 : decode cX10_isSum 0 = .ok (.iload_n 0, 1) := by decide +kernel
theorem dX10_isSum_1 : decode cX10_isSum 1 = .ok (.i2l, 1) := by decide +kernel
theorem dX10_isSum_2 : decode cX10_isSum 2 = .ok (.lconst 0, 1) := by decide +kernel
theorem dX10_isSum_3 : decode cX10_isSum 3 = .ok (.lconst 1, 1) := by decide +kernel
theorem dX10_isSum_4 : decode cX10_isSum 4 = .ok (.invokestatic 94, 3) := by decide +kernel
theorem dX10_isSum_7 : decode cX10_isSum 7 = .ok (.ireturn, 1) := by decide +kernel
set_option maxRecDepth 20000 in
theorem ggX10_areThree_X10_in : GoodIn wsX10_areThree wsX10_in := goodIn_r _ [4] (by decide +kernel) (by decide +kernel)
set_option maxRecDepth 20000 in
theorem gX10_areThree_X10_in : GoodIn wsX10_areThree (va_wsS RX10 94 yX10_in wsX10_in) := goodIn_app (goodIn_of _ (by decide +kernel)) ggX10_areThree_X10_in
theorem dX10_areThree_0 : decode cX10_areThree 0 = .ok (.iload_n 0, 1) := by decide +kernel
theorem dX10_areThree_1 : decode cX10_areThree 1 = .ok (.i2l, 1) := by decide +kernel
theorem dX10_areThree_2 : decode cX10_areThree 2 = .ok (.lconst 0, 1) := by decide +kernel
theorem dX10_areThree_3 : decode cX10_areThree 3 = .ok (.iload_n 3, 1) := by decide +kernel
theorem dX10_areThree_4 : decode cX10_areThree 4 = .ok (.i2l, 1) := by decide +kernel
theorem dX10_areThree_5 : decode cX10_areThree 5 = .ok (.invokestatic 94, 3) := by decide +kernel
theorem dX10_areThree_8 : decode cX10_areThree 8 = .ok (.ifCond .eq 29, 3) := by decide +kernel
theorem dX10_areThree_11 : decode cX10_areThree 11 = .ok (.iload_n 1, 1) := by decide +kernel
theorem dX10_areThree_12 : decode cX10_areThree 12 = .ok (.i2l, 1) := by decide +kernel
theorem dX10_areThree_13 : decode cX10_areThree 13 = .ok (.lconst 0, 1) := by decide +kernel
theorem dX10_areThree_14 : decode cX10_areThree 14 = .ok (.iload_n 3, 1) := by decide +kernel
theorem dX10_areThree_15 : decode cX10_areThree 15 = .ok (.i2l, 1) := by decide +kernel
theorem dX10_areThree_16 : decode cX10_areThree 16 = .ok (.invokestatic 94, 3) := by decide +kernel
theorem dX10_areThree_19 : decode cX10_areThree 19 = .ok (.ifCond .eq 18, 3) := by decide +kernel
theorem dX10_areThree_22 : decode cX10_areThree 22 = .ok (.iload_n 2, 1) := by decide +kernel
theorem dX10_areThree_23 : decode cX10_areThree 23 = .ok (.i2l, 1) := by decide +kernel
theorem dX10_areThree_24 : decode cX10_areThree 24 = .ok (.lconst 0, 1) := by decide +kernel
theorem dX10_areThree_25 : decode cX10_areThree 25 = .ok (.iload_n 3, 1) := by decide +kernel
theorem dX10_areThree_26 : decode cX10_areThree 26 = .ok (.i2l, 1) := by decide +kernel
theorem dX10_areThree_27 : decode cX10_areThree 27 = .ok (.invokestatic 94, 3) := by decide +kernel
theorem dX10_areThree_30 : decode cX10_areThree 30 = .ok (.ifCond .eq 7, 3) := by decide +kernel
theorem dX10_areThree_33 : decode cX10_areThree 33 = .ok (.iconst 1, 1) := by decide +kernel
theorem dX10_areThree_34 : decode cX10_areThree 34 = .ok (.goto 4, 3) := by decide +kernel
theorem dX10_areThree_37 : decode cX10_areThree 37 = .ok (.iconst 0, 1) := by decide +kernel
theorem dX10_areThree_38 : decode cX10_areThree 38 = .ok (.ireturn, 1) := by decide +kernel
set_option maxRecDepth 20000 in
theorem ggX10_term_X10_isSum : GoodIn wsX10_term wsX10_isSum := goodIn_r _ [11, 12, 13, 10, 14] (by decide +kernel) (by decide +kernel)
set_option maxRecDepth 20000 in
theorem gX10_term_X10_isSum : GoodIn wsX10_term (va_wsS RX10 266 yX10_isSum wsX10_isSum) := goodIn_app (goodIn_of _ (by decide +kernel)) ggX10_term_X10_isSum
set_option maxRecDepth 20000 in
theorem ggX10_term_X10_in : GoodIn wsX10_term wsX10_in := goodIn_r _ [14] (by decide +kernel) (by decide +kernel)
set_option maxRecDepth 20000 in
theorem gX10_term_X10_in : GoodIn wsX10_term (va_wsS RX10 94 yX10_in wsX10_in) := goodIn_app (goodIn_of _ (by decide +kernel)) ggX10_term_X10_in
set_option maxRecDepth 20000 in
theorem ggX10_term_X10_areThree : GoodIn wsX10_term wsX10_areThree := goodIn_r _ [17, 12, 13, 10, 14] (by decide +kernel) (by decide +kernel)
set_option maxRecDepth 20000 in
theorem gX10_term_X10_areThree : GoodIn wsX10_term (va_wsS RX10 273 yX10_areThree wsX10_areThree) := goodIn_app (goodIn_of _ (by decide +kernel)) ggX10_term_X10_areThree
theorem dX10_term_0 : decode cX10_term 0 = .ok (.iload_n 1, 1) := by decide +kernel
theorem dX10_term_1 : decode cX10_term 1 = .ok (.invokestatic 266, 3) := by decide +kernel
theorem dX10_term_4 : decode cX10_term 4 = .ok (.ifCond .ne 6, 3) := by decide +kernel
theorem dX10_term_7 : decode cX10_term 7 = .ok (.bipush (-2), 2) := by decide +kernel
theorem dX10_term_9 : decode cX10_term 9 = .ok (.ireturn, 1) := by decide +kernel
theorem dX10_term_10 : decode cX10_term 10 = .ok (.iload_n 2, 1) := by decide +kernel
theorem dX10_term_11 : decode cX10_term 11 = .ok (.i2l, 1) := by decide +kernel
theorem dX10_term_12 : decode cX10_term 12 = .ok (.ldc2_w 269, 3) := by decide +kernel
theorem dX10_term_15 : decode cX10_term 15 = .ok (.ldc2_w 271, 3) := by decide +kernel
theorem dX10_term_18 : decode cX10_term 18 = .ok (.invokestatic 94, 3) := by decide +kernel
theorem dX10_term_21 : decode cX10_term 21 = .ok (.ifCond .eq 15, 3) := by decide +kernel
theorem dX10_term_24 : decode cX10_term 24 = .ok (.iload_n 3, 1) := by decide +kernel
theorem dX10_term_25 : decode cX10_term 25 = .ok (.iload 4, 2) := by decide +kernel
theorem dX10_term_27 : decode cX10_term 27 = .ok (.iload 5, 2) := by decide +kernel
theorem dX10_term_29 : decode cX10_term 29 = .ok (.iconst 3, 1) := by decide +kernel
theorem dX10_term_30 : decode cX10_term 30 = .ok (.invokestatic 273, 3) := by decide +kernel
theorem dX10_term_33 : decode cX10_term 33 = .ok (.ifCond .ne 6, 3) := by decide +kernel
theorem dX10_term_36 : decode cX10_term 36 = .ok (.bipush (-3), 2) := by decide +kernel
theorem dX10_term_38 : decode cX10_term 38 = .ok (.ireturn, 1) := by decide +kernel
theorem dX10_term_39 : decode cX10_term 39 = .ok (.aload_n 0, 1) := by decide +kernel
theorem dX10_term_40 : decode cX10_term 40 = .ok (.getfield 53, 3) := by decide +kernel
theorem dX10_term_43 : decode cX10_term 43 = .ok (.iload_n 1, 1) := by decide +kernel
theorem dX10_term_44 : decode cX10_term 44 = .ok (.iaload, 1) := by decide +kernel
theorem dX10_term_45 : decode cX10_term 45 = .ok (.bipush 6, 2) := by decide +kernel
theorem dX10_term_47 : decode cX10_term 47 = .ok (.if_icmp .ne 6, 3) := by decide +kernel
theorem dX10_term_50 : decode cX10_term 50 = .ok (.bipush (-5), 2) := by decide +kernel
theorem dX10_term_52 : decode cX10_term 52 = .ok (.ireturn, 1) := by decide +kernel
theorem dX10_term_53 : decode cX10_term 53 = .ok (.bipush 6, 2) := by decide +kernel
theorem dX10_term_55 : decode cX10_term 55 = .ok (.iload_n 1, 1) := by decide +kernel
theorem dX10_term_56 : decode cX10_term 56 = .ok (.imul, 1) := by decide +kernel
theorem dX10_term_57 : decode cX10_term 57 = .ok (.aload_n 0, 1) := by decide +kernel
theorem dX10_term_58 : decode cX10_term 58 = .ok (.getfield 53, 3) := by decide +kernel
theorem dX10_term_61 : decode cX10_term 61 = .ok (.iload_n 1, 1) := by decide +kernel
theorem dX10_term_62 : decode cX10_term 62 = .ok (.iaload, 1) := by decide +kernel
theorem dX10_term_63 : decode cX10_term 63 = .ok (.iadd, 1) := by decide +kernel
theorem dX10_term_64 : decode cX10_term 64 = .ok (.istore 6, 2) := by decide +kernel
theorem dX10_term_66 : decode cX10_term 66 = .ok (.aload_n 0, 1) := by decide +kernel
theorem dX10_term_67 : decode cX10_term 67 = .ok (.getfield 56, 3) := by decide +kernel
theorem dX10_term_70 : decode cX10_term 70 = .ok (.iload 6, 2) := by decide +kernel
theorem dX10_term_72 : decode cX10_term 72 = .ok (.iload_n 2, 1) := by decide +kernel
theorem dX10_term_73 : decode cX10_term 73 = .ok (.iastore, 1) := by decide +kernel
theorem dX10_term_74 : decode cX10_term 74 = .ok (.aload_n 0, 1) := by decide +kernel
theorem dX10_term_75 : decode cX10_term 75 = .ok (.getfield 59, 3) := by decide +kernel
theorem dX10_term_78 : decode cX10_term 78 = .ok (.iload 6, 2) := by decide +kernel
theorem dX10_term_80 : decode cX10_term 80 = .ok (.iload_n 3, 1) := by decide +kernel
theorem dX10_term_81 : decode cX10_term 81 = .ok (.iastore, 1) := by decide +kernel
theorem dX10_term_82 : decode cX10_term 82 = .ok (.aload_n 0, 1) := by decide +kernel
theorem dX10_term_83 : decode cX10_term 83 = .ok (.getfield 62, 3) := by decide +kernel
theorem dX10_term_86 : decode cX10_term 86 = .ok (.iload 6, 2) := by decide +kernel
theorem dX10_term_88 : decode cX10_term 88 = .ok (.iload 4, 2) := by decide +kernel
theorem dX10_term_90 : decode cX10_term 90 = .ok (.iastore, 1) := by decide +kernel
theorem dX10_term_91 : decode cX10_term 91 = .ok (.aload_n 0, 1) := by decide +kernel
theorem dX10_term_92 : decode cX10_term 92 = .ok (.getfield 65, 3) := by decide +kernel
theorem dX10_term_95 : decode cX10_term 95 = .ok (.iload 6, 2) := by decide +kernel
theorem dX10_term_97 : decode cX10_term 97 = .ok (.iload 5, 2) := by decide +kernel
theorem dX10_term_99 : decode cX10_term 99 = .ok (.iastore, 1) := by decide +kernel
theorem dX10_term_100 : decode cX10_term 100 = .ok (.aload_n 0, 1) := by decide +kernel
theorem dX10_term_101 : decode cX10_term 101 = .ok (.getfield 53, 3) := by decide +kernel
theorem dX10_term_104 : decode cX10_term 104 = .ok (.iload_n 1, 1) := by decide +kernel
theorem dX10_term_105 : decode cX10_term 105 = .ok (.dup2, 1) := by decide +kernel
theorem dX10_term_106 : decode cX10_term 106 = .ok (.iaload, 1) := by decide +kernel
theorem dX10_term_107 : decode cX10_term 107 = .ok (.iconst 1, 1) := by decide +kernel
theorem dX10_term_108 : decode cX10_term 108 = .ok (.iadd, 1) := by decide +kernel
theorem dX10_term_109 : decode cX10_term 109 = .ok (.iastore, 1) := by decide +kernel
theorem dX10_term_110 : decode cX10_term 110 = .ok (.aload_n 0, 1) := by decide +kernel
theorem dX10_term_111 : decode cX10_term 111 = .ok (.getfield 53, 3) := by decide +kernel
theorem dX10_term_114 : decode cX10_term 114 = .ok (.iload_n 1, 1) := by decide +kernel
theorem dX10_term_115 : decode cX10_term 115 = .ok (.iaload, 1) := by decide +kernel
theorem dX10_term_116 : decode cX10_term 116 = .ok (.ireturn, 1) := by decide +kernel
set_option maxRecDepth 20000 in
theorem ggX10_valueOf_X10_power : GoodIn wsX10_valueOf wsX10_power := goodIn_r _ [9] (by decide +kernel) (by decide +kernel)
set_option maxRecDepth 20000 in
theorem gX10_valueOf_X10_power : GoodIn wsX10_valueOf (va_wsS RX10 218 yX10_power wsX10_power) := goodIn_app (goodIn_of _ (by decide +kernel)) ggX10_valueOf_X10_power
theorem dX10_valueOf_0 : decode cX10_valueOf 0 = .ok (.lconst 0, 1) := by decide +kernel
theorem dX10_valueOf_1 : decode cX10_valueOf 1 = .ok (.lstore 5, 2) := by decide +kernel
theorem dX10_valueOf_3 : decode cX10_valueOf 3 = .ok (.bipush 6, 2) := by decide +kernel
theorem dX10_valueOf_5 : decode cX10_valueOf 5 = .ok (.iload_n 1, 1) := by decide +kernel
theorem dX10_valueOf_6 : decode cX10_valueOf 6 = .ok (.imul, 1) := by decide +kernel
theorem dX10_valueOf_7 : decode cX10_valueOf 7 = .ok (.istore 7, 2) := by decide +kernel
theorem dX10_valueOf_9 : decode cX10_valueOf 9 = .ok (.iload 7, 2) := by decide +kernel
theorem dX10_valueOf_11 : decode cX10_valueOf 11 = .ok (.bipush 6, 2) := by decide +kernel
theorem dX10_valueOf_13 : decode cX10_valueOf 13 = .ok (.iload_n 1, 1) := by decide +kernel
theorem dX10_valueOf_14 : decode cX10_valueOf 14 = .ok (.imul, 1) := by decide +kernel
theorem dX10_valueOf_15 : decode cX10_valueOf 15 = .ok (.aload_n 0, 1) := by decide +kernel
theorem dX10_valueOf_16 : decode cX10_valueOf 16 = .ok (.getfield 53, 3) := by decide +kernel
theorem dX10_valueOf_19 : decode cX10_valueOf 19 = .ok (.iload_n 1, 1) := by decide +kernel
theorem dX10_valueOf_20 : decode cX10_valueOf 20 = .ok (.iaload, 1) := by decide +kernel
theorem dX10_valueOf_21 : decode cX10_valueOf 21 = .ok (.iadd, 1) := by decide +kernel
theorem dX10_valueOf_22 : decode cX10_valueOf 22 = .ok (.if_icmp .ge 62, 3) := by decide +kernel
theorem dX10_valueOf_25 : decode cX10_valueOf 25 = .ok (.lload 5, 2) := by decide +kernel
theorem dX10_valueOf_27 : decode cX10_valueOf 27 = .ok (.aload_n 0, 1) := by decide +kernel
theorem dX10_valueOf_28 : decode cX10_valueOf 28 = .ok (.getfield 56, 3) := by decide +kernel
theorem dX10_valueOf_31 : decode cX10_valueOf 31 = .ok (.iload 7, 2) := by decide +kernel
theorem dX10_valueOf_33 : decode cX10_valueOf 33 = .ok (.iaload, 1) := by decide +kernel
theorem dX10_valueOf_34 : decode cX10_valueOf 34 = .ok (.i2l, 1) := by decide +kernel
theorem dX10_valueOf_35 : decode cX10_valueOf 35 = .ok (.iload_n 2, 1) := by decide +kernel
theorem dX10_valueOf_36 : decode cX10_valueOf 36 = .ok (.i2l, 1) := by decide +kernel
theorem dX10_valueOf_37 : decode cX10_valueOf 37 = .ok (.aload_n 0, 1) := by decide +kernel
theorem dX10_valueOf_38 : decode cX10_valueOf 38 = .ok (.getfield 59, 3) := by decide +kernel
theorem dX10_valueOf_41 : decode cX10_valueOf 41 = .ok (.iload 7, 2) := by decide +kernel
theorem dX10_valueOf_43 : decode cX10_valueOf 43 = .ok (.iaload, 1) := by decide +kernel
theorem dX10_valueOf_44 : decode cX10_valueOf 44 = .ok (.invokestatic 218, 3) := by decide +kernel
theorem dX10_valueOf_47 : decode cX10_valueOf 47 = .ok (.lmul, 1) := by decide +kernel
theorem dX10_valueOf_48 : decode cX10_valueOf 48 = .ok (.iload_n 3, 1) := by decide +kernel
theorem dX10_valueOf_49 : decode cX10_valueOf 49 = .ok (.i2l, 1) := by decide +kernel
theorem dX10_valueOf_50 : decode cX10_valueOf 50 = .ok (.aload_n 0, 1) := by decide +kernel
theorem dX10_valueOf_51 : decode cX10_valueOf 51 = .ok (.getfield 62, 3) := by decide +kernel
theorem dX10_valueOf_54 : decode cX10_valueOf 54 = .ok (.iload 7, 2) := by decide +kernel
theorem dX10_valueOf_56 : decode cX10_valueOf 56 = .ok (.iaload, 1) := by decide +kernel
theorem dX10_valueOf_57 : decode cX10_valueOf 57 = .ok (.invokestatic 218, 3) := by decide +kernel
theorem dX10_valueOf_60 : decode cX10_valueOf 60 = .ok (.lmul, 1) := by decide +kernel
theorem dX10_valueOf_61 : decode cX10_valueOf 61 = .ok (.iload 4, 2) := by decide +kernel
theorem dX10_valueOf_63 : decode cX10_valueOf 63 = .ok (.i2l, 1) := by decide +kernel
theorem dX10_valueOf_64 : decode cX10_valueOf 64 = .ok (.aload_n 0, 1) := by decide +kernel
theorem dX10_valueOf_65 : decode cX10_valueOf 65 = .ok (.getfield 65, 3) := by decide +kernel
theorem dX10_valueOf_68 : decode cX10_valueOf 68 = .ok (.iload 7, 2) := by decide +kernel
theorem dX10_valueOf_70 : decode cX10_valueOf 70 = .ok (.iaload, 1) := by decide +kernel
theorem dX10_valueOf_71 : decode cX10_valueOf 71 = .ok (.invokestatic 218, 3) := by decide +kernel
theorem dX10_valueOf_74 : decode cX10_valueOf 74 = .ok (.lmul, 1) := by decide +kernel
theorem dX10_valueOf_75 : decode cX10_valueOf 75 = .ok (.ladd, 1) := by decide +kernel
theorem dX10_valueOf_76 : decode cX10_valueOf 76 = .ok (.lstore 5, 2) := by decide +kernel
theorem dX10_valueOf_78 : decode cX10_valueOf 78 = .ok (.iinc 7 1, 3) := by decide +kernel
theorem dX10_valueOf_81 : decode cX10_valueOf 81 = .ok (.goto (-72), 3) := by decide +kernel
theorem dX10_valueOf_84 : decode cX10_valueOf 84 = .ok (.lload 5, 2) := by decide +kernel
theorem dX10_valueOf_86 : decode cX10_valueOf 86 = .ok (.lreturn, 1) := by decide +kernel
set_option maxRecDepth 20000 in
theorem ggX10_value_X10_isSum : GoodIn wsX10_value wsX10_isSum := goodIn_r _ [5, 6, 7, 4, 8] (by decide +kernel) (by decide +kernel)
set_option maxRecDepth 20000 in
theorem gX10_value_X10_isSum : GoodIn wsX10_value (va_wsS RX10 266 yX10_isSum wsX10_isSum) := goodIn_app (goodIn_of _ (by decide +kernel)) ggX10_value_X10_isSum
set_option maxRecDepth 20000 in
theorem ggX10_value_X10_areThree : GoodIn wsX10_value wsX10_areThree := goodIn_r _ [11, 6, 7, 4, 8] (by decide +kernel) (by decide +kernel)
set_option maxRecDepth 20000 in
theorem gX10_value_X10_areThree : GoodIn wsX10_value (va_wsS RX10 273 yX10_areThree wsX10_areThree) := goodIn_app (goodIn_of _ (by decide +kernel)) ggX10_value_X10_areThree
set_option maxRecDepth 20000 in
theorem ggX10_value_X10_valueOf : GoodIn wsX10_value wsX10_valueOf := goodIn_r _ [15, 16, 17, 18, 19, 20, 21, 22, 4, 23, 24, 25, 26, 27, 28, 29, 30, 31, 32, 33, 34, 35, 36, 37, 38, 39, 40, 41, 42, 43, 44, 45, 46, 47, 48, 49, 50, 51, 52, 53, 54, 55, 56, 57, 58, 59, 60, 61, 62] (by decide +kernel) (by decide +kernel)
set_option maxRecDepth 20000 in
theorem gX10_value_X10_valueOf : GoodIn wsX10_value (wsV RX10 277 RX10 yX10_valueOf wsX10_valueOf) := goodIn_app (goodIn_of _ (by decide +kernel)) ggX10_value_X10_valueOf
theorem dX10_value_0 : decode cX10_value 0 = .ok (.iload_n 1, 1) := by decide +kernel
theorem dX10_value_1 : decode cX10_value 1 = .ok (.invokestatic 266, 3) := by decide +kernel
theorem dX10_value_4 : decode cX10_value 4 = .ok (.ifCond .eq 27, 3) := by decide +kernel
theorem dX10_value_7 : decode cX10_value 7 = .ok (.iload_n 2, 1) := by decide +kernel
theorem dX10_value_8 : decode cX10_value 8 = .ok (.iload_n 3, 1) := by decide +kernel
theorem dX10_value_9 : decode cX10_value 9 = .ok (.iload 4, 2) := by decide +kernel
theorem dX10_value_11 : decode cX10_value 11 = .ok (.bipush 11, 2) := by decide +kernel
theorem dX10_value_13 : decode cX10_value 13 = .ok (.invokestatic 273, 3) := by decide +kernel
theorem dX10_value_16 : decode cX10_value 16 = .ok (.ifCond .eq 15, 3) := by decide +kernel
theorem dX10_value_19 : decode cX10_value 19 = .ok (.aload_n 0, 1) := by decide +kernel
theorem dX10_value_20 : decode cX10_value 20 = .ok (.iload_n 1, 1) := by decide +kernel
theorem dX10_value_21 : decode cX10_value 21 = .ok (.iload_n 2, 1) := by decide +kernel
theorem dX10_value_22 : decode cX10_value 22 = .ok (.iload_n 3, 1) := by decide +kernel
theorem dX10_value_23 : decode cX10_value 23 = .ok (.iload 4, 2) := by decide +kernel
theorem dX10_value_25 : decode cX10_value 25 = .ok (.invokevirtual 277, 3) := by decide +kernel
theorem dX10_value_28 : decode cX10_value 28 = .ok (.goto 6, 3) := by decide +kernel
theorem dX10_value_31 : decode cX10_value 31 = .ok (.ldc2_w 281, 3) := by decide +kernel
theorem dX10_value_34 : decode cX10_value 34 = .ok (.lreturn, 1) := by decide +kernel
set_option maxRecDepth 20000 in
theorem ggX10_degree_X10_isSum : GoodIn wsX10_degree wsX10_isSum := goodIn_r _ [9, 10, 11, 8, 12] (by decide +kernel) (by decide +kernel)
set_option maxRecDepth 20000 in
theorem gX10_degree_X10_isSum : GoodIn wsX10_degree (va_wsS RX10 266 yX10_isSum wsX10_isSum) := goodIn_app (goodIn_of _ (by decide +kernel)) ggX10_degree_X10_isSum
theorem dX10_degree_0 : decode cX10_degree 0 = .ok (.iload_n 1, 1) := by decide +kernel
theorem dX10_degree_1 : decode cX10_degree 1 = .ok (.invokestatic 266, 3) := by decide +kernel
theorem dX10_degree_4 : decode cX10_degree 4 = .ok (.ifCond .ne 6, 3) := by decide +kernel
theorem dX10_degree_7 : decode cX10_degree 7 = .ok (.bipush (-2), 2) := by decide +kernel
theorem dX10_degree_9 : decode cX10_degree 9 = .ok (.ireturn, 1) := by decide +kernel
theorem dX10_degree_10 : decode cX10_degree 10 = .ok (.iconst 0, 1) := by decide +kernel
theorem dX10_degree_11 : decode cX10_degree 11 = .ok (.istore_n 2, 1) := by decide +kernel
theorem dX10_degree_12 : decode cX10_degree 12 = .ok (.bipush 6, 2) := by decide +kernel
theorem dX10_degree_14 : decode cX10_degree 14 = .ok (.iload_n 1, 1) := by decide +kernel
theorem dX10_degree_15 : decode cX10_degree 15 = .ok (.imul, 1) := by decide +kernel
theorem dX10_degree_16 : decode cX10_degree 16 = .ok (.istore_n 3, 1) := by decide +kernel
theorem dX10_degree_17 : decode cX10_degree 17 = .ok (.iload_n 3, 1) := by decide +kernel
theorem dX10_degree_18 : decode cX10_degree 18 = .ok (.bipush 6, 2) := by decide +kernel
theorem dX10_degree_20 : decode cX10_degree 20 = .ok (.iload_n 1, 1) := by decide +kernel
theorem dX10_degree_21 : decode cX10_degree 21 = .ok (.imul, 1) := by decide +kernel
theorem dX10_degree_22 : decode cX10_degree 22 = .ok (.aload_n 0, 1) := by decide +kernel
theorem dX10_degree_23 : decode cX10_degree 23 = .ok (.getfield 53, 3) := by decide +kernel
theorem dX10_degree_26 : decode cX10_degree 26 = .ok (.iload_n 1, 1) := by decide +kernel
theorem dX10_degree_27 : decode cX10_degree 27 = .ok (.iaload, 1) := by decide +kernel
theorem dX10_degree_28 : decode cX10_degree 28 = .ok (.iadd, 1) := by decide +kernel
theorem dX10_degree_29 : decode cX10_degree 29 = .ok (.if_icmp .ge 144, 3) := by decide +kernel
theorem dX10_degree_32 : decode cX10_degree 32 = .ok (.iconst 0, 1) := by decide +kernel
theorem dX10_degree_33 : decode cX10_degree 33 = .ok (.istore 4, 2) := by decide +kernel
theorem dX10_degree_35 : decode cX10_degree 35 = .ok (.bipush 6, 2) := by decide +kernel
theorem dX10_degree_37 : decode cX10_degree 37 = .ok (.iload_n 1, 1) := by decide +kernel
theorem dX10_degree_38 : decode cX10_degree 38 = .ok (.imul, 1) := by decide +kernel
theorem dX10_degree_39 : decode cX10_degree 39 = .ok (.istore 5, 2) := by decide +kernel
theorem dX10_degree_41 : decode cX10_degree 41 = .ok (.iload 5, 2) := by decide +kernel
theorem dX10_degree_43 : decode cX10_degree 43 = .ok (.bipush 6, 2) := by decide +kernel
theorem dX10_degree_45 : decode cX10_degree 45 = .ok (.iload_n 1, 1) := by decide +kernel
theorem dX10_degree_46 : decode cX10_degree 46 = .ok (.imul, 1) := by decide +kernel
theorem dX10_degree_47 : decode cX10_degree 47 = .ok (.aload_n 0, 1) := by decide +kernel
theorem dX10_degree_48 : decode cX10_degree 48 = .ok (.getfield 53, 3) := by decide +kernel
theorem dX10_degree_51 : decode cX10_degree 51 = .ok (.iload_n 1, 1) := by decide +kernel
theorem dX10_degree_52 : decode cX10_degree 52 = .ok (.iaload, 1) := by decide +kernel
theorem dX10_degree_53 : decode cX10_degree 53 = .ok (.iadd, 1) := by decide +kernel
theorem dX10_degree_54 : decode cX10_degree 54 = .ok (.if_icmp .ge 73, 3) := by decide +kernel
theorem dX10_degree_57 : decode cX10_degree 57 = .ok (.iload 4, 2) := by decide +kernel
theorem dX10_degree_59 : decode cX10_degree 59 = .ok (.aload_n 0, 1) := by decide +kernel
theorem dX10_degree_60 : decode cX10_degree 60 = .ok (.getfield 59, 3) := by decide +kernel
theorem dX10_degree_63 : decode cX10_degree 63 = .ok (.iload 5, 2) := by decide +kernel
theorem dX10_degree_65 : decode cX10_degree 65 = .ok (.iaload, 1) := by decide +kernel
theorem dX10_degree_66 : decode cX10_degree 66 = .ok (.aload_n 0, 1) := by decide +kernel
theorem dX10_degree_67 : decode cX10_degree 67 = .ok (.getfield 59, 3) := by decide +kernel
theorem dX10_degree_70 : decode cX10_degree 70 = .ok (.iload_n 3, 1) := by decide +kernel
theorem dX10_degree_71 : decode cX10_degree 71 = .ok (.iaload, 1) := by decide +kernel
theorem dX10_degree_72 : decode cX10_degree 72 = .ok (.if_icmp .ne 45, 3) := by decide +kernel
theorem dX10_degree_75 : decode cX10_degree 75 = .ok (.aload_n 0, 1) := by decide +kernel
theorem dX10_degree_76 : decode cX10_degree 76 = .ok (.getfield 62, 3) := by decide +kernel
theorem dX10_degree_79 : decode cX10_degree 79 = .ok (.iload 5, 2) := by decide +kernel
theorem dX10_degree_81 : decode cX10_degree 81 = .ok (.iaload, 1) := by decide +kernel
theorem dX10_degree_82 : decode cX10_degree 82 = .ok (.aload_n 0, 1) := by decide +kernel
theorem dX10_degree_83 : decode cX10_degree 83 = .ok (.getfield 62, 3) := by decide +kernel
theorem dX10_degree_86 : decode cX10_degree 86 = .ok (.iload_n 3, 1) := by decide +kernel
theorem dX10_degree_87 : decode cX10_degree 87 = .ok (.iaload, 1) := by decide +kernel
theorem dX10_degree_88 : decode cX10_degree 88 = .ok (.if_icmp .ne 29, 3) := by decide +kernel
theorem dX10_degree_91 : decode cX10_degree 91 = .ok (.aload_n 0, 1) := by decide +kernel
theorem dX10_degree_92 : decode cX10_degree 92 = .ok (.getfield 65, 3) := by decide +kernel
theorem dX10_degree_95 : decode cX10_degree 95 = .ok (.iload 5, 2) := by decide +kernel
theorem dX10_degree_97 : decode cX10_degree 97 = .ok (.iaload, 1) := by decide +kernel
theorem dX10_degree_98 : decode cX10_degree 98 = .ok (.aload_n 0, 1) := by decide +kernel
theorem dX10_degree_99 : decode cX10_degree 99 = .ok (.getfield 65, 3) := by decide +kernel
theorem dX10_degree_102 : decode cX10_degree 102 = .ok (.iload_n 3, 1) := by decide +kernel
theorem dX10_degree_103 : decode cX10_degree 103 = .ok (.iaload, 1) := by decide +kernel
theorem dX10_degree_104 : decode cX10_degree 104 = .ok (.if_icmp .ne 13, 3) := by decide +kernel
theorem dX10_degree_107 : decode cX10_degree 107 = .ok (.aload_n 0, 1) := by decide +kernel
theorem dX10_degree_108 : decode cX10_degree 108 = .ok (.getfield 56, 3) := by decide +kernel
theorem dX10_degree_111 : decode cX10_degree 111 = .ok (.iload 5, 2) := by decide +kernel
theorem dX10_degree_113 : decode cX10_degree 113 = .ok (.iaload, 1) := by decide +kernel
theorem dX10_degree_114 : decode cX10_degree 114 = .ok (.goto 4, 3) := by decide +kernel
theorem dX10_degree_117 : decode cX10_degree 117 = .ok (.iconst 0, 1) := by decide +kernel
theorem dX10_degree_118 : decode cX10_degree 118 = .ok (.iadd, 1) := by decide +kernel
theorem dX10_degree_119 : decode cX10_degree 119 = .ok (.istore 4, 2) := by decide +kernel
theorem dX10_degree_121 : decode cX10_degree 121 = .ok (.iinc 5 1, 3) := by decide +kernel
theorem dX10_degree_124 : decode cX10_degree 124 = .ok (.goto (-83), 3) := by decide +kernel
theorem dX10_degree_127 : decode cX10_degree 127 = .ok (.aload_n 0, 1) := by decide +kernel
theorem dX10_degree_128 : decode cX10_degree 128 = .ok (.getfield 59, 3) := by decide +kernel
theorem dX10_degree_131 : decode cX10_degree 131 = .ok (.iload_n 3, 1) := by decide +kernel
theorem dX10_degree_132 : decode cX10_degree 132 = .ok (.iaload, 1) := by decide +kernel
theorem dX10_degree_133 : decode cX10_degree 133 = .ok (.aload_n 0, 1) := by decide +kernel
theorem dX10_degree_134 : decode cX10_degree 134 = .ok (.getfield 62, 3) := by decide +kernel
theorem dX10_degree_137 : decode cX10_degree 137 = .ok (.iload_n 3, 1) := by decide +kernel
theorem dX10_degree_138 : decode cX10_degree 138 = .ok (.iaload, 1) := by decide +kernel
theorem dX10_degree_139 : decode cX10_degree 139 = .ok (.iadd, 1) := by decide +kernel
theorem dX10_degree_140 : decode cX10_degree 140 = .ok (.aload_n 0, 1) := by decide +kernel
theorem dX10_degree_141 : decode cX10_degree 141 = .ok (.getfield 65, 3) := by decide +kernel
theorem dX10_degree_144 : decode cX10_degree 144 = .ok (.iload_n 3, 1) := by decide +kernel
theorem dX10_degree_145 : decode cX10_degree 145 = .ok (.iaload, 1) := by decide +kernel
theorem dX10_degree_146 : decode cX10_degree 146 = .ok (.iadd, 1) := by decide +kernel
theorem dX10_degree_147 : decode cX10_degree 147 = .ok (.istore 5, 2) := by decide +kernel
theorem dX10_degree_149 : decode cX10_degree 149 = .ok (.iload 4, 2) := by decide +kernel
theorem dX10_degree_151 : decode cX10_degree 151 = .ok (.ifCond .eq 14, 3) := by decide +kernel
theorem dX10_degree_154 : decode cX10_degree 154 = .ok (.iload 5, 2) := by decide +kernel
theorem dX10_degree_156 : decode cX10_degree 156 = .ok (.iload_n 2, 1) := by decide +kernel
theorem dX10_degree_157 : decode cX10_degree 157 = .ok (.if_icmp .le 8, 3) := by decide +kernel
theorem dX10_degree_160 : decode cX10_degree 160 = .ok (.iload 5, 2) := by decide +kernel
theorem dX10_degree_162 : decode cX10_degree 162 = .ok (.goto 4, 3) := by decide +kernel
theorem dX10_degree_165 : decode cX10_degree 165 = .ok (.iload_n 2, 1) := by decide +kernel
theorem dX10_degree_166 : decode cX10_degree 166 = .ok (.istore_n 2, 1) := by decide +kernel
theorem dX10_degree_167 : decode cX10_degree 167 = .ok (.iinc 3 1, 3) := by decide +kernel
theorem dX10_degree_170 : decode cX10_degree 170 = .ok (.goto (-153), 3) := by decide +kernel
theorem dX10_degree_173 : decode cX10_degree 173 = .ok (.iload_n 2, 1) := by decide +kernel
theorem dX10_degree_174 : decode cX10_degree 174 = .ok (.ireturn, 1) := by decide +kernel
set_option maxRecDepth 20000 in
theorem ggX10_same_X10_in : GoodIn wsX10_same wsX10_in := goodIn_r _ [5] (by decide +kernel) (by decide +kernel)
set_option maxRecDepth 20000 in
theorem gX10_same_X10_in : GoodIn wsX10_same (va_wsS RX10 94 yX10_in wsX10_in) := goodIn_app (goodIn_of _ (by decide +kernel)) ggX10_same_X10_in
set_option maxRecDepth 20000 in
theorem ggX10_same_X10_valueOf : GoodIn wsX10_same wsX10_valueOf := goodIn_r _ [9, 10, 11, 12, 13, 14, 15, 16, 4, 17, 18, 19, 20, 21, 22, 23, 24, 25, 26, 27, 28, 29, 30, 31, 32, 33, 34, 35, 36, 37, 38, 39, 40, 41, 42, 43, 44, 45, 46, 47, 48, 49, 50, 51, 52, 53, 54, 55, 56] (by decide +kernel) (by decide +kernel)
set_option maxRecDepth 20000 in
theorem gX10_same_X10_valueOf : GoodIn wsX10_same (wsV RX10 277 RX10 yX10_valueOf wsX10_valueOf) := goodIn_app (goodIn_of _ (by decide +kernel)) ggX10_same_X10_valueOf
theorem dX10_same_0 : decode cX10_same 0 = .ok (.iload_n 1, 1) := by decide +kernel
theorem dX10_same_1 : decode cX10_same 1 = .ok (.i2l, 1) := by decide +kernel
theorem dX10_same_2 : decode cX10_same 2 = .ok (.lconst 1, 1) := by decide +kernel
theorem dX10_same_3 : decode cX10_same 3 = .ok (.ldc2_w 283, 3) := by decide +kernel
theorem dX10_same_6 : decode cX10_same 6 = .ok (.invokestatic 94, 3) := by decide +kernel
theorem dX10_same_9 : decode cX10_same 9 = .ok (.ifCond .eq 13, 3) := by decide +kernel
theorem dX10_same_12 : decode cX10_same 12 = .ok (.iload_n 2, 1) := by decide +kernel
theorem dX10_same_13 : decode cX10_same 13 = .ok (.i2l, 1) := by decide +kernel
theorem dX10_same_14 : decode cX10_same 14 = .ok (.lconst 0, 1) := by decide +kernel
theorem dX10_same_15 : decode cX10_same 15 = .ok (.lconst 1, 1) := by decide +kernel
theorem dX10_same_16 : decode cX10_same 16 = .ok (.invokestatic 94, 3) := by decide +kernel
theorem dX10_same_19 : decode cX10_same 19 = .ok (.ifCond .ne 6, 3) := by decide +kernel
theorem dX10_same_22 : decode cX10_same 22 = .ok (.bipush (-3), 2) := by decide +kernel
theorem dX10_same_24 : decode cX10_same 24 = .ok (.ireturn, 1) := by decide +kernel
theorem dX10_same_25 : decode cX10_same 25 = .ok (.iconst 0, 1) := by decide +kernel
theorem dX10_same_26 : decode cX10_same 26 = .ok (.istore_n 3, 1) := by decide +kernel
theorem dX10_same_27 : decode cX10_same 27 = .ok (.iconst (-1), 1) := by decide +kernel
theorem dX10_same_28 : decode cX10_same 28 = .ok (.istore 4, 2) := by decide +kernel
theorem dX10_same_30 : decode cX10_same 30 = .ok (.iconst 0, 1) := by decide +kernel
theorem dX10_same_31 : decode cX10_same 31 = .ok (.istore 5, 2) := by decide +kernel
theorem dX10_same_33 : decode cX10_same 33 = .ok (.iload 5, 2) := by decide +kernel
theorem dX10_same_35 : decode cX10_same 35 = .ok (.iload_n 1, 1) := by decide +kernel
theorem dX10_same_36 : decode cX10_same 36 = .ok (.iload_n 1, 1) := by decide +kernel
theorem dX10_same_37 : decode cX10_same 37 = .ok (.imul, 1) := by decide +kernel
theorem dX10_same_38 : decode cX10_same 38 = .ok (.iload_n 1, 1) := by decide +kernel
theorem dX10_same_39 : decode cX10_same 39 = .ok (.imul, 1) := by decide +kernel
theorem dX10_same_40 : decode cX10_same 40 = .ok (.if_icmp .ge 110, 3) := by decide +kernel
theorem dX10_same_43 : decode cX10_same 43 = .ok (.iload 5, 2) := by decide +kernel
theorem dX10_same_45 : decode cX10_same 45 = .ok (.iload_n 1, 1) := by decide +kernel
theorem dX10_same_46 : decode cX10_same 46 = .ok (.iload_n 1, 1) := by decide +kernel
theorem dX10_same_47 : decode cX10_same 47 = .ok (.imul, 1) := by decide +kernel
theorem dX10_same_48 : decode cX10_same 48 = .ok (.idiv, 1) := by decide +kernel
theorem dX10_same_49 : decode cX10_same 49 = .ok (.istore 6, 2) := by decide +kernel
theorem dX10_same_51 : decode cX10_same 51 = .ok (.iload 5, 2) := by decide +kernel
theorem dX10_same_53 : decode cX10_same 53 = .ok (.iload_n 1, 1) := by decide +kernel
theorem dX10_same_54 : decode cX10_same 54 = .ok (.idiv, 1) := by decide +kernel
theorem dX10_same_55 : decode cX10_same 55 = .ok (.iload_n 1, 1) := by decide +kernel
theorem dX10_same_56 : decode cX10_same 56 = .ok (.irem, 1) := by decide +kernel
theorem dX10_same_57 : decode cX10_same 57 = .ok (.istore 7, 2) := by decide +kernel
theorem dX10_same_59 : decode cX10_same 59 = .ok (.iload 5, 2) := by decide +kernel
theorem dX10_same_61 : decode cX10_same 61 = .ok (.iload_n 1, 1) := by decide +kernel
theorem dX10_same_62 : decode cX10_same 62 = .ok (.irem, 1) := by decide +kernel
theorem dX10_same_63 : decode cX10_same 63 = .ok (.istore 8, 2) := by decide +kernel
theorem dX10_same_65 : decode cX10_same 65 = .ok (.aload_n 0, 1) := by decide +kernel
theorem dX10_same_66 : decode cX10_same 66 = .ok (.iconst 0, 1) := by decide +kernel
theorem dX10_same_67 : decode cX10_same 67 = .ok (.iload 6, 2) := by decide +kernel
theorem dX10_same_69 : decode cX10_same 69 = .ok (.iload 7, 2) := by decide +kernel
theorem dX10_same_71 : decode cX10_same 71 = .ok (.iload 8, 2) := by decide +kernel
theorem dX10_same_73 : decode cX10_same 73 = .ok (.invokevirtual 277, 3) := by decide +kernel
theorem dX10_same_76 : decode cX10_same 76 = .ok (.aload_n 0, 1) := by decide +kernel
theorem dX10_same_77 : decode cX10_same 77 = .ok (.iconst 1, 1) := by decide +kernel
theorem dX10_same_78 : decode cX10_same 78 = .ok (.iload 6, 2) := by decide +kernel
theorem dX10_same_80 : decode cX10_same 80 = .ok (.iload 7, 2) := by decide +kernel
theorem dX10_same_82 : decode cX10_same 82 = .ok (.iload 8, 2) := by decide +kernel
theorem dX10_same_84 : decode cX10_same 84 = .ok (.invokevirtual 277, 3) := by decide +kernel
theorem dX10_same_87 : decode cX10_same 87 = .ok (.lcmp, 1) := by decide +kernel
theorem dX10_same_88 : decode cX10_same 88 = .ok (.ifCond .ne 7, 3) := by decide +kernel
theorem dX10_same_91 : decode cX10_same 91 = .ok (.iconst 1, 1) := by decide +kernel
theorem dX10_same_92 : decode cX10_same 92 = .ok (.goto 4, 3) := by decide +kernel
theorem dX10_same_95 : decode cX10_same 95 = .ok (.iconst 0, 1) := by decide +kernel
theorem dX10_same_96 : decode cX10_same 96 = .ok (.istore 9, 2) := by decide +kernel
theorem dX10_same_98 : decode cX10_same 98 = .ok (.iload_n 3, 1) := by decide +kernel
theorem dX10_same_99 : decode cX10_same 99 = .ok (.iload 9, 2) := by decide +kernel
theorem dX10_same_101 : decode cX10_same 101 = .ok (.ifCond .eq 7, 3) := by decide +kernel
theorem dX10_same_104 : decode cX10_same 104 = .ok (.iconst 1, 1) := by decide +kernel
theorem dX10_same_105 : decode cX10_same 105 = .ok (.goto 4, 3) := by decide +kernel
theorem dX10_same_108 : decode cX10_same 108 = .ok (.iconst 0, 1) := by decide +kernel
theorem dX10_same_109 : decode cX10_same 109 = .ok (.iadd, 1) := by decide +kernel
theorem dX10_same_110 : decode cX10_same 110 = .ok (.istore_n 3, 1) := by decide +kernel
theorem dX10_same_111 : decode cX10_same 111 = .ok (.iload 9, 2) := by decide +kernel
theorem dX10_same_113 : decode cX10_same 113 = .ok (.ifCond .ne 27, 3) := by decide +kernel
theorem dX10_same_116 : decode cX10_same 116 = .ok (.iload 4, 2) := by decide +kernel
theorem dX10_same_118 : decode cX10_same 118 = .ok (.iconst (-1), 1) := by decide +kernel
theorem dX10_same_119 : decode cX10_same 119 = .ok (.if_icmp .ne 21, 3) := by decide +kernel
theorem dX10_same_122 : decode cX10_same 122 = .ok (.sipush 144, 3) := by decide +kernel
theorem dX10_same_125 : decode cX10_same 125 = .ok (.iload 6, 2) := by decide +kernel
theorem dX10_same_127 : decode cX10_same 127 = .ok (.imul, 1) := by decide +kernel
theorem dX10_same_128 : decode cX10_same 128 = .ok (.bipush 12, 2) := by decide +kernel
theorem dX10_same_130 : decode cX10_same 130 = .ok (.iload 7, 2) := by decide +kernel
theorem dX10_same_132 : decode cX10_same 132 = .ok (.imul, 1) := by decide +kernel
theorem dX10_same_133 : decode cX10_same 133 = .ok (.iadd, 1) := by decide +kernel
theorem dX10_same_134 : decode cX10_same 134 = .ok (.iload 8, 2) := by decide +kernel
theorem dX10_same_136 : decode cX10_same 136 = .ok (.iadd, 1) := by decide +kernel
theorem dX10_same_137 : decode cX10_same 137 = .ok (.goto 5, 3) := by decide +kernel
theorem dX10_same_140 : decode cX10_same 140 = .ok (.iload 4, 2) := by decide +kernel
theorem dX10_same_142 : decode cX10_same 142 = .ok (.istore 4, 2) := by decide +kernel
theorem dX10_same_144 : decode cX10_same 144 = .ok (.iinc 5 1, 3) := by decide +kernel
theorem dX10_same_147 : decode cX10_same 147 = .ok (.goto (-114), 3) := by decide +kernel
theorem dX10_same_150 : decode cX10_same 150 = .ok (.iload_n 2, 1) := by decide +kernel
theorem dX10_same_151 : decode cX10_same 151 = .ok (.ifCond .ne 7, 3) := by decide +kernel
theorem dX10_same_154 : decode cX10_same 154 = .ok (.iload_n 3, 1) := by decide +kernel
theorem dX10_same_155 : decode cX10_same 155 = .ok (.goto 5, 3) := by decide +kernel
theorem dX10_same_158 : decode cX10_same 158 = .ok (.iload 4, 2) := by decide +kernel
theorem dX10_same_160 : decode cX10_same 160 = .ok (.ireturn, 1) := by decide +kernel
set_option maxRecDepth 20000 in
theorem ggX10_pressed_X10_in : GoodIn wsX10_pressed wsX10_in := goodIn_r _ [5] (by decide +kernel) (by decide +kernel)
set_option maxRecDepth 20000 in
theorem gX10_pressed_X10_in : GoodIn wsX10_pressed (va_wsS RX10 94 yX10_in wsX10_in) := goodIn_app (goodIn_of _ (by decide +kernel)) ggX10_pressed_X10_in
theorem dX10_pressed_0 : decode cX10_pressed 0 = .ok (.iload_n 3, 1) := by decide +kernel
theorem dX10_pressed_1 : decode cX10_pressed 1 = .ok (.i2l, 1) := by decide +kernel
theorem dX10_pressed_2 : decode cX10_pressed 2 = .ok (.lconst 0, 1) := by decide +kernel
theorem dX10_pressed_3 : decode cX10_pressed 3 = .ok (.ldc2_w 285, 3) := by decide +kernel
theorem dX10_pressed_6 : decode cX10_pressed 6 = .ok (.invokestatic 94, 3) := by decide +kernel
theorem dX10_pressed_9 : decode cX10_pressed 9 = .ok (.ifCond .eq 9, 3) := by decide +kernel
theorem dX10_pressed_12 : decode cX10_pressed 12 = .ok (.iload 4, 2) := by decide +kernel
theorem dX10_pressed_14 : decode cX10_pressed 14 = .ok (.iconst (-1), 1) := by decide +kernel
theorem dX10_pressed_15 : decode cX10_pressed 15 = .ok (.if_icmp .ge 6, 3) := by decide +kernel
theorem dX10_pressed_18 : decode cX10_pressed 18 = .ok (.bipush (-3), 2) := by decide +kernel
theorem dX10_pressed_20 : decode cX10_pressed 20 = .ok (.ireturn, 1) := by decide +kernel
theorem dX10_pressed_21 : decode cX10_pressed 21 = .ok (.iconst 0, 1) := by decide +kernel
theorem dX10_pressed_22 : decode cX10_pressed 22 = .ok (.istore 5, 2) := by decide +kernel
theorem dX10_pressed_24 : decode cX10_pressed 24 = .ok (.iconst (-1), 1) := by decide +kernel
theorem dX10_pressed_25 : decode cX10_pressed 25 = .ok (.istore 6, 2) := by decide +kernel
theorem dX10_pressed_27 : decode cX10_pressed 27 = .ok (.iconst 0, 1) := by decide +kernel
theorem dX10_pressed_28 : decode cX10_pressed 28 = .ok (.istore 7, 2) := by decide +kernel
theorem dX10_pressed_30 : decode cX10_pressed 30 = .ok (.iload 7, 2) := by decide +kernel
theorem dX10_pressed_32 : decode cX10_pressed 32 = .ok (.iconst 1, 1) := by decide +kernel
theorem dX10_pressed_33 : decode cX10_pressed 33 = .ok (.iadd, 1) := by decide +kernel
theorem dX10_pressed_34 : decode cX10_pressed 34 = .ok (.iload_n 3, 1) := by decide +kernel
theorem dX10_pressed_35 : decode cX10_pressed 35 = .ok (.if_icmp .ge 55, 3) := by decide +kernel
theorem dX10_pressed_38 : decode cX10_pressed 38 = .ok (.lload_n 1, 1) := by decide +kernel
theorem dX10_pressed_39 : decode cX10_pressed 39 = .ok (.iload 7, 2) := by decide +kernel
theorem dX10_pressed_41 : decode cX10_pressed 41 = .ok (.lshr, 1) := by decide +kernel
theorem dX10_pressed_42 : decode cX10_pressed 42 = .ok (.lconst 1, 1) := by decide +kernel
theorem dX10_pressed_43 : decode cX10_pressed 43 = .ok (.land, 1) := by decide +kernel
theorem dX10_pressed_44 : decode cX10_pressed 44 = .ok (.l2i, 1) := by decide +kernel
theorem dX10_pressed_45 : decode cX10_pressed 45 = .ok (.istore 8, 2) := by decide +kernel
theorem dX10_pressed_47 : decode cX10_pressed 47 = .ok (.lload_n 1, 1) := by decide +kernel
theorem dX10_pressed_48 : decode cX10_pressed 48 = .ok (.iload 7, 2) := by decide +kernel
theorem dX10_pressed_50 : decode cX10_pressed 50 = .ok (.iconst 1, 1) := by decide +kernel
theorem dX10_pressed_51 : decode cX10_pressed 51 = .ok (.iadd, 1) := by decide +kernel
theorem dX10_pressed_52 : decode cX10_pressed 52 = .ok (.lshr, 1) := by decide +kernel
theorem dX10_pressed_53 : decode cX10_pressed 53 = .ok (.lconst 1, 1) := by decide +kernel
theorem dX10_pressed_54 : decode cX10_pressed 54 = .ok (.land, 1) := by decide +kernel
theorem dX10_pressed_55 : decode cX10_pressed 55 = .ok (.l2i, 1) := by decide +kernel
theorem dX10_pressed_56 : decode cX10_pressed 56 = .ok (.istore 9, 2) := by decide +kernel
theorem dX10_pressed_58 : decode cX10_pressed 58 = .ok (.iload 8, 2) := by decide +kernel
theorem dX10_pressed_60 : decode cX10_pressed 60 = .ok (.iload 9, 2) := by decide +kernel
theorem dX10_pressed_62 : decode cX10_pressed 62 = .ok (.if_icmp .eq 22, 3) := by decide +kernel
theorem dX10_pressed_65 : decode cX10_pressed 65 = .ok (.iload 5, 2) := by decide +kernel
theorem dX10_pressed_67 : decode cX10_pressed 67 = .ok (.iload 4, 2) := by decide +kernel
theorem dX10_pressed_69 : decode cX10_pressed 69 = .ok (.if_icmp .ne 8, 3) := by decide +kernel
theorem dX10_pressed_72 : decode cX10_pressed 72 = .ok (.iload 8, 2) := by decide +kernel
theorem dX10_pressed_74 : decode cX10_pressed 74 = .ok (.goto 5, 3) := by decide +kernel
theorem dX10_pressed_77 : decode cX10_pressed 77 = .ok (.iload 6, 2) := by decide +kernel
theorem dX10_pressed_79 : decode cX10_pressed 79 = .ok (.istore 6, 2) := by decide +kernel
theorem dX10_pressed_81 : decode cX10_pressed 81 = .ok (.iinc 5 1, 3) := by decide +kernel
theorem dX10_pressed_84 : decode cX10_pressed 84 = .ok (.iinc 7 2, 3) := by decide +kernel
theorem dX10_pressed_87 : decode cX10_pressed 87 = .ok (.goto (-57), 3) := by decide +kernel
theorem dX10_pressed_90 : decode cX10_pressed 90 = .ok (.iload 4, 2) := by decide +kernel
theorem dX10_pressed_92 : decode cX10_pressed 92 = .ok (.iconst (-1), 1) := by decide +kernel
theorem dX10_pressed_93 : decode cX10_pressed 93 = .ok (.if_icmp .ne 8, 3) := by decide +kernel
theorem dX10_pressed_96 : decode cX10_pressed 96 = .ok (.iload 5, 2) := by decide +kernel
theorem dX10_pressed_98 : decode cX10_pressed 98 = .ok (.goto 5, 3) := by decide +kernel
theorem dX10_pressed_101 : decode cX10_pressed 101 = .ok (.iload 6, 2) := by decide +kernel
theorem dX10_pressed_103 : decode cX10_pressed 103 = .ok (.ireturn, 1) := by decide +kernel
set_option maxRecDepth 20000 in
theorem ggX10_mixed_X10_in : GoodIn wsX10_mixed wsX10_in := goodIn_r _ [5] (by decide +kernel) (by decide +kernel)
set_option maxRecDepth 20000 in
theorem gX10_mixed_X10_in : GoodIn wsX10_mixed (va_wsS RX10 94 yX10_in wsX10_in) := goodIn_app (goodIn_of _ (by decide +kernel)) ggX10_mixed_X10_in
set_option maxRecDepth 20000 in
theorem ggX10_mixed_X10_isPart : GoodIn wsX10_mixed wsX10_isPart := goodIn_r _ [8, 2, 3, 4, 5] (by decide +kernel) (by decide +kernel)
set_option maxRecDepth 20000 in
theorem gX10_mixed_X10_isPart : GoodIn wsX10_mixed (va_wsS RX10 186 yX10_isPart wsX10_isPart) := goodIn_app (goodIn_of _ (by decide +kernel)) ggX10_mixed_X10_isPart
set_option maxRecDepth 20000 in
theorem ggX10_mixed_X10_bits : GoodIn wsX10_mixed wsX10_bits := goodIn_r _ [11] (by decide +kernel) (by decide +kernel)
set_option maxRecDepth 20000 in
theorem gX10_mixed_X10_bits : GoodIn wsX10_mixed (va_wsS RX10 239 yX10_bits wsX10_bits) := goodIn_app (goodIn_of _ (by decide +kernel)) ggX10_mixed_X10_bits
set_option maxRecDepth 20000 in
theorem ggX10_mixed_X10_partOf : GoodIn wsX10_mixed wsX10_partOf := goodIn_r _ [14, 15, 16, 4, 17] (by decide +kernel) (by decide +kernel)
set_option maxRecDepth 20000 in
theorem gX10_mixed_X10_partOf : GoodIn wsX10_mixed (va_wsS RX10 196 yX10_partOf wsX10_partOf) := goodIn_app (goodIn_of _ (by decide +kernel)) ggX10_mixed_X10_partOf
theorem dX10_mixed_0 : decode cX10_mixed 0 = .ok (.iload_n 1, 1) := by decide +kernel
theorem dX10_mixed_1 : decode cX10_mixed 1 = .ok (.i2l, 1) := by decide +kernel
theorem dX10_mixed_2 : decode cX10_mixed 2 = .ok (.lconst 1, 1) := by decide +kernel
theorem dX10_mixed_3 : decode cX10_mixed 3 = .ok (.ldc2_w 287, 3) := by decide +kernel
theorem dX10_mixed_6 : decode cX10_mixed 6 = .ok (.invokestatic 94, 3) := by decide +kernel
theorem dX10_mixed_9 : decode cX10_mixed 9 = .ok (.ifCond .eq 22, 3) := by decide +kernel
theorem dX10_mixed_12 : decode cX10_mixed 12 = .ok (.iload_n 2, 1) := by decide +kernel
theorem dX10_mixed_13 : decode cX10_mixed 13 = .ok (.i2l, 1) := by decide +kernel
theorem dX10_mixed_14 : decode cX10_mixed 14 = .ok (.lconst 1, 1) := by decide +kernel
theorem dX10_mixed_15 : decode cX10_mixed 15 = .ok (.ldc2_w 287, 3) := by decide +kernel
theorem dX10_mixed_18 : decode cX10_mixed 18 = .ok (.invokestatic 94, 3) := by decide +kernel
theorem dX10_mixed_21 : decode cX10_mixed 21 = .ok (.ifCond .eq 10, 3) := by decide +kernel
theorem dX10_mixed_24 : decode cX10_mixed 24 = .ok (.iload_n 3, 1) := by decide +kernel
theorem dX10_mixed_25 : decode cX10_mixed 25 = .ok (.invokestatic 186, 3) := by decide +kernel
theorem dX10_mixed_28 : decode cX10_mixed 28 = .ok (.ifCond .ne 6, 3) := by decide +kernel
theorem dX10_mixed_31 : decode cX10_mixed 31 = .ok (.bipush (-3), 2) := by decide +kernel
theorem dX10_mixed_33 : decode cX10_mixed 33 = .ok (.ireturn, 1) := by decide +kernel
theorem dX10_mixed_34 : decode cX10_mixed 34 = .ok (.iconst 0, 1) := by decide +kernel
theorem dX10_mixed_35 : decode cX10_mixed 35 = .ok (.istore 4, 2) := by decide +kernel
theorem dX10_mixed_37 : decode cX10_mixed 37 = .ok (.iconst 0, 1) := by decide +kernel
theorem dX10_mixed_38 : decode cX10_mixed 38 = .ok (.istore 5, 2) := by decide +kernel
theorem dX10_mixed_40 : decode cX10_mixed 40 = .ok (.iconst 0, 1) := by decide +kernel
theorem dX10_mixed_41 : decode cX10_mixed 41 = .ok (.istore 6, 2) := by decide +kernel
theorem dX10_mixed_43 : decode cX10_mixed 43 = .ok (.iload 6, 2) := by decide +kernel
theorem dX10_mixed_45 : decode cX10_mixed 45 = .ok (.bipush 16, 2) := by decide +kernel
theorem dX10_mixed_47 : decode cX10_mixed 47 = .ok (.if_icmp .ge 100, 3) := by decide +kernel
theorem dX10_mixed_50 : decode cX10_mixed 50 = .ok (.iconst 0, 1) := by decide +kernel
theorem dX10_mixed_51 : decode cX10_mixed 51 = .ok (.istore 7, 2) := by decide +kernel
theorem dX10_mixed_53 : decode cX10_mixed 53 = .ok (.iload 7, 2) := by decide +kernel
theorem dX10_mixed_55 : decode cX10_mixed 55 = .ok (.bipush 16, 2) := by decide +kernel
theorem dX10_mixed_57 : decode cX10_mixed 57 = .ok (.if_icmp .ge 84, 3) := by decide +kernel
theorem dX10_mixed_60 : decode cX10_mixed 60 = .ok (.iload_n 1, 1) := by decide +kernel
theorem dX10_mixed_61 : decode cX10_mixed 61 = .ok (.iload 6, 2) := by decide +kernel
theorem dX10_mixed_63 : decode cX10_mixed 63 = .ok (.ishr, 1) := by decide +kernel
theorem dX10_mixed_64 : decode cX10_mixed 64 = .ok (.iconst 1, 1) := by decide +kernel
theorem dX10_mixed_65 : decode cX10_mixed 65 = .ok (.iand, 1) := by decide +kernel
theorem dX10_mixed_66 : decode cX10_mixed 66 = .ok (.iconst 1, 1) := by decide +kernel
theorem dX10_mixed_67 : decode cX10_mixed 67 = .ok (.if_icmp .ne 17, 3) := by decide +kernel
theorem dX10_mixed_70 : decode cX10_mixed 70 = .ok (.iload_n 2, 1) := by decide +kernel
theorem dX10_mixed_71 : decode cX10_mixed 71 = .ok (.iload 7, 2) := by decide +kernel
theorem dX10_mixed_73 : decode cX10_mixed 73 = .ok (.ishr, 1) := by decide +kernel
theorem dX10_mixed_74 : decode cX10_mixed 74 = .ok (.iconst 1, 1) := by decide +kernel
theorem dX10_mixed_75 : decode cX10_mixed 75 = .ok (.iand, 1) := by decide +kernel
theorem dX10_mixed_76 : decode cX10_mixed 76 = .ok (.iconst 1, 1) := by decide +kernel
theorem dX10_mixed_77 : decode cX10_mixed 77 = .ok (.if_icmp .ne 7, 3) := by decide +kernel
theorem dX10_mixed_80 : decode cX10_mixed 80 = .ok (.iconst 1, 1) := by decide +kernel
theorem dX10_mixed_81 : decode cX10_mixed 81 = .ok (.goto 4, 3) := by decide +kernel
theorem dX10_mixed_84 : decode cX10_mixed 84 = .ok (.iconst 0, 1) := by decide +kernel
theorem dX10_mixed_85 : decode cX10_mixed 85 = .ok (.istore 8, 2) := by decide +kernel
theorem dX10_mixed_87 : decode cX10_mixed 87 = .ok (.iload 5, 2) := by decide +kernel
theorem dX10_mixed_89 : decode cX10_mixed 89 = .ok (.iload 8, 2) := by decide +kernel
theorem dX10_mixed_91 : decode cX10_mixed 91 = .ok (.ifCond .eq 7, 3) := by decide +kernel
theorem dX10_mixed_94 : decode cX10_mixed 94 = .ok (.iconst 1, 1) := by decide +kernel
theorem dX10_mixed_95 : decode cX10_mixed 95 = .ok (.goto 4, 3) := by decide +kernel
theorem dX10_mixed_98 : decode cX10_mixed 98 = .ok (.iconst 0, 1) := by decide +kernel
theorem dX10_mixed_99 : decode cX10_mixed 99 = .ok (.iadd, 1) := by decide +kernel
theorem dX10_mixed_100 : decode cX10_mixed 100 = .ok (.istore 5, 2) := by decide +kernel
theorem dX10_mixed_102 : decode cX10_mixed 102 = .ok (.iload 4, 2) := by decide +kernel
theorem dX10_mixed_104 : decode cX10_mixed 104 = .ok (.iload 8, 2) := by decide +kernel
theorem dX10_mixed_106 : decode cX10_mixed 106 = .ok (.ifCond .ne 7, 3) := by decide +kernel
theorem dX10_mixed_109 : decode cX10_mixed 109 = .ok (.iconst 0, 1) := by decide +kernel
theorem dX10_mixed_110 : decode cX10_mixed 110 = .ok (.goto 22, 3) := by decide +kernel
theorem dX10_mixed_113 : decode cX10_mixed 113 = .ok (.iload 6, 2) := by decide +kernel
theorem dX10_mixed_115 : decode cX10_mixed 115 = .ok (.iload 7, 2) := by decide +kernel
theorem dX10_mixed_117 : decode cX10_mixed 117 = .ok (.iand, 1) := by decide +kernel
theorem dX10_mixed_118 : decode cX10_mixed 118 = .ok (.invokestatic 239, 3) := by decide +kernel
theorem dX10_mixed_121 : decode cX10_mixed 121 = .ok (.iconst 2, 1) := by decide +kernel
theorem dX10_mixed_122 : decode cX10_mixed 122 = .ok (.irem, 1) := by decide +kernel
theorem dX10_mixed_123 : decode cX10_mixed 123 = .ok (.iconst 1, 1) := by decide +kernel
theorem dX10_mixed_124 : decode cX10_mixed 124 = .ok (.if_icmp .ne 7, 3) := by decide +kernel
theorem dX10_mixed_127 : decode cX10_mixed 127 = .ok (.iconst 1, 1) := by decide +kernel
theorem dX10_mixed_128 : decode cX10_mixed 128 = .ok (.goto 4, 3) := by decide +kernel
theorem dX10_mixed_131 : decode cX10_mixed 131 = .ok (.iconst (-1), 1) := by decide +kernel
theorem dX10_mixed_132 : decode cX10_mixed 132 = .ok (.iadd, 1) := by decide +kernel
theorem dX10_mixed_133 : decode cX10_mixed 133 = .ok (.istore 4, 2) := by decide +kernel
theorem dX10_mixed_135 : decode cX10_mixed 135 = .ok (.iinc 7 1, 3) := by decide +kernel
theorem dX10_mixed_138 : decode cX10_mixed 138 = .ok (.goto (-85), 3) := by decide +kernel
theorem dX10_mixed_141 : decode cX10_mixed 141 = .ok (.iinc 6 1, 3) := by decide +kernel
theorem dX10_mixed_144 : decode cX10_mixed 144 = .ok (.goto (-101), 3) := by decide +kernel
theorem dX10_mixed_147 : decode cX10_mixed 147 = .ok (.iload 4, 2) := by decide +kernel
theorem dX10_mixed_149 : decode cX10_mixed 149 = .ok (.ifCond .ge 10, 3) := by decide +kernel
theorem dX10_mixed_152 : decode cX10_mixed 152 = .ok (.iload 4, 2) := by decide +kernel
theorem dX10_mixed_154 : decode cX10_mixed 154 = .ok (.ineg, 1) := by decide +kernel
theorem dX10_mixed_155 : decode cX10_mixed 155 = .ok (.i2l, 1) := by decide +kernel
theorem dX10_mixed_156 : decode cX10_mixed 156 = .ok (.goto 6, 3) := by decide +kernel
theorem dX10_mixed_159 : decode cX10_mixed 159 = .ok (.iload 4, 2) := by decide +kernel
theorem dX10_mixed_161 : decode cX10_mixed 161 = .ok (.i2l, 1) := by decide +kernel
theorem dX10_mixed_162 : decode cX10_mixed 162 = .ok (.iload 5, 2) := by decide +kernel
theorem dX10_mixed_164 : decode cX10_mixed 164 = .ok (.i2l, 1) := by decide +kernel
theorem dX10_mixed_165 : decode cX10_mixed 165 = .ok (.iload_n 3, 1) := by decide +kernel
theorem dX10_mixed_166 : decode cX10_mixed 166 = .ok (.invokestatic 196, 3) := by decide +kernel
theorem dX10_mixed_169 : decode cX10_mixed 169 = .ok (.ireturn, 1) := by decide +kernel
theorem dX10_count_0 : decode cX10_count 0 = .ok (.iload_n 1, 1) := by decide +kernel
theorem dX10_count_1 : decode cX10_count 1 = .ok (.tableswitch 89 0 7 #[47, 52, 57, 62, 67, 74, 79, 84], 47) := by decide +kernel
theorem dX10_count_48 : decode cX10_count 48 = .ok (.aload_n 0, 1) := by decide +kernel
theorem dX10_count_49 : decode cX10_count 49 = .ok (.getfield 98, 3) := by decide +kernel
theorem dX10_count_52 : decode cX10_count 52 = .ok (.ireturn, 1) := by decide +kernel
theorem dX10_count_53 : decode cX10_count 53 = .ok (.aload_n 0, 1) := by decide +kernel
theorem dX10_count_54 : decode cX10_count 54 = .ok (.getfield 156, 3) := by decide +kernel
theorem dX10_count_57 : decode cX10_count 57 = .ok (.ireturn, 1) := by decide +kernel
theorem dX10_count_58 : decode cX10_count 58 = .ok (.aload_n 0, 1) := by decide +kernel
theorem dX10_count_59 : decode cX10_count 59 = .ok (.getfield 159, 3) := by decide +kernel
theorem dX10_count_62 : decode cX10_count 62 = .ok (.ireturn, 1) := by decide +kernel
theorem dX10_count_63 : decode cX10_count 63 = .ok (.aload_n 0, 1) := by decide +kernel
theorem dX10_count_64 : decode cX10_count 64 = .ok (.getfield 31, 3) := by decide +kernel
theorem dX10_count_67 : decode cX10_count 67 = .ok (.ireturn, 1) := by decide +kernel
theorem dX10_count_68 : decode cX10_count 68 = .ok (.iconst 1, 1) := by decide +kernel
theorem dX10_count_69 : decode cX10_count 69 = .ok (.aload_n 0, 1) := by decide +kernel
theorem dX10_count_70 : decode cX10_count 70 = .ok (.getfield 164, 3) := by decide +kernel
theorem dX10_count_73 : decode cX10_count 73 = .ok (.ishl, 1) := by decide +kernel
theorem dX10_count_74 : decode cX10_count 74 = .ok (.ireturn, 1) := by decide +kernel
theorem dX10_count_75 : decode cX10_count 75 = .ok (.aload_n 0, 1) := by decide +kernel
theorem dX10_count_76 : decode cX10_count 76 = .ok (.getfield 222, 3) := by decide +kernel
theorem dX10_count_79 : decode cX10_count 79 = .ok (.ireturn, 1) := by decide +kernel
theorem dX10_count_80 : decode cX10_count 80 = .ok (.aload_n 0, 1) := by decide +kernel
theorem dX10_count_81 : decode cX10_count 81 = .ok (.getfield 225, 3) := by decide +kernel
theorem dX10_count_84 : decode cX10_count 84 = .ok (.ireturn, 1) := by decide +kernel
theorem dX10_count_85 : decode cX10_count 85 = .ok (.aload_n 0, 1) := by decide +kernel
theorem dX10_count_86 : decode cX10_count 86 = .ok (.getfield 228, 3) := by decide +kernel
theorem dX10_count_89 : decode cX10_count 89 = .ok (.ireturn, 1) := by decide +kernel
theorem dX10_count_90 : decode cX10_count 90 = .ok (.bipush (-3), 2) := by decide +kernel
theorem dX10_count_92 : decode cX10_count 92 = .ok (.ireturn, 1) := by decide +kernel
